section
/-! a copy of the abstract heap and the printed functions of claims/whole, for quick trials: to be replaced -/
/-! THE ABSTRACT HEAP: next address, shapes, ints, longs, references -/
abbrev zSh : Type := Nat ⊕ (Nat × Nat)
abbrev zSt : Type := Nat × (Nat → Option zSh) × (Nat → Nat → Int32) × (Nat → Nat → Int64) × (Nat → Nat → Option Nat)
def z_nx (σ : zSt) : Nat := σ.1
def z_sh (σ : zSt) : Nat → Option zSh := σ.2.1
def z_I (σ : zSt) : Nat → Nat → Int32 := σ.2.2.1
def z_J (σ : zSt) : Nat → Nat → Int64 := σ.2.2.2.1
def z_R (σ : zSt) : Nat → Nat → Option Nat := σ.2.2.2.2
def z_u {α : Type} (f : Nat → Nat → α) (q j : Nat) (x : α) : Nat → Nat → α := fun a b => if a = q ∧ b = j then x else f a b
def z_pI (σ : zSt) (q j : Nat) (x : Int32) : zSt := (σ.1, σ.2.1, z_u σ.2.2.1 q j x, σ.2.2.2.1, σ.2.2.2.2)
def z_pJ (σ : zSt) (q j : Nat) (x : Int64) : zSt := (σ.1, σ.2.1, σ.2.2.1, z_u σ.2.2.2.1 q j x, σ.2.2.2.2)
def z_pR (σ : zSt) (q j : Nat) (x : Option Nat) : zSt := (σ.1, σ.2.1, σ.2.2.1, σ.2.2.2.1, z_u σ.2.2.2.2 q j x)
/-- a new cell of ours -/
def z_nw (σ : zSt) (t : zSh) : zSt := (σ.1 + 1, fun a => if a = σ.1 then some t else σ.2.1 a, fun a j => if a = σ.1 then 0 else σ.2.2.1 a j, fun a j => if a = σ.1 then 0 else σ.2.2.2.1 a j, fun a j => if a = σ.1 then none else σ.2.2.2.2 a j)
/-- a new cell that nothing is said of -/
def z_gr (σ : zSt) : zSt := (σ.1 + 1, σ.2)
def z_ln (σ : zSt) (q : Nat) : Nat := match z_sh σ q with
  | some (.inr x) => x.2
  | _ => 0
def z_ob (σ : zSt) (q ci : Nat) : Bool := match z_sh σ q with
  | some (.inl x) => x == ci
  | _ => false
def z_ar (σ : zSt) (q t : Nat) : Bool := match z_sh σ q with
  | some (.inr x) => x.1 == t
  | _ => false
def z_ix (i : Int32) (n : Nat) : Bool := decide (¬ i < 0) && decide (i.toNatClampNeg < n)
def z_bl (x : Int32) : Bool := x == 0 || x == 1
/-! small programs -/
def zl {α β : Type} (x : α) (k : α → Option β) : Option β := k x
def zb {α β : Type} (x : Option α) (k : α → Option β) : Option β := match x with
  | none => none
  | some v => k v
def zb2 {α β : Type} (x : Option (α × zSt)) (k : α → zSt → Option β) : Option β := match x with
  | none => none
  | some v => k v.1 v.2
def zc {β : Type} (x : Option Nat) (A : Option β) (B : Nat → Option β) : Option β := match x with
  | none => A
  | some v => B v
def zex {α β : Type} (x : Option β) : Option (α ⊕ β) := match x with
  | none => none
  | some v => some (.inr v)
def zloop {S R : Type} (body : S → Option (S ⊕ R)) : Nat → S → Option R
  | 0, _ => none
  | n + 1, s => match body s with
    | none => none
    | some (.inl t) => zloop body n t
    | some (.inr r) => some r
def zN : Nat := 5000
section ZP
variable {α β S R : Type}
theorem z_g {b : Bool} {k : Option β} {r : β} (h : (if b = true then k else none) = some r) : b = true ∧ k = some r := by
  cases b with
  | false => simp at h
  | true => exact ⟨rfl, h⟩
theorem z_gp {b : Prop} [inst : Decidable b] {k : Option β} {r : β} (h : (if b then k else none) = some r) : b ∧ k = some r := by
  by_cases hb : b
  · rw [if_pos hb] at h; exact ⟨hb, h⟩
  · rw [if_neg hb] at h; cases h
theorem z_ip {b : Prop} [inst : Decidable b] {A B : Option β} {r : β} (hb : b) (h : (if b then A else B) = some r) : A = some r := by
  rw [if_pos hb] at h; exact h
theorem z_in {b : Prop} [inst : Decidable b] {A B : Option β} {r : β} (hb : ¬ b) (h : (if b then A else B) = some r) : B = some r := by
  rw [if_neg hb] at h; exact h
theorem z_l {x : α} {k : α → Option β} {r : β} (h : zl x k = some r) : ∃ v, x = v ∧ k v = some r := ⟨x, rfl, h⟩
theorem z_b {x : Option α} {k : α → Option β} {r : β} (h : zb x k = some r) : ∃ v, x = some v ∧ k v = some r := by
  cases x with
  | none => cases h
  | some v => exact ⟨v, rfl, h⟩
theorem z_b2 {x : Option (α × zSt)} {k : α → zSt → Option β} {r : β} (h : zb2 x k = some r) : ∃ v σ, x = some (v, σ) ∧ k v σ = some r := by
  cases x with
  | none => cases h
  | some v => exact ⟨v.1, v.2, rfl, h⟩
theorem z_nn {x : Option Nat} {k : Nat → Option β} {r : β} (h : zc x none k = some r) : ∃ v, x = some v ∧ k v = some r := by
  cases x with
  | none => cases h
  | some v => exact ⟨v, rfl, h⟩
theorem z_c0 {A : Option β} {k : Nat → Option β} {r : β} (h : zc none A k = some r) : A = some r := h
theorem z_c1 {A : Option β} {k : Nat → Option β} {v : Nat} {r : β} (h : zc (some v) A k = some r) : k v = some r := h
theorem z_x {x : Option β} {r : α ⊕ β} (h : zex x = some r) : ∃ v, x = some v ∧ r = .inr v := by
  cases x with
  | none => cases h
  | some v => exact ⟨v, rfl, (Option.some.inj h).symm⟩
theorem z_lp {body : S → Option (S ⊕ R)} {n : Nat} {s : S} {r : R} (h : zloop body (n + 1) s = some r) : ∃ o, body s = some o ∧ ((∃ t, o = .inl t ∧ zloop body n t = some r) ∨ o = .inr r) := by
  unfold zloop at h
  cases hb : body s with
  | none => rw [hb] at h; cases h
  | some o =>
    rw [hb] at h
    cases o with
    | inl t => exact ⟨_, rfl, Or.inl ⟨t, rfl, h⟩⟩
    | inr v => exact ⟨_, rfl, Or.inr (congrArg Sum.inr (Option.some.inj h))⟩
end ZP
/-! reads behind writes -/
section ZR
variable (σ : zSt) (q j a b : Nat)
theorem z_I_pI (x : Int32) : z_I (z_pI σ q j x) a b = if a = q ∧ b = j then x else z_I σ a b := rfl
theorem z_J_pI (x : Int32) : z_J (z_pI σ q j x) = z_J σ := rfl
theorem z_R_pI (x : Int32) : z_R (z_pI σ q j x) = z_R σ := rfl
theorem z_sh_pI (x : Int32) : z_sh (z_pI σ q j x) = z_sh σ := rfl
theorem z_nx_pI (x : Int32) : z_nx (z_pI σ q j x) = z_nx σ := rfl
theorem z_J_pJ (x : Int64) : z_J (z_pJ σ q j x) a b = if a = q ∧ b = j then x else z_J σ a b := rfl
theorem z_I_pJ (x : Int64) : z_I (z_pJ σ q j x) = z_I σ := rfl
theorem z_R_pJ (x : Int64) : z_R (z_pJ σ q j x) = z_R σ := rfl
theorem z_sh_pJ (x : Int64) : z_sh (z_pJ σ q j x) = z_sh σ := rfl
theorem z_nx_pJ (x : Int64) : z_nx (z_pJ σ q j x) = z_nx σ := rfl
theorem z_R_pR (x : Option Nat) : z_R (z_pR σ q j x) a b = if a = q ∧ b = j then x else z_R σ a b := rfl
theorem z_I_pR (x : Option Nat) : z_I (z_pR σ q j x) = z_I σ := rfl
theorem z_J_pR (x : Option Nat) : z_J (z_pR σ q j x) = z_J σ := rfl
theorem z_sh_pR (x : Option Nat) : z_sh (z_pR σ q j x) = z_sh σ := rfl
theorem z_nx_pR (x : Option Nat) : z_nx (z_pR σ q j x) = z_nx σ := rfl
theorem z_I_gr : z_I (z_gr σ) = z_I σ := rfl
theorem z_J_gr : z_J (z_gr σ) = z_J σ := rfl
theorem z_R_gr : z_R (z_gr σ) = z_R σ := rfl
theorem z_sh_gr : z_sh (z_gr σ) = z_sh σ := rfl
theorem z_nx_gr : z_nx (z_gr σ) = z_nx σ + 1 := rfl
theorem z_I_nw (t : zSh) : z_I (z_nw σ t) a b = if a = z_nx σ then 0 else z_I σ a b := rfl
theorem z_J_nw (t : zSh) : z_J (z_nw σ t) a b = if a = z_nx σ then 0 else z_J σ a b := rfl
theorem z_R_nw (t : zSh) : z_R (z_nw σ t) a b = if a = z_nx σ then none else z_R σ a b := rfl
theorem z_sh_nw (t : zSh) : z_sh (z_nw σ t) a = if a = z_nx σ then some t else z_sh σ a := rfl
theorem z_nx_nw (t : zSh) : z_nx (z_nw σ t) = z_nx σ + 1 := rfl
end ZR
def z_nl (n : Int32) (cap : Nat) : Bool := decide (¬ n < 0) && decide (n.toNatClampNeg ≤ cap)
def z_cp (σ : zSt) (q0 q1 : Nat) (sp dp n : Int32) : zSt := (σ.1, σ.2.1, fun a j => if a = q1 then va_cpy (σ.2.2.1 q0) (σ.2.2.1 q1) sp.toNatClampNeg dp.toNatClampNeg n.toNatClampNeg j else σ.2.2.1 a j, σ.2.2.2.1, σ.2.2.2.2)
def z_cpg (q0 q1 : Nat) (sp dp n : Int32) (n0 n1 : Nat) : Bool := decide (¬ q0 = q1) && (decide (¬ sp < 0) && (decide (¬ dp < 0) && (decide (¬ n < 0) && (decide (sp.toNatClampNeg + n.toNatClampNeg ≤ n0) && decide (dp.toNatClampNeg + n.toNatClampNeg ≤ n1)))))
def vf_n64b (r : UInt64) : Bool := decide (r &&& 0x7fffffffffffffff ≤ 0x7ff0000000000000)
def zx {β : Type} (x : Nat ⊕ Int32) (A : Nat → Option β) (B : Int32 → Option β) : Option β := match x with
  | .inl k => A k
  | .inr v => B v
def z_lim (i : Int32) : Bool := decide (i.toNatClampNeg ≤ 2048)
set_option maxRecDepth 100000 in
def f_X0_init (σ : zSt) (l0 : Nat) : Option (Unit) :=
(some ())
set_option maxRecDepth 100000 in
def f_X0_clear (σ : zSt) (l0 : Nat) : Option (zSt) :=
(if z_ob σ l0 0 then (zl (z_pI σ l0 0 (0 : Int32)) (fun σ2 => (if z_ob σ2 l0 0 then (zl (z_pI σ2 l0 1 (0 : Int32)) (fun σ5 => (if z_ob σ5 l0 0 then (zl (z_pI σ5 l0 2 (0 : Int32)) (fun σ8 => (if z_ob σ8 l0 0 then (zl (z_pI σ8 l0 3 (0 : Int32)) (fun σ11 => (if z_ob σ11 l0 0 then (zl (z_pI σ11 l0 4 (0 : Int32)) (fun σ14 => (if z_ob σ14 l0 0 then (zl (z_pI σ14 l0 5 (0 : Int32)) (fun σ17 => (if z_ob σ17 l0 0 then (zl (z_pI σ17 l0 6 (0 : Int32)) (fun σ20 => (if z_ob σ20 l0 0 then (zl (z_pI σ20 l0 7 (0 : Int32)) (fun σ23 => (if z_ob σ23 l0 0 then (zl (z_pI σ23 l0 8 (0 : Int32)) (fun σ26 => (if z_ob σ26 l0 0 then (zl (z_pJ σ26 l0 9 (0 : Int64)) (fun σ29 => (some σ29))) else none))) else none))) else none))) else none))) else none))) else none))) else none))) else none))) else none))) else none)
set_option maxRecDepth 100000 in
def f_X0_copyFrom (σ : zSt) (l0 : Nat) (l1 : Nat) : Option (zSt) :=
(if z_ob σ l1 0 then (if z_ob σ l0 0 then (zl (z_pI σ l0 0 (z_I σ l1 0)) (fun σ3 => (if z_ob σ3 l1 0 then (if z_ob σ3 l0 0 then (zl (z_pI σ3 l0 1 (z_I σ3 l1 1)) (fun σ7 => (if z_ob σ7 l1 0 then (if z_ob σ7 l0 0 then (zl (z_pI σ7 l0 2 (z_I σ7 l1 2)) (fun σ11 => (if z_ob σ11 l1 0 then (if z_ob σ11 l0 0 then (zl (z_pI σ11 l0 3 (z_I σ11 l1 3)) (fun σ15 => (if z_ob σ15 l1 0 then (if z_ob σ15 l0 0 then (zl (z_pI σ15 l0 4 (z_I σ15 l1 4)) (fun σ19 => (if z_ob σ19 l1 0 then (if z_ob σ19 l0 0 then (zl (z_pI σ19 l0 5 (z_I σ19 l1 5)) (fun σ23 => (if z_ob σ23 l1 0 then (if z_ob σ23 l0 0 then (zl (z_pI σ23 l0 6 (z_I σ23 l1 6)) (fun σ27 => (if z_ob σ27 l1 0 then (if z_ob σ27 l0 0 then (zl (z_pI σ27 l0 7 (z_I σ27 l1 7)) (fun σ31 => (if z_ob σ31 l1 0 then (if z_ob σ31 l0 0 then (zl (z_pI σ31 l0 8 (z_I σ31 l1 8)) (fun σ35 => (if z_ob σ35 l1 0 then (if z_ob σ35 l0 0 then (zl (z_pJ σ35 l0 9 (z_J σ35 l1 9)) (fun σ39 => (some σ39))) else none) else none))) else none) else none))) else none) else none))) else none) else none))) else none) else none))) else none) else none))) else none) else none))) else none) else none))) else none) else none))) else none) else none)
set_option maxRecDepth 100000 in
def f_X0_addSent (σ : zSt) (l0 : Nat) (l1 : Int32) (l2 : Int32) : Option (zSt) :=
(if z_ob σ l0 0 then (zl (z_pI σ l0 1 ((z_I σ l0 1) + (1 : Int32))) (fun σ2 => (if z_ob σ2 l0 0 then (zl (z_pI σ2 l0 6 ((z_I σ2 l0 6) + l1)) (fun σ5 => (if z_ob σ5 l0 0 then (zl (z_pJ σ5 l0 9 ((z_J σ5 l0 9) + l2.toInt64)) (fun σ8 => (if z_ob σ8 l0 0 then (zl (z_pI σ8 l0 8 (if (z_I σ8 l0 8) < l2 then l2 else (z_I σ8 l0 8))) (fun σ11 => (some σ11))) else none))) else none))) else none))) else none)
set_option maxRecDepth 100000 in
def f_X0_value (σ : zSt) (l0 : Nat) (l1 : Int32) : Option (Int32) :=
(if l1 = (0 : Int32) then
(if z_ob σ l0 0 then (some (z_I σ l0 0)) else none)
else
(if l1 = (1 : Int32) then
(if z_ob σ l0 0 then (some (z_I σ l0 1)) else none)
else
(if l1 = (2 : Int32) then
(if z_ob σ l0 0 then (some (z_I σ l0 2)) else none)
else
(if l1 = (3 : Int32) then
(if z_ob σ l0 0 then (some (z_I σ l0 3)) else none)
else
(if l1 = (4 : Int32) then
(if z_ob σ l0 0 then (some (z_I σ l0 4)) else none)
else
(if l1 = (5 : Int32) then
(if z_ob σ l0 0 then (some (z_I σ l0 5)) else none)
else
(if z_ob σ l0 0 then (some (z_I σ l0 6)) else none)))))))
set_option maxRecDepth 100000 in
def f_X7_init (σ : zSt) (l0 : Nat) (l1 : Int32) (l2 : Int32) : Option (zSt) :=
(if z_ob σ l0 7 then (zl (z_pI σ l0 0 l2) (fun σ2 => (if z_nl (l1 * l2) 600 then (zl (z_nw σ2 (.inr (0, (l1 * l2).toNatClampNeg))) (fun σ5 => (if z_ob σ5 l0 7 then (zl (z_pR σ5 l0 1 (some (z_nx σ2))) (fun σ8 => (some σ8))) else none))) else none))) else none)
set_option maxRecDepth 100000 in
def f_X3_init (σ : zSt) (l0 : Nat) : Option (zSt) :=
(zl (z_nw σ (.inl 7)) (fun σ1 => (zb (f_X7_init σ1 (z_nx σ) (100 : Int32) (6 : Int32)) (fun σ4 => (if z_ob σ4 l0 3 then (zl (z_pR σ4 l0 0 (some (z_nx σ))) (fun σ6 => (some σ6))) else none)))))
set_option maxRecDepth 100000 in
def f_X4_init (σ : zSt) (l0 : Nat) : Option (zSt) :=
(zl (z_nw σ (.inr (0, 20))) (fun σ1 => (if z_ob σ1 l0 4 then (zl (z_pR σ1 l0 0 (some (z_nx σ))) (fun σ4 => (zl (z_nw σ4 (.inr (0, 20))) (fun σ6 => (if z_ob σ6 l0 4 then (zl (z_pR σ6 l0 1 (some (z_nx σ4))) (fun σ9 => (some σ9))) else none))))) else none)))
set_option maxRecDepth 100000 in
def f_X6_init (σ : zSt) (l0 : Nat) : Option (Unit) :=
(some ())
set_option maxRecDepth 100000 in
def f_X2_init (σ : zSt) (l0 : Nat) : Option (zSt) :=
(zl (z_nw σ (.inr (3, 8))) (fun σ1 => (if z_ob σ1 l0 2 then (zl (z_pR σ1 l0 0 (some (z_nx σ))) (fun σ4 => (zl (z_nw σ4 (.inl 3)) (fun σ6 => (zb (f_X3_init σ6 (z_nx σ4)) (fun σ9 => (if z_ob σ9 l0 2 then (zl (z_pR σ9 l0 1 (some (z_nx σ4))) (fun σ11 => (zl (z_nw σ11 (.inl 4)) (fun σ13 => (zb (f_X4_init σ13 (z_nx σ11)) (fun σ16 => (if z_ob σ16 l0 2 then (zl (z_pR σ16 l0 2 (some (z_nx σ11))) (fun σ18 => (zl (z_nw σ18 (.inl 0)) (fun σ20 => (zb (f_X0_init σ20 (z_nx σ18)) (fun r23 => (if z_ob σ20 l0 2 then (zl (z_pR σ20 l0 3 (some (z_nx σ18))) (fun σ25 => (zl (z_nw σ25 (.inl 7)) (fun σ27 => (zb (f_X7_init σ27 (z_nx σ25) (40 : Int32) (4 : Int32)) (fun σ30 => (if z_ob σ30 l0 2 then (zl (z_pR σ30 l0 4 (some (z_nx σ25))) (fun σ32 => (if z_ob σ32 l0 2 then (zl (z_pI σ32 l0 6 (60 : Int32)) (fun σ35 => (if z_ob σ35 l0 2 then (zl (z_pI σ35 l0 7 (4 : Int32)) (fun σ38 => (if z_ob σ38 l0 2 then (zl (z_pI σ38 l0 8 (3 : Int32)) (fun σ41 => (if z_ob σ41 l0 2 then (zl (z_pI σ41 l0 10 (-1 : Int32)) (fun σ44 => (if z_ob σ44 l0 2 then (zc (z_R σ44 l0 0) none (fun q47 => (if z_ar σ44 q47 3 then (if (Int32.ofNat (z_ln σ44 q47)) ≤ (0 : Int32) then
(some σ44)
else
(zc (z_R σ44 l0 0) none (fun q50 => (zl (z_nw σ44 (.inl 6)) (fun σ52 => (zb (f_X6_init σ52 (z_nx σ44)) (fun r55 => (if z_ar σ52 q50 3 then (if z_ix (0 : Int32) (z_ln σ52 q50) then (if z_ob σ52 (z_nx σ44) 6 then (zl (z_pR σ52 q50 (0 : Int32).toNatClampNeg (some (z_nx σ44))) (fun σ59 => (if z_ob σ59 l0 2 then (zc (z_R σ59 l0 0) none (fun q62 => (if z_ar σ59 q62 3 then (if (Int32.ofNat (z_ln σ59 q62)) ≤ (1 : Int32) then
(some σ59)
else
(zc (z_R σ59 l0 0) none (fun q65 => (zl (z_nw σ59 (.inl 6)) (fun σ67 => (zb (f_X6_init σ67 (z_nx σ59)) (fun r70 => (if z_ar σ67 q65 3 then (if z_ix (1 : Int32) (z_ln σ67 q65) then (if z_ob σ67 (z_nx σ59) 6 then (zl (z_pR σ67 q65 (1 : Int32).toNatClampNeg (some (z_nx σ59))) (fun σ74 => (if z_ob σ74 l0 2 then (zc (z_R σ74 l0 0) none (fun q77 => (if z_ar σ74 q77 3 then (if (Int32.ofNat (z_ln σ74 q77)) ≤ (2 : Int32) then
(some σ74)
else
(zc (z_R σ74 l0 0) none (fun q80 => (zl (z_nw σ74 (.inl 6)) (fun σ82 => (zb (f_X6_init σ82 (z_nx σ74)) (fun r85 => (if z_ar σ82 q80 3 then (if z_ix (2 : Int32) (z_ln σ82 q80) then (if z_ob σ82 (z_nx σ74) 6 then (zl (z_pR σ82 q80 (2 : Int32).toNatClampNeg (some (z_nx σ74))) (fun σ89 => (if z_ob σ89 l0 2 then (zc (z_R σ89 l0 0) none (fun q92 => (if z_ar σ89 q92 3 then (if (Int32.ofNat (z_ln σ89 q92)) ≤ (3 : Int32) then
(some σ89)
else
(zc (z_R σ89 l0 0) none (fun q95 => (zl (z_nw σ89 (.inl 6)) (fun σ97 => (zb (f_X6_init σ97 (z_nx σ89)) (fun r100 => (if z_ar σ97 q95 3 then (if z_ix (3 : Int32) (z_ln σ97 q95) then (if z_ob σ97 (z_nx σ89) 6 then (zl (z_pR σ97 q95 (3 : Int32).toNatClampNeg (some (z_nx σ89))) (fun σ104 => (if z_ob σ104 l0 2 then (zc (z_R σ104 l0 0) none (fun q107 => (if z_ar σ104 q107 3 then (if (Int32.ofNat (z_ln σ104 q107)) ≤ (4 : Int32) then
(some σ104)
else
(zc (z_R σ104 l0 0) none (fun q110 => (zl (z_nw σ104 (.inl 6)) (fun σ112 => (zb (f_X6_init σ112 (z_nx σ104)) (fun r115 => (if z_ar σ112 q110 3 then (if z_ix (4 : Int32) (z_ln σ112 q110) then (if z_ob σ112 (z_nx σ104) 6 then (zl (z_pR σ112 q110 (4 : Int32).toNatClampNeg (some (z_nx σ104))) (fun σ119 => (if z_ob σ119 l0 2 then (zc (z_R σ119 l0 0) none (fun q122 => (if z_ar σ119 q122 3 then (if (Int32.ofNat (z_ln σ119 q122)) ≤ (5 : Int32) then
(some σ119)
else
(zc (z_R σ119 l0 0) none (fun q125 => (zl (z_nw σ119 (.inl 6)) (fun σ127 => (zb (f_X6_init σ127 (z_nx σ119)) (fun r130 => (if z_ar σ127 q125 3 then (if z_ix (5 : Int32) (z_ln σ127 q125) then (if z_ob σ127 (z_nx σ119) 6 then (zl (z_pR σ127 q125 (5 : Int32).toNatClampNeg (some (z_nx σ119))) (fun σ134 => (if z_ob σ134 l0 2 then (zc (z_R σ134 l0 0) none (fun q137 => (if z_ar σ134 q137 3 then (if (Int32.ofNat (z_ln σ134 q137)) ≤ (6 : Int32) then
(some σ134)
else
(zc (z_R σ134 l0 0) none (fun q140 => (zl (z_nw σ134 (.inl 6)) (fun σ142 => (zb (f_X6_init σ142 (z_nx σ134)) (fun r145 => (if z_ar σ142 q140 3 then (if z_ix (6 : Int32) (z_ln σ142 q140) then (if z_ob σ142 (z_nx σ134) 6 then (zl (z_pR σ142 q140 (6 : Int32).toNatClampNeg (some (z_nx σ134))) (fun σ149 => (if z_ob σ149 l0 2 then (zc (z_R σ149 l0 0) none (fun q152 => (if z_ar σ149 q152 3 then (if (Int32.ofNat (z_ln σ149 q152)) ≤ (7 : Int32) then
(some σ149)
else
(zc (z_R σ149 l0 0) none (fun q155 => (zl (z_nw σ149 (.inl 6)) (fun σ157 => (zb (f_X6_init σ157 (z_nx σ149)) (fun r160 => (if z_ar σ157 q155 3 then (if z_ix (7 : Int32) (z_ln σ157 q155) then (if z_ob σ157 (z_nx σ149) 6 then (zl (z_pR σ157 q155 (7 : Int32).toNatClampNeg (some (z_nx σ149))) (fun σ164 => (if z_ob σ164 l0 2 then (zc (z_R σ164 l0 0) none (fun q167 => (if z_ar σ164 q167 3 then (if (Int32.ofNat (z_ln σ164 q167)) ≤ (8 : Int32) then
(some σ164)
else
(zc (z_R σ164 l0 0) none (fun q170 => (zl (z_nw σ164 (.inl 6)) (fun σ172 => (zb (f_X6_init σ172 (z_nx σ164)) (fun r175 => (if z_ar σ172 q170 3 then (if z_ix (8 : Int32) (z_ln σ172 q170) then (if z_ob σ172 (z_nx σ164) 6 then (zl (z_pR σ172 q170 (8 : Int32).toNatClampNeg (some (z_nx σ164))) (fun σ179 => none)) else none) else none) else none)))))))) else none))) else none))) else none) else none) else none)))))))) else none))) else none))) else none) else none) else none)))))))) else none))) else none))) else none) else none) else none)))))))) else none))) else none))) else none) else none) else none)))))))) else none))) else none))) else none) else none) else none)))))))) else none))) else none))) else none) else none) else none)))))))) else none))) else none))) else none) else none) else none)))))))) else none))) else none))) else none) else none) else none)))))))) else none))) else none))) else none))) else none))) else none))) else none))) else none))))))) else none))))))) else none))))))) else none))))))) else none)))
set_option maxRecDepth 100000 in
def f_X1_init (σ : zSt) (l0 : Nat) : Option (zSt) :=
(zl (z_nw σ (.inr (4, 4))) (fun σ1 => (if z_ob σ1 l0 1 then (zl (z_pR σ1 l0 0 (some (z_nx σ))) (fun σ4 => (if z_ob σ4 l0 1 then (zc (z_R σ4 l0 0) none (fun q7 => (if z_ar σ4 q7 4 then (if (Int32.ofNat (z_ln σ4 q7)) ≤ (0 : Int32) then
(some σ4)
else
(zc (z_R σ4 l0 0) none (fun q10 => (zl (z_nw σ4 (.inl 2)) (fun σ12 => (zb (f_X2_init σ12 (z_nx σ4)) (fun σ15 => (if z_ar σ15 q10 4 then (if z_ix (0 : Int32) (z_ln σ15 q10) then (if z_ob σ15 (z_nx σ4) 2 then (zl (z_pR σ15 q10 (0 : Int32).toNatClampNeg (some (z_nx σ4))) (fun σ19 => (if z_ob σ19 l0 1 then (zc (z_R σ19 l0 0) none (fun q22 => (if z_ar σ19 q22 4 then (if (Int32.ofNat (z_ln σ19 q22)) ≤ (1 : Int32) then
(some σ19)
else
(zc (z_R σ19 l0 0) none (fun q25 => (zl (z_nw σ19 (.inl 2)) (fun σ27 => (zb (f_X2_init σ27 (z_nx σ19)) (fun σ30 => (if z_ar σ30 q25 4 then (if z_ix (1 : Int32) (z_ln σ30 q25) then (if z_ob σ30 (z_nx σ19) 2 then (zl (z_pR σ30 q25 (1 : Int32).toNatClampNeg (some (z_nx σ19))) (fun σ34 => (if z_ob σ34 l0 1 then (zc (z_R σ34 l0 0) none (fun q37 => (if z_ar σ34 q37 4 then (if (Int32.ofNat (z_ln σ34 q37)) ≤ (2 : Int32) then
(some σ34)
else
(zc (z_R σ34 l0 0) none (fun q40 => (zl (z_nw σ34 (.inl 2)) (fun σ42 => (zb (f_X2_init σ42 (z_nx σ34)) (fun σ45 => (if z_ar σ45 q40 4 then (if z_ix (2 : Int32) (z_ln σ45 q40) then (if z_ob σ45 (z_nx σ34) 2 then (zl (z_pR σ45 q40 (2 : Int32).toNatClampNeg (some (z_nx σ34))) (fun σ49 => (if z_ob σ49 l0 1 then (zc (z_R σ49 l0 0) none (fun q52 => (if z_ar σ49 q52 4 then (if (Int32.ofNat (z_ln σ49 q52)) ≤ (3 : Int32) then
(some σ49)
else
(zc (z_R σ49 l0 0) none (fun q55 => (zl (z_nw σ49 (.inl 2)) (fun σ57 => (zb (f_X2_init σ57 (z_nx σ49)) (fun σ60 => (if z_ar σ60 q55 4 then (if z_ix (3 : Int32) (z_ln σ60 q55) then (if z_ob σ60 (z_nx σ49) 2 then (zl (z_pR σ60 q55 (3 : Int32).toNatClampNeg (some (z_nx σ49))) (fun σ64 => (if z_ob σ64 l0 1 then (zc (z_R σ64 l0 0) none (fun q67 => (if z_ar σ64 q67 4 then (if (Int32.ofNat (z_ln σ64 q67)) ≤ (4 : Int32) then
(some σ64)
else
(zc (z_R σ64 l0 0) none (fun q70 => (zl (z_nw σ64 (.inl 2)) (fun σ72 => (zb (f_X2_init σ72 (z_nx σ64)) (fun σ75 => (if z_ar σ75 q70 4 then (if z_ix (4 : Int32) (z_ln σ75 q70) then (if z_ob σ75 (z_nx σ64) 2 then (zl (z_pR σ75 q70 (4 : Int32).toNatClampNeg (some (z_nx σ64))) (fun σ79 => none)) else none) else none) else none)))))))) else none))) else none))) else none) else none) else none)))))))) else none))) else none))) else none) else none) else none)))))))) else none))) else none))) else none) else none) else none)))))))) else none))) else none))) else none) else none) else none)))))))) else none))) else none))) else none)))
set_option maxRecDepth 100000 in
def f_X1_stateAt_23 (σ : zSt) (s0 : Option Nat) : Option (Option Nat) :=
(some s0)
set_option maxRecDepth 100000 in
def f_X1_stateAt_22 (σ : zSt) : Option (Option Nat) :=
(f_X1_stateAt_23 σ none)
set_option maxRecDepth 100000 in
def f_X1_stateAt (σ : zSt) (l0 : Nat) (l1 : Int32) : Option (Option Nat) :=
(if l1 < 0 then
(f_X1_stateAt_22 σ)
else
(if z_ob σ l0 1 then (zc (z_R σ l0 0) none (fun q2 => (if z_ar σ q2 4 then (if (Int32.ofNat (z_ln σ q2)) ≤ l1 then
(f_X1_stateAt_22 σ)
else
(zc (z_R σ l0 0) none (fun q5 => (if z_ar σ q5 4 then (if z_ix l1 (z_ln σ q5) then (zl (z_R σ q5 l1.toNatClampNeg) (fun v9 => (f_X1_stateAt_23 σ v9))) else none) else none)))) else none))) else none))
set_option maxRecDepth 100000 in
def b_X1_dropOldest_8 (l0 : Nat) (l1 : Option Nat) (σ : zSt) (l2 : Int32) : Option ((zSt × Int32) ⊕ (zSt)) :=
(if z_ob σ l0 1 then (zc (z_R σ l0 0) none (fun q2 => (if z_ar σ q2 4 then (if (Int32.ofNat (z_ln σ q2)) ≤ l2 then
(zex (zc (z_R σ l0 0) none (fun q5 => (if z_ar σ q5 4 then (zl (z_pI σ l0 1 ((Int32.ofNat (z_ln σ q5)) - (1 : Int32))) (fun σ8 => (if z_ob σ8 l0 1 then (zc (z_R σ8 l0 0) none (fun q11 => (zc l1 none (fun a13 => (if z_ar σ8 q11 4 then (if z_ix (z_I σ8 l0 1) (z_ln σ8 q11) then (if z_ob σ8 a13 2 then (zl (z_pR σ8 q11 (z_I σ8 l0 1).toNatClampNeg (some a13)) (fun σ18 => (some σ18))) else none) else none) else none))))) else none))) else none))))
else
(zc (z_R σ l0 0) none (fun q21 => (zc (z_R σ l0 0) none (fun q23 => (if z_ar σ q23 4 then (if z_ix l2 (z_ln σ q23) then (zl (z_R σ q23 l2.toNatClampNeg) (fun v27 => (zc v27 none (fun a29 => (if z_ar σ q21 4 then (if z_ix (l2 - (1 : Int32)) (z_ln σ q21) then (if z_ob σ a29 2 then (zl (z_pR σ q21 (l2 - (1 : Int32)).toNatClampNeg (some a29)) (fun σ34 => (some (.inl (σ34, (l2 + (1 : Int32))))))) else none) else none) else none))))) else none) else none)))))) else none))) else none)
set_option maxRecDepth 100000 in
def f_X1_dropOldest_8 (l0 : Nat) (l1 : Option Nat) (σ : zSt) (l2 : Int32) : Option (zSt) := zloop (fun (t : zSt × Int32) => b_X1_dropOldest_8 l0 l1 t.1 t.2) zN (σ, l2)
set_option maxRecDepth 100000 in
def f_X1_dropOldest (σ : zSt) (l0 : Nat) : Option (zSt) :=
(if z_ob σ l0 1 then (zb (f_X1_stateAt σ l0 (0 : Int32)) (fun r3 => (f_X1_dropOldest_8 l0 r3 σ (1 : Int32)))) else none)
set_option maxRecDepth 100000 in
def f_X2_takeTimes (σ : zSt) (l0 : Nat) (l1 : Nat) : Option (zSt) :=
(if z_ob σ l1 2 then (if z_ob σ l0 2 then (zl (z_pI σ l0 6 (z_I σ l1 6)) (fun σ3 => (if z_ob σ3 l1 2 then (if z_ob σ3 l0 2 then (zl (z_pI σ3 l0 7 (z_I σ3 l1 7)) (fun σ7 => (if z_ob σ7 l1 2 then (if z_ob σ7 l0 2 then (zl (z_pI σ7 l0 8 (z_I σ7 l1 8)) (fun σ11 => (some σ11))) else none) else none))) else none) else none))) else none) else none)
set_option maxRecDepth 100000 in
def f_X7_copyFrom (σ : zSt) (l0 : Nat) (l1 : Nat) (l2 : Int32) : Option (zSt) :=
(if z_ob σ l0 7 then (zc (z_R σ l0 1) none (fun q2 => (if z_ar σ q2 0 then (if z_ob σ l1 7 then (zc (z_R σ l1 1) none (fun q6 => (if z_ar σ q6 0 then (zl (if (Int32.ofNat (z_ln σ q6)) < (Int32.ofNat (z_ln σ q2)) then (Int32.ofNat (z_ln σ q6)) else (Int32.ofNat (z_ln σ q2))) (fun x9 => (zl (if (0 : Int32) < (if (l2 * (z_I σ l0 0)) < x9 then (l2 * (z_I σ l0 0)) else x9) then (if (l2 * (z_I σ l0 0)) < x9 then (l2 * (z_I σ l0 0)) else x9) else (0 : Int32)) (fun x11 => (zc (z_R σ l1 1) none (fun q13 => (zc (z_R σ l0 1) none (fun q15 => (if z_ar σ q13 0 then (if z_ar σ q15 0 then (if z_cpg q13 q15 (0 : Int32) (0 : Int32) x11 (z_ln σ q13) (z_ln σ q15) then (zl (z_cp σ q13 q15 (0 : Int32) (0 : Int32) x11) (fun σ20 => (some σ20))) else none) else none) else none))))))))) else none))) else none) else none))) else none)
set_option maxRecDepth 100000 in
def f_X3_copyFrom (σ : zSt) (l0 : Nat) (l1 : Nat) : Option (zSt) :=
(if z_ob σ l1 3 then (if z_ob σ l0 3 then (zl (z_pI σ l0 1 (z_I σ l1 1)) (fun σ3 => (if z_ob σ3 l0 3 then (zc (z_R σ3 l0 0) none (fun q6 => (if z_ob σ3 l1 3 then (zc (z_R σ3 l1 0) none (fun q9 => (if z_ob σ3 q6 7 then (zb (f_X7_copyFrom σ3 q6 q9 (z_I σ3 l1 1)) (fun σ13 => (some σ13))) else none))) else none))) else none))) else none) else none)
set_option maxRecDepth 100000 in
def f_X4_copyFrom_54 (σ : zSt) : Option (zSt) :=
(some σ)
set_option maxRecDepth 100000 in
def b_X4_copyFrom_10 (l0 : Nat) (l1 : Nat) (σ : zSt) (l2 : Int32) : Option ((zSt × Int32) ⊕ (zSt)) :=
(if z_ob σ l0 4 then (if (z_I σ l0 2) ≤ l2 then
(zex (f_X4_copyFrom_54 σ))
else
(if (20 : Int32) ≤ l2 then
(zex (f_X4_copyFrom_54 σ))
else
(zc (z_R σ l0 0) none (fun q4 => (if z_ob σ l1 4 then (zc (z_R σ l1 0) none (fun q7 => (if z_ar σ q7 0 then (if z_ix l2 (z_ln σ q7) then (if z_ar σ q4 0 then (if z_ix l2 (z_ln σ q4) then (zl (z_pI σ q4 l2.toNatClampNeg (z_I σ q7 l2.toNatClampNeg)) (fun σ13 => (if z_ob σ13 l0 4 then (zc (z_R σ13 l0 1) none (fun q16 => (if z_ob σ13 l1 4 then (zc (z_R σ13 l1 1) none (fun q19 => (if z_ar σ13 q19 0 then (if z_ix l2 (z_ln σ13 q19) then (if z_ar σ13 q16 0 then (if z_ix l2 (z_ln σ13 q16) then (zl (z_pI σ13 q16 l2.toNatClampNeg (z_I σ13 q19 l2.toNatClampNeg)) (fun σ25 => (some (.inl (σ25, (l2 + (1 : Int32))))))) else none) else none) else none) else none))) else none))) else none))) else none) else none) else none) else none))) else none))))) else none)
set_option maxRecDepth 100000 in
def f_X4_copyFrom_10 (l0 : Nat) (l1 : Nat) (σ : zSt) (l2 : Int32) : Option (zSt) := zloop (fun (t : zSt × Int32) => b_X4_copyFrom_10 l0 l1 t.1 t.2) zN (σ, l2)
set_option maxRecDepth 100000 in
def f_X4_copyFrom (σ : zSt) (l0 : Nat) (l1 : Nat) : Option (zSt) :=
(if z_ob σ l1 4 then (if z_ob σ l0 4 then (zl (z_pI σ l0 2 (z_I σ l1 2)) (fun σ3 => (f_X4_copyFrom_10 l0 l1 σ3 (0 : Int32)))) else none) else none)
set_option maxRecDepth 100000 in
def f_X2_logLength (σ : zSt) (l0 : Nat) : Option (Int32) :=
(if z_ob σ l0 2 then (zc (z_R σ l0 3) none (fun q2 => (if z_ob σ q2 0 then (some (if (40 : Int32) < (z_I σ q2 0) then (40 : Int32) else (z_I σ q2 0))) else none))) else none)
set_option maxRecDepth 100000 in
def f_X2_stationIn_31 (σ : zSt) (s0 : Option Nat) : Option (Option Nat) :=
(some s0)
set_option maxRecDepth 100000 in
def f_X2_stationIn_30 (σ : zSt) : Option (Option Nat) :=
(f_X2_stationIn_31 σ none)
set_option maxRecDepth 100000 in
def f_X2_stationIn (σ : zSt) (l0 : Nat) (l1 : Int32) : Option (Option Nat) :=
(if l1 < 0 then
(f_X2_stationIn_30 σ)
else
(if z_ob σ l0 2 then (if (z_I σ l0 5) ≤ l1 then
(f_X2_stationIn_30 σ)
else
(zc (z_R σ l0 0) none (fun q2 => (if z_ar σ q2 3 then (if (Int32.ofNat (z_ln σ q2)) ≤ l1 then
(f_X2_stationIn_30 σ)
else
(zc (z_R σ l0 0) none (fun q5 => (if z_ar σ q5 3 then (if z_ix l1 (z_ln σ q5) then (zl (z_R σ q5 l1.toNatClampNeg) (fun v9 => (f_X2_stationIn_31 σ v9))) else none) else none)))) else none)))) else none))
set_option maxRecDepth 100000 in
def f_X6_copyFrom (σ : zSt) (l0 : Nat) (l1 : Nat) : Option (zSt) :=
(if z_ob σ l1 6 then (if z_ob σ l0 6 then (zl (z_pI σ l0 0 (z_I σ l1 0)) (fun σ3 => (if z_ob σ3 l1 6 then (if z_ob σ3 l0 6 then (if z_bl (z_I σ3 l1 1) then (zl (z_pI σ3 l0 1 (z_I σ3 l1 1)) (fun σ8 => (if z_ob σ8 l1 6 then (if z_ob σ8 l0 6 then (if z_bl (z_I σ8 l1 2) then (zl (z_pI σ8 l0 2 (z_I σ8 l1 2)) (fun σ13 => (if z_ob σ13 l1 6 then (if z_ob σ13 l0 6 then (zl (z_pI σ13 l0 3 (z_I σ13 l1 3)) (fun σ17 => (if z_ob σ17 l1 6 then (if z_ob σ17 l0 6 then (zl (z_pI σ17 l0 4 (z_I σ17 l1 4)) (fun σ21 => (if z_ob σ21 l1 6 then (if z_ob σ21 l0 6 then (zl (z_pI σ21 l0 5 (z_I σ21 l1 5)) (fun σ25 => (if z_ob σ25 l1 6 then (if z_ob σ25 l0 6 then (zl (z_pI σ25 l0 6 (z_I σ25 l1 6)) (fun σ29 => (if z_ob σ29 l1 6 then (if z_ob σ29 l0 6 then (zl (z_pI σ29 l0 7 (z_I σ29 l1 7)) (fun σ33 => (if z_ob σ33 l1 6 then (if z_ob σ33 l0 6 then (zl (z_pI σ33 l0 8 (z_I σ33 l1 8)) (fun σ37 => (some σ37))) else none) else none))) else none) else none))) else none) else none))) else none) else none))) else none) else none))) else none) else none))) else none) else none) else none))) else none) else none) else none))) else none) else none)
set_option maxRecDepth 100000 in
def f_X2_copyStations_46 (σ : zSt) (l0 : Nat) (l1 : Nat) (l2 : Int32) : Option ((zSt × Int32) ⊕ (zSt)) :=
(some (.inl (σ, (l2 + (1 : Int32)))))
set_option maxRecDepth 100000 in
def b_X2_copyStations_10 (l0 : Nat) (l1 : Nat) (σ : zSt) (l2 : Int32) : Option ((zSt × Int32) ⊕ (zSt)) :=
(if z_ob σ l0 2 then (if (z_I σ l0 5) ≤ l2 then
(zex (some σ))
else
(if z_ob σ l1 2 then (zb (f_X2_stationIn σ l1 l2) (fun r5 => (zb (f_X2_stationIn σ l0 l2) (fun r7 => (zc r5
(f_X2_copyStations_46 σ l0 l1 l2)
(fun a8 => (zc r7
(f_X2_copyStations_46 σ l0 l1 l2)
(fun a9 => (if z_ob σ a9 6 then (zb (f_X6_copyFrom σ a9 a8) (fun σ12 => (f_X2_copyStations_46 σ12 l0 l1 l2))) else none))))))))) else none)) else none)
set_option maxRecDepth 100000 in
def f_X2_copyStations_10 (l0 : Nat) (l1 : Nat) (σ : zSt) (l2 : Int32) : Option (zSt) := zloop (fun (t : zSt × Int32) => b_X2_copyStations_10 l0 l1 t.1 t.2) zN (σ, l2)
set_option maxRecDepth 100000 in
def f_X2_copyStations (σ : zSt) (l0 : Nat) (l1 : Nat) : Option (zSt) :=
(if z_ob σ l1 2 then (if z_ob σ l0 2 then (zl (z_pI σ l0 5 (z_I σ l1 5)) (fun σ3 => (f_X2_copyStations_10 l0 l1 σ3 (0 : Int32)))) else none) else none)
set_option maxRecDepth 100000 in
def f_X2_copyFrom (σ : zSt) (l0 : Nat) (l1 : Nat) : Option (zSt) :=
(if z_ob σ l0 2 then (zb (f_X2_takeTimes σ l0 l1) (fun σ3 => (if z_ob σ3 l1 2 then (if z_ob σ3 l0 2 then (zl (z_pI σ3 l0 9 (z_I σ3 l1 9)) (fun σ6 => (if z_ob σ6 l1 2 then (if z_ob σ6 l0 2 then (zl (z_pI σ6 l0 10 (z_I σ6 l1 10)) (fun σ10 => (if z_ob σ10 l0 2 then (zc (z_R σ10 l0 1) none (fun q13 => (if z_ob σ10 l1 2 then (zc (z_R σ10 l1 1) none (fun q16 => (if z_ob σ10 q13 3 then (zb (f_X3_copyFrom σ10 q13 q16) (fun σ20 => (if z_ob σ20 l0 2 then (zc (z_R σ20 l0 2) none (fun q22 => (if z_ob σ20 l1 2 then (zc (z_R σ20 l1 2) none (fun q25 => (if z_ob σ20 q22 4 then (zb (f_X4_copyFrom σ20 q22 q25) (fun σ29 => (if z_ob σ29 l0 2 then (zc (z_R σ29 l0 3) none (fun q31 => (if z_ob σ29 l1 2 then (zc (z_R σ29 l1 3) none (fun q34 => (if z_ob σ29 q31 0 then (zb (f_X0_copyFrom σ29 q31 q34) (fun σ38 => (if z_ob σ38 l0 2 then (zc (z_R σ38 l0 4) none (fun q40 => (if z_ob σ38 l1 2 then (zc (z_R σ38 l1 4) none (fun q43 => (zb (f_X2_logLength σ38 l1) (fun r46 => (if z_ob σ38 q40 7 then (zb (f_X7_copyFrom σ38 q40 q43 r46) (fun σ49 => (if z_ob σ49 l0 2 then (zb (f_X2_copyStations σ49 l0 l1) (fun σ52 => (some σ52))) else none))) else none))))) else none))) else none))) else none))) else none))) else none))) else none))) else none))) else none))) else none))) else none))) else none))) else none) else none))) else none) else none))) else none)
set_option maxRecDepth 100000 in
def f_X1_save_44 (σ : zSt) : Option (zSt) :=
(some σ)
set_option maxRecDepth 100000 in
def f_X1_save_16 (σ : zSt) (l0 : Nat) (l1 : Nat) : Option (zSt) :=
(if z_ob σ l0 1 then (zb (f_X1_stateAt σ l0 (z_I σ l0 1)) (fun r3 => (zc r3
(f_X1_save_44 σ)
(fun a4 => (if z_ob σ a4 2 then (zb (f_X2_copyFrom σ a4 l1) (fun σ7 => (if z_ob σ7 l0 1 then (zl (z_pI σ7 l0 1 ((z_I σ7 l0 1) + (1 : Int32))) (fun σ9 => (f_X1_save_44 σ9))) else none))) else none))))) else none)
set_option maxRecDepth 100000 in
def f_X1_save (σ : zSt) (l0 : Nat) (l1 : Nat) : Option (zSt) :=
(if z_ob σ l0 1 then (zc (z_R σ l0 0) none (fun q2 => (if z_ar σ q2 4 then (if (z_I σ l0 1) < (Int32.ofNat (z_ln σ q2)) then
(f_X1_save_16 σ l0 l1)
else
(zb (f_X1_dropOldest σ l0) (fun σ6 => (f_X1_save_16 σ6 l0 l1)))) else none))) else none)
set_option maxRecDepth 100000 in
def f_X1_restore_30 (σ : zSt) : Option (zSt) :=
(some σ)
set_option maxRecDepth 100000 in
def f_X1_restore (σ : zSt) (l0 : Nat) (l1 : Nat) : Option (zSt) :=
(if z_ob σ l0 1 then (zb (f_X1_stateAt σ l0 ((z_I σ l0 1) - (1 : Int32))) (fun r3 => (zc r3
(f_X1_restore_30 σ)
(fun a4 => (if z_ob σ l1 2 then (zb (f_X2_copyFrom σ l1 a4) (fun σ7 => (if z_ob σ7 l0 1 then (zl (z_pI σ7 l0 1 ((z_I σ7 l0 1) - (1 : Int32))) (fun σ9 => (f_X1_restore_30 σ9))) else none))) else none))))) else none)
set_option maxRecDepth 100000 in
def f_X3_clear (σ : zSt) (l0 : Nat) : Option (zSt) :=
(if z_ob σ l0 3 then (zl (z_pI σ l0 1 (0 : Int32)) (fun σ2 => (some σ2))) else none)
set_option maxRecDepth 100000 in
def f_X4_clear (σ : zSt) (l0 : Nat) : Option (zSt) :=
(if z_ob σ l0 4 then (zl (z_pI σ l0 2 (0 : Int32)) (fun σ2 => (some σ2))) else none)
set_option maxRecDepth 100000 in
def f_X2_clear (σ : zSt) (l0 : Nat) : Option (zSt) :=
(if z_ob σ l0 2 then (zl (z_pI σ l0 5 (0 : Int32)) (fun σ2 => (if z_ob σ2 l0 2 then (zc (z_R σ2 l0 1) none (fun q5 => (if z_ob σ2 q5 3 then (zb (f_X3_clear σ2 q5) (fun σ9 => (if z_ob σ9 l0 2 then (zc (z_R σ9 l0 2) none (fun q11 => (if z_ob σ9 q11 4 then (zb (f_X4_clear σ9 q11) (fun σ15 => (if z_ob σ15 l0 2 then (zc (z_R σ15 l0 3) none (fun q17 => (if z_ob σ15 q17 0 then (zb (f_X0_clear σ15 q17) (fun σ21 => (if z_ob σ21 l0 2 then (zl (z_pI σ21 l0 9 (0 : Int32)) (fun σ23 => (if z_ob σ23 l0 2 then (zl (z_pI σ23 l0 10 (-1 : Int32)) (fun σ26 => (some σ26))) else none))) else none))) else none))) else none))) else none))) else none))) else none))) else none))) else none)
set_option maxRecDepth 100000 in
def f_X2_isFull_14 (σ : zSt) (s0 : Int32) : Option (Int32) :=
(if z_bl s0 then (some s0) else none)
set_option maxRecDepth 100000 in
def f_X2_isFull (σ : zSt) (l0 : Nat) : Option (Int32) :=
(if z_ob σ l0 2 then (if (z_I σ l0 5) < (8 : Int32) then
(f_X2_isFull_14 σ (0 : Int32))
else
(f_X2_isFull_14 σ (1 : Int32))) else none)
set_option maxRecDepth 100000 in
def f_X2_isTooLate_14 (σ : zSt) (s0 : Int32) : Option (Int32) :=
(if z_bl s0 then (some s0) else none)
set_option maxRecDepth 100000 in
def f_X2_isTooLate (σ : zSt) (l0 : Nat) : Option (Int32) :=
(if z_ob σ l0 2 then (if (z_I σ l0 9) ≤ (900000 : Int32) then
(f_X2_isTooLate_14 σ (0 : Int32))
else
(f_X2_isTooLate_14 σ (1 : Int32))) else none)
set_option maxRecDepth 100000 in
def f_X2_stationWith_46 (σ : zSt) : Option (Option Nat) :=
(some none)
set_option maxRecDepth 100000 in
def f_X2_stationWith_40 (σ : zSt) (l0 : Nat) (l1 : Int32) (l2 : Int32) : Option ((Int32) ⊕ (Option Nat)) :=
(some (.inl (l2 + (1 : Int32))))
set_option maxRecDepth 100000 in
def b_X2_stationWith_2 (σ : zSt) (l0 : Nat) (l1 : Int32) (l2 : Int32) : Option ((Int32) ⊕ (Option Nat)) :=
(if z_ob σ l0 2 then (if (z_I σ l0 5) ≤ l2 then
(zex (f_X2_stationWith_46 σ))
else
(zc (z_R σ l0 0) none (fun q3 => (if z_ar σ q3 3 then (if (Int32.ofNat (z_ln σ q3)) ≤ l2 then
(zex (f_X2_stationWith_46 σ))
else
(zc (z_R σ l0 0) none (fun q7 => (if z_ar σ q7 3 then (if z_ix l2 (z_ln σ q7) then (zl (z_R σ q7 l2.toNatClampNeg) (fun v11 => (zc v11
(f_X2_stationWith_40 σ l0 l1 l2)
(fun a13 => (if z_ob σ a13 6 then (if (z_I σ a13 0) = l1 then
(zex (some (some a13)))
else
(f_X2_stationWith_40 σ l0 l1 l2)) else none))))) else none) else none)))) else none)))) else none)
set_option maxRecDepth 100000 in
def f_X2_stationWith_2 (σ : zSt) (l0 : Nat) (l1 : Int32) (l2 : Int32) : Option (Option Nat) := zloop (fun (t : Int32) => b_X2_stationWith_2 σ l0 l1 t) zN l2
set_option maxRecDepth 100000 in
def f_X2_stationWith (σ : zSt) (l0 : Nat) (l1 : Int32) : Option (Option Nat) :=
(f_X2_stationWith_2 σ l0 l1 (0 : Int32))
set_option maxRecDepth 100000 in
def f_X6_reset (σ : zSt) (l0 : Nat) (l1 : Int32) : Option (zSt) :=
(if z_ob σ l0 6 then (zl (z_pI σ l0 0 l1) (fun σ2 => (if z_ob σ2 l0 6 then (zl (z_pI σ2 l0 1 (1 : Int32)) (fun σ5 => (if z_ob σ5 l0 6 then (zl (z_pI σ5 l0 2 (0 : Int32)) (fun σ8 => (if z_ob σ8 l0 6 then (zl (z_pI σ8 l0 3 l1) (fun σ11 => (if z_ob σ11 l0 6 then (zl (z_pI σ11 l0 4 l1) (fun σ14 => (if z_ob σ14 l0 6 then (zl (z_pI σ14 l0 5 (-1 : Int32)) (fun σ17 => (if z_ob σ17 l0 6 then (zl (z_pI σ17 l0 6 (0 : Int32)) (fun σ20 => (if z_ob σ20 l0 6 then (zl (z_pI σ20 l0 7 (0 : Int32)) (fun σ23 => (if z_ob σ23 l0 6 then (zl (z_pI σ23 l0 8 (-1 : Int32)) (fun σ26 => (some σ26))) else none))) else none))) else none))) else none))) else none))) else none))) else none))) else none))) else none)
set_option maxRecDepth 100000 in
def f_X2_placeStation_18 (σ : zSt) : Option (Option Nat × zSt) :=
(some (none, σ))
set_option maxRecDepth 100000 in
def f_X2_placeStation_101 (σ : zSt) (l0 : Nat) (l3 : Nat) : Option (Option Nat × zSt) :=
(if z_ob σ l0 2 then (zl (z_pI σ l0 5 ((z_I σ l0 5) + (1 : Int32))) (fun σ2 => (some ((some l3), σ2)))) else none)
set_option maxRecDepth 100000 in
def b_X2_placeStation_38 (l0 : Nat) (l1 : Int32) (l3 : Nat) (σ : zSt) (l2 : Int32) : Option ((zSt × Int32) ⊕ (Option Nat × zSt)) :=
(if l2 ≤ 0 then
(zex (f_X2_placeStation_101 σ l0 l3))
else
(if z_ob σ l0 2 then (zc (z_R σ l0 0) none (fun q3 => (if z_ar σ q3 3 then (if (Int32.ofNat (z_ln σ q3)) ≤ l2 then
(zex (f_X2_placeStation_101 σ l0 l3))
else
(zc (z_R σ l0 0) none (fun q7 => (if z_ar σ q7 3 then (if z_ix (l2 - (1 : Int32)) (z_ln σ q7) then (zl (z_R σ q7 (l2 - (1 : Int32)).toNatClampNeg) (fun v11 => (zc v11
(zex (f_X2_placeStation_101 σ l0 l3))
(fun a13 => (if z_ob σ a13 6 then (if l1 ≤ (z_I σ a13 0) then
(zc (z_R σ l0 0) none (fun q16 => (if z_ar σ q16 3 then (if z_ix l2 (z_ln σ q16) then (zl (z_pR σ q16 l2.toNatClampNeg (some a13)) (fun σ20 => (if z_ob σ20 l0 2 then (zc (z_R σ20 l0 0) none (fun q23 => (if z_ar σ20 q23 3 then (if z_ix (l2 - (1 : Int32)) (z_ln σ20 q23) then (if z_ob σ20 l3 6 then (zl (z_pR σ20 q23 (l2 - (1 : Int32)).toNatClampNeg (some l3)) (fun σ28 => (some (.inl (σ28, (l2 + (-1 : Int32))))))) else none) else none) else none))) else none))) else none) else none)))
else
(zex (f_X2_placeStation_101 σ l0 l3))) else none))))) else none) else none)))) else none))) else none))
set_option maxRecDepth 100000 in
def f_X2_placeStation_38 (l0 : Nat) (l1 : Int32) (l3 : Nat) (σ : zSt) (l2 : Int32) : Option (Option Nat × zSt) := zloop (fun (t : zSt × Int32) => b_X2_placeStation_38 l0 l1 l3 t.1 t.2) zN (σ, l2)
set_option maxRecDepth 100000 in
def f_X2_placeStation (σ : zSt) (l0 : Nat) (l1 : Int32) : Option (Option Nat × zSt) :=
(if z_ob σ l0 2 then (zl (z_I σ l0 5) (fun x2 => (if x2 < 0 then
(f_X2_placeStation_18 σ)
else
(zc (z_R σ l0 0) none (fun q4 => (if z_ar σ q4 3 then (if x2 < (Int32.ofNat (z_ln σ q4)) then
(zc (z_R σ l0 0) none (fun q7 => (if z_ar σ q7 3 then (if z_ix x2 (z_ln σ q7) then (zl (z_R σ q7 x2.toNatClampNeg) (fun v11 => (zc v11
(some (none, σ))
(fun a13 => (if z_ob σ a13 6 then (zb (f_X6_reset σ a13 l1) (fun σ16 => (f_X2_placeStation_38 l0 l1 a13 σ16 x2))) else none))))) else none) else none)))
else
(f_X2_placeStation_18 σ)) else none)))))) else none)
set_option maxRecDepth 100000 in
def f_X2_switchStation_31 (σ : zSt) : Option (zSt) :=
(some σ)
set_option maxRecDepth 100000 in
def f_X2_switchStation (σ : zSt) (l0 : Nat) (l1 : Nat) (l2 : Int32) : Option (zSt) :=
(if z_ob σ l1 6 then (if z_bl l2 then (zl (z_pI σ l1 1 l2) (fun σ3 => (if l2 = 0 then
(if z_ob σ3 l1 6 then (zl (z_pI σ3 l1 2 (0 : Int32)) (fun σ6 => (if z_ob σ6 l0 2 then (if z_ob σ6 l1 6 then (if (z_I σ6 l0 10) = (z_I σ6 l1 0) then
(zl (z_pI σ6 l0 10 (-1 : Int32)) (fun σ10 => (f_X2_switchStation_31 σ10)))
else
(f_X2_switchStation_31 σ6)) else none) else none))) else none)
else
(some σ3)))) else none) else none)
set_option maxRecDepth 100000 in
def f_X2_ringSize_32 (σ : zSt) (l0 : Nat) (l1 : Int32) (l2 : Int32) : Option ((Int32 × Int32) ⊕ (Int32)) :=
(some (.inl (l1, (l2 + (1 : Int32)))))
set_option maxRecDepth 100000 in
def b_X2_ringSize_4 (σ : zSt) (l0 : Nat) (l1 : Int32) (l2 : Int32) : Option ((Int32 × Int32) ⊕ (Int32)) :=
(if z_ob σ l0 2 then (if (z_I σ l0 5) ≤ l2 then
(zex (some l1))
else
(zb (f_X2_stationIn σ l0 l2) (fun r4 => (zc r4
(f_X2_ringSize_32 σ l0 l1 l2)
(fun a5 => (if z_ob σ a5 6 then (if (z_I σ a5 2) = 0 then
(f_X2_ringSize_32 σ l0 l1 l2)
else
(f_X2_ringSize_32 σ l0 (l1 + (1 : Int32)) l2)) else none)))))) else none)
set_option maxRecDepth 100000 in
def f_X2_ringSize_4 (σ : zSt) (l0 : Nat) (l1 : Int32) (l2 : Int32) : Option (Int32) := zloop (fun (t : Int32 × Int32) => b_X2_ringSize_4 σ l0 t.1 t.2) zN (l1, l2)
set_option maxRecDepth 100000 in
def f_X2_ringSize (σ : zSt) (l0 : Nat) : Option (Int32) :=
(f_X2_ringSize_4 σ l0 (0 : Int32) (0 : Int32))
set_option maxRecDepth 100000 in
def f_X2_isComplete_36 (σ : zSt) (l0 : Nat) (l1 : Int32) : Option ((Int32) ⊕ (Int32)) :=
(some (.inl (l1 + (1 : Int32))))
set_option maxRecDepth 100000 in
def b_X2_isComplete_2 (σ : zSt) (l0 : Nat) (l1 : Int32) : Option ((Int32) ⊕ (Int32)) :=
(if z_ob σ l0 2 then (if (z_I σ l0 5) ≤ l1 then
(zex (some (1 : Int32)))
else
(zb (f_X2_stationIn σ l0 l1) (fun r4 => (zc r4
(f_X2_isComplete_36 σ l0 l1)
(fun a5 => (if z_ob σ a5 6 then (if (z_I σ a5 1) = 0 then
(f_X2_isComplete_36 σ l0 l1)
else
(if (z_I σ a5 2) = 0 then
(zex (some (0 : Int32)))
else
(f_X2_isComplete_36 σ l0 l1))) else none)))))) else none)
set_option maxRecDepth 100000 in
def f_X2_isComplete_2 (σ : zSt) (l0 : Nat) (l1 : Int32) : Option (Int32) := zloop (fun (t : Int32) => b_X2_isComplete_2 σ l0 t) zN l1
set_option maxRecDepth 100000 in
def f_X2_isComplete (σ : zSt) (l0 : Nat) : Option (Int32) :=
(f_X2_isComplete_2 σ l0 (0 : Int32))
set_option maxRecDepth 100000 in
def f_X2_isWaitedAt_36 (σ : zSt) (l0 : Nat) (l1 : Int32) : Option ((Int32) ⊕ (Int32)) :=
(some (.inl (l1 + (1 : Int32))))
set_option maxRecDepth 100000 in
def b_X2_isWaitedAt_2 (σ : zSt) (l0 : Nat) (l1 : Int32) : Option ((Int32) ⊕ (Int32)) :=
(if z_ob σ l0 2 then (if (z_I σ l0 5) ≤ l1 then
(zex (some (0 : Int32)))
else
(zb (f_X2_stationIn σ l0 l1) (fun r4 => (zc r4
(f_X2_isWaitedAt_36 σ l0 l1)
(fun a5 => (if z_ob σ a5 6 then (if (z_I σ a5 1) = 0 then
(f_X2_isWaitedAt_36 σ l0 l1)
else
(if (z_I σ a5 6) ≤ 0 then
(f_X2_isWaitedAt_36 σ l0 l1)
else
(zex (some (1 : Int32))))) else none)))))) else none)
set_option maxRecDepth 100000 in
def f_X2_isWaitedAt_2 (σ : zSt) (l0 : Nat) (l1 : Int32) : Option (Int32) := zloop (fun (t : Int32) => b_X2_isWaitedAt_2 σ l0 t) zN l1
set_option maxRecDepth 100000 in
def f_X2_isWaitedAt (σ : zSt) (l0 : Nat) : Option (Int32) :=
(f_X2_isWaitedAt_2 σ l0 (0 : Int32))
set_option maxRecDepth 100000 in
def f_X4_touch_44 (σ : zSt) : Option (Int32) :=
(some (0 : Int32))
set_option maxRecDepth 100000 in
def f_X4_touch_38 (σ : zSt) (l0 : Nat) (l1 : Int32) (l2 : Int32) (l3 : Int32) : Option ((Int32) ⊕ (Int32)) :=
(some (.inl (l3 + (1 : Int32))))
set_option maxRecDepth 100000 in
def b_X4_touch_2 (σ : zSt) (l0 : Nat) (l1 : Int32) (l2 : Int32) (l3 : Int32) : Option ((Int32) ⊕ (Int32)) :=
(if z_ob σ l0 4 then (if (z_I σ l0 2) ≤ l3 then
(zex (f_X4_touch_44 σ))
else
(if (20 : Int32) ≤ l3 then
(zex (f_X4_touch_44 σ))
else
(zc (z_R σ l0 0) none (fun q4 => (if z_ar σ q4 0 then (if z_ix l3 (z_ln σ q4) then (if l2 < (z_I σ q4 l3.toNatClampNeg) then
(f_X4_touch_38 σ l0 l1 l2 l3)
else
(zc (z_R σ l0 1) none (fun q8 => (if z_ar σ q8 0 then (if z_ix l3 (z_ln σ q8) then (if (z_I σ q8 l3.toNatClampNeg) < l1 then
(f_X4_touch_38 σ l0 l1 l2 l3)
else
(zex (some (1 : Int32)))) else none) else none)))) else none) else none))))) else none)
set_option maxRecDepth 100000 in
def f_X4_touch_2 (σ : zSt) (l0 : Nat) (l1 : Int32) (l2 : Int32) (l3 : Int32) : Option (Int32) := zloop (fun (t : Int32) => b_X4_touch_2 σ l0 l1 l2 t) zN l3
set_option maxRecDepth 100000 in
def f_X4_touch (σ : zSt) (l0 : Nat) (l1 : Int32) (l2 : Int32) : Option (Int32) :=
(f_X4_touch_2 σ l0 l1 l2 (0 : Int32))
set_option maxRecDepth 100000 in
def f_X2_transmit_56 (σ : zSt) (s0 : Int32) : Option (Int32 × zSt) :=
(if z_bl s0 then (some (s0, σ)) else none)
set_option maxRecDepth 100000 in
def f_X2_transmit_47 (σ : zSt) (l2 : Int32) : Option (Int32 × zSt) :=
(if l2 = 0 then
(f_X2_transmit_56 σ (1 : Int32))
else
(f_X2_transmit_56 σ (0 : Int32)))
set_option maxRecDepth 100000 in
def f_X2_transmit (σ : zSt) (l0 : Nat) (l1 : Int32) : Option (Int32 × zSt) :=
(if z_ob σ l0 2 then (zc (z_R σ l0 2) none (fun q2 => (if z_ob σ q2 4 then (zb (f_X4_touch σ q2 (z_I σ l0 9) (((z_I σ l0 9) + l1) - (1 : Int32))) (fun r6 => (zl (z_pI σ l0 9 ((z_I σ l0 9) + l1)) (fun σ7 => (if r6 = 0 then
(f_X2_transmit_47 σ7 r6)
else
(if z_ob σ7 l0 2 then (zc (z_R σ7 l0 3) none (fun q10 => (if z_ob σ7 q10 0 then (zl (z_pI σ7 q10 2 ((z_I σ7 q10 2) + (1 : Int32))) (fun σ13 => (f_X2_transmit_47 σ13 r6))) else none))) else none)))))) else none))) else none)
set_option maxRecDepth 100000 in
def f_X7_put_33 (σ : zSt) : Option (zSt) :=
(some σ)
set_option maxRecDepth 100000 in
def f_X7_put (σ : zSt) (l0 : Nat) (l1 : Int32) (l2 : Int32) (l3 : Int32) : Option (zSt) :=
(if z_ob σ l0 7 then (zl ((l1 * (z_I σ l0 0)) + l2) (fun x2 => (if x2 < 0 then
(f_X7_put_33 σ)
else
(zc (z_R σ l0 1) none (fun q4 => (if z_ar σ q4 0 then (if (Int32.ofNat (z_ln σ q4)) ≤ x2 then
(f_X7_put_33 σ)
else
(zc (z_R σ l0 1) none (fun q7 => (if z_ar σ q7 0 then (if z_ix x2 (z_ln σ q7) then (zl (z_pI σ q7 x2.toNatClampNeg l3) (fun σ11 => (f_X7_put_33 σ11))) else none) else none)))) else none)))))) else none)
set_option maxRecDepth 100000 in
def f_X2_logVisit (σ : zSt) (l0 : Nat) (l1 : Int32) (l2 : Int32) (l3 : Int32) (l4 : Int32) : Option (zSt) :=
(if z_ob σ l0 2 then (zc (z_R σ l0 3) none (fun q2 => (if z_ob σ q2 0 then (zl (((z_I σ q2 0) - (1 : Int32)) - ((z_I σ q2 0) - (1 : Int32)) / (40 : Int32) * (40 : Int32)) (fun x5 => (zc (z_R σ l0 4) none (fun q7 => (if z_ob σ q7 7 then (zb (f_X7_put σ q7 x5 (0 : Int32) l1) (fun σ11 => (if z_ob σ11 l0 2 then (zc (z_R σ11 l0 4) none (fun q13 => (if z_ob σ11 q13 7 then (zb (f_X7_put σ11 q13 x5 (1 : Int32) l2) (fun σ17 => (if z_ob σ17 l0 2 then (zc (z_R σ17 l0 4) none (fun q19 => (if z_ob σ17 q19 7 then (zb (f_X7_put σ17 q19 x5 (2 : Int32) l3) (fun σ23 => (if z_ob σ23 l0 2 then (zc (z_R σ23 l0 4) none (fun q25 => (if z_ob σ23 q25 7 then (zb (f_X7_put σ23 q25 x5 (3 : Int32) l4) (fun σ29 => (some σ29))) else none))) else none))) else none))) else none))) else none))) else none))) else none))))) else none))) else none)
set_option maxRecDepth 100000 in
def f_X7_at_32 (σ : zSt) (s0 : Int32) : Option (Int32) :=
(some s0)
set_option maxRecDepth 100000 in
def f_X7_at_31 (σ : zSt) : Option (Int32) :=
(f_X7_at_32 σ (-1 : Int32))
set_option maxRecDepth 100000 in
def f_X7_at (σ : zSt) (l0 : Nat) (l1 : Int32) (l2 : Int32) : Option (Int32) :=
(if z_ob σ l0 7 then (zl ((l1 * (z_I σ l0 0)) + l2) (fun x2 => (if x2 < 0 then
(f_X7_at_31 σ)
else
(zc (z_R σ l0 1) none (fun q4 => (if z_ar σ q4 0 then (if (Int32.ofNat (z_ln σ q4)) ≤ x2 then
(f_X7_at_31 σ)
else
(zc (z_R σ l0 1) none (fun q7 => (if z_ar σ q7 0 then (if z_ix x2 (z_ln σ q7) then (f_X7_at_32 σ (z_I σ q7 x2.toNatClampNeg)) else none) else none)))) else none)))))) else none)
set_option maxRecDepth 100000 in
def f_X2_logValue (σ : zSt) (l0 : Nat) (l1 : Int32) (l2 : Int32) : Option (Int32) :=
(if z_ob σ l0 2 then (zc (z_R σ l0 3) none (fun q2 => (if z_ob σ q2 0 then (zb (f_X2_logLength σ l0) (fun r6 => (zl ((z_I σ q2 0) - r6) (fun x7 => (zc (z_R σ l0 4) none (fun q9 => (if z_ob σ q9 7 then (zb (f_X7_at σ q9 ((x7 + l1) - (x7 + l1) / (40 : Int32) * (40 : Int32)) l2) (fun r13 => (some r13))) else none))))))) else none))) else none)
set_option maxRecDepth 100000 in
def f_X3_number (σ : zSt) (l0 : Nat) : Option (Int32) :=
(if z_ob σ l0 3 then (some (z_I σ l0 1)) else none)
set_option maxRecDepth 100000 in
def f_X2_settingValue (σ : zSt) (l0 : Nat) (l1 : Int32) : Option (Int32) :=
(if l1 = (0 : Int32) then
(if z_ob σ l0 2 then (some (z_I σ l0 6)) else none)
else
(if l1 = (1 : Int32) then
(if z_ob σ l0 2 then (some (z_I σ l0 7)) else none)
else
(if l1 = (2 : Int32) then
(if z_ob σ l0 2 then (some (z_I σ l0 8)) else none)
else
(if l1 = (3 : Int32) then
(if z_ob σ l0 2 then (some (z_I σ l0 5)) else none)
else
(if l1 = (4 : Int32) then
(if z_ob σ l0 2 then (zb (f_X2_ringSize σ l0) (fun r7 => (some r7))) else none)
else
(if l1 = (5 : Int32) then
(if z_ob σ l0 2 then (zc (z_R σ l0 2) none (fun q9 => (if z_ob σ q9 4 then (some (z_I σ q9 2)) else none))) else none)
else
(if l1 = (6 : Int32) then
(if z_ob σ l0 2 then (some (z_I σ l0 9)) else none)
else
(if l1 = (7 : Int32) then
(if z_ob σ l0 2 then (some (z_I σ l0 10)) else none)
else
(if z_ob σ l0 2 then (zc (z_R σ l0 1) none (fun q15 => (if z_ob σ q15 3 then (zb (f_X3_number σ q15) (fun r19 => (some r19))) else none))) else none)))))))))
set_option maxRecDepth 100000 in
def f_X9_mixed (σ : zSt) (l0 : Int64) (l2 : Int64) : Option (Int64) :=
(some (((31 : Int64) * l0) + l2))
set_option maxRecDepth 100000 in
def f_X6_value_52 (σ : zSt) (s0 : Int32) : Option (Int32) :=
(some s0)
set_option maxRecDepth 100000 in
def f_X6_value_65 (σ : zSt) (s0 : Int32) : Option (Int32) :=
(some s0)
set_option maxRecDepth 100000 in
def f_X6_value (σ : zSt) (l0 : Nat) (l1 : Int32) : Option (Int32) :=
(if l1 = (0 : Int32) then
(if z_ob σ l0 6 then (if (z_I σ l0 1) = 0 then
(f_X6_value_52 σ (0 : Int32))
else
(f_X6_value_52 σ (1 : Int32))) else none)
else
(if l1 = (1 : Int32) then
(if z_ob σ l0 6 then (if (z_I σ l0 2) = 0 then
(f_X6_value_65 σ (0 : Int32))
else
(f_X6_value_65 σ (1 : Int32))) else none)
else
(if l1 = (2 : Int32) then
(if z_ob σ l0 6 then (some (z_I σ l0 3)) else none)
else
(if l1 = (3 : Int32) then
(if z_ob σ l0 6 then (some (z_I σ l0 4)) else none)
else
(if l1 = (4 : Int32) then
(if z_ob σ l0 6 then (some (z_I σ l0 6)) else none)
else
(if l1 = (5 : Int32) then
(if z_ob σ l0 6 then (some (z_I σ l0 7)) else none)
else
(if z_ob σ l0 6 then (some (z_I σ l0 8)) else none)))))))
set_option maxRecDepth 100000 in
def f_X3_follower (σ : zSt) (l0 : Nat) (l1 : Int32) : Option (Int32) :=
(if z_ob σ l0 3 then (zc (z_R σ l0 0) none (fun q2 => (if z_ob σ q2 7 then (zb (f_X7_at σ q2 l1 (5 : Int32)) (fun r6 => (some r6))) else none))) else none)
set_option maxRecDepth 100000 in
def b_X2_withStation_56 (σ : zSt) (l0 : Nat) (l3 : Nat) (l4 : Int64) (l6 : Int32) (l7 : Int32) : Option ((Int64 × Int32 × Int32) ⊕ (Int64)) :=
(if z_ob σ l3 6 then (if (z_I σ l3 6) ≤ l7 then
(zex (some l4))
else
(zb (f_X9_mixed σ l4 l6.toInt64) (fun r4 => (if z_ob σ l0 2 then (zc (z_R σ l0 1) none (fun q6 => (if z_ob σ q6 3 then (zb (f_X3_follower σ q6 l6) (fun r10 => (some (.inl (r4, r10, (l7 + (1 : Int32))))))) else none))) else none)))) else none)
set_option maxRecDepth 100000 in
def f_X2_withStation_56 (σ : zSt) (l0 : Nat) (l3 : Nat) (l4 : Int64) (l6 : Int32) (l7 : Int32) : Option (Int64) := zloop (fun (t : Int64 × Int32 × Int32) => b_X2_withStation_56 σ l0 l3 t.1 t.2.1 t.2.2) zN (l4, l6, l7)
set_option maxRecDepth 100000 in
def b_X2_withStation_20 (σ : zSt) (l0 : Nat) (l3 : Nat) (l4 : Int64) (l6 : Int32) : Option ((Int64 × Int32) ⊕ (Int64)) :=
(if (6 : Int32) < l6 then
(zex (if z_ob σ l3 6 then (zl (z_I σ l3 5) (fun x2 => (f_X2_withStation_56 σ l0 l3 l4 x2 (0 : Int32)))) else none))
else
(if z_ob σ l3 6 then (zb (f_X6_value σ l3 l6) (fun r7 => (zb (f_X9_mixed σ l4 r7.toInt64) (fun r9 => (some (.inl (r9, (l6 + (1 : Int32))))))))) else none))
set_option maxRecDepth 100000 in
def f_X2_withStation_20 (σ : zSt) (l0 : Nat) (l3 : Nat) (l4 : Int64) (l6 : Int32) : Option (Int64) := zloop (fun (t : Int64 × Int32) => b_X2_withStation_20 σ l0 l3 t.1 t.2) zN (l4, l6)
set_option maxRecDepth 100000 in
def f_X2_withStation (σ : zSt) (l0 : Nat) (l1 : Int64) (l3 : Option Nat) : Option (Int64) :=
(zc l3
(some l1)
(fun a1 => (if z_ob σ a1 6 then (zb (f_X9_mixed σ l1 ((z_I σ a1 0).toInt64)) (fun r4 => (f_X2_withStation_20 σ l0 a1 r4 (0 : Int32)))) else none)))
set_option maxRecDepth 100000 in
def f_X3_value (σ : zSt) (l0 : Nat) (l1 : Int32) (l2 : Int32) : Option (Int32) :=
(if z_ob σ l0 3 then (zc (z_R σ l0 0) none (fun q2 => (if z_ob σ q2 7 then (zb (f_X7_at σ q2 l1 l2) (fun r6 => (some r6))) else none))) else none)
set_option maxRecDepth 100000 in
def b_X2_withLog_25 (σ : zSt) (l0 : Nat) (l3 : Int32) (l6 : Int32) (l4 : Int64) (l7 : Int32) : Option ((Int64 × Int32) ⊕ ((Int64 × Int32) ⊕ (Int64))) :=
(if (4 : Int32) ≤ l7 then
(zex (some (.inl (l4, (l6 + (1 : Int32))))))
else
(if z_ob σ l0 2 then (zb (f_X2_logValue σ l0 l6 l7) (fun r4 => (zb (f_X9_mixed σ l4 r4.toInt64) (fun r6 => (some (.inl (r6, (l7 + (1 : Int32))))))))) else none))
set_option maxRecDepth 100000 in
def f_X2_withLog_25 (σ : zSt) (l0 : Nat) (l3 : Int32) (l6 : Int32) (l4 : Int64) (l7 : Int32) : Option ((Int64 × Int32) ⊕ (Int64)) := zloop (fun (t : Int64 × Int32) => b_X2_withLog_25 σ l0 l3 l6 t.1 t.2) zN (l4, l7)
set_option maxRecDepth 100000 in
def b_X2_withLog_16 (σ : zSt) (l0 : Nat) (l3 : Int32) (l4 : Int64) (l6 : Int32) : Option ((Int64 × Int32) ⊕ (Int64)) :=
(if l3 ≤ l6 then
(zex (some l4))
else
(f_X2_withLog_25 σ l0 l3 l6 l4 (0 : Int32)))
set_option maxRecDepth 100000 in
def f_X2_withLog_16 (σ : zSt) (l0 : Nat) (l3 : Int32) (l4 : Int64) (l6 : Int32) : Option (Int64) := zloop (fun (t : Int64 × Int32) => b_X2_withLog_16 σ l0 l3 t.1 t.2) zN (l4, l6)
set_option maxRecDepth 100000 in
def f_X2_withLog (σ : zSt) (l0 : Nat) (l1 : Int64) : Option (Int64) :=
(if z_ob σ l0 2 then (zb (f_X2_logLength σ l0) (fun r3 => (zb (f_X9_mixed σ l1 r3.toInt64) (fun r5 => (f_X2_withLog_16 σ l0 r3 r5 (0 : Int32)))))) else none)
set_option maxRecDepth 100000 in
def b_X2_hashed_116 (σ : zSt) (l0 : Nat) (l3 : Int64) (l5 : Int32) : Option ((Int64 × Int32) ⊕ (Int64)) :=
(if (6 : Int32) < l5 then
(zex (if z_ob σ l0 2 then (zc (z_R σ l0 3) none (fun q2 => (if z_ob σ q2 0 then (zb (f_X9_mixed σ l3 ((z_I σ q2 7).toInt64)) (fun r6 => (zb (f_X2_withLog σ l0 r6) (fun r8 => (some r8))))) else none))) else none))
else
(if z_ob σ l0 2 then (zc (z_R σ l0 3) none (fun q11 => (if z_ob σ q11 0 then (zb (f_X0_value σ q11 l5) (fun r15 => (zb (f_X9_mixed σ l3 r15.toInt64) (fun r17 => (some (.inl (r17, (l5 + (1 : Int32))))))))) else none))) else none))
set_option maxRecDepth 100000 in
def f_X2_hashed_116 (σ : zSt) (l0 : Nat) (l3 : Int64) (l5 : Int32) : Option (Int64) := zloop (fun (t : Int64 × Int32) => b_X2_hashed_116 σ l0 t.1 t.2) zN (l3, l5)
set_option maxRecDepth 100000 in
def b_X2_hashed_78 (σ : zSt) (l0 : Nat) (l5 : Int32) (l3 : Int64) (l6 : Int32) : Option ((Int64 × Int32) ⊕ ((Int64 × Int32) ⊕ (Int64))) :=
(if (4 : Int32) < l6 then
(zex (some (.inl (l3, (l5 + (1 : Int32))))))
else
(if z_ob σ l0 2 then (zc (z_R σ l0 1) none (fun q3 => (if z_ob σ q3 3 then (zb (f_X3_value σ q3 l5 l6) (fun r7 => (zb (f_X9_mixed σ l3 r7.toInt64) (fun r9 => (some (.inl (r9, (l6 + (1 : Int32))))))))) else none))) else none))
set_option maxRecDepth 100000 in
def f_X2_hashed_78 (σ : zSt) (l0 : Nat) (l5 : Int32) (l3 : Int64) (l6 : Int32) : Option ((Int64 × Int32) ⊕ (Int64)) := zloop (fun (t : Int64 × Int32) => b_X2_hashed_78 σ l0 l5 t.1 t.2) zN (l3, l6)
set_option maxRecDepth 100000 in
def b_X2_hashed_63 (σ : zSt) (l0 : Nat) (l3 : Int64) (l5 : Int32) : Option ((Int64 × Int32) ⊕ (Int64)) :=
(if z_ob σ l0 2 then (zc (z_R σ l0 1) none (fun q2 => (if z_ob σ q2 3 then (zb (f_X3_number σ q2) (fun r6 => (if r6 ≤ l5 then
(zex (f_X2_hashed_116 σ l0 l3 (0 : Int32)))
else
(f_X2_hashed_78 σ l0 l5 l3 (0 : Int32))))) else none))) else none)
set_option maxRecDepth 100000 in
def f_X2_hashed_63 (σ : zSt) (l0 : Nat) (l3 : Int64) (l5 : Int32) : Option (Int64) := zloop (fun (t : Int64 × Int32) => b_X2_hashed_63 σ l0 t.1 t.2) zN (l3, l5)
set_option maxRecDepth 100000 in
def b_X2_hashed_33 (σ : zSt) (l0 : Nat) (l3 : Int64) (l5 : Int32) : Option ((Int64 × Int32) ⊕ (Int64)) :=
(if z_ob σ l0 2 then (if (z_I σ l0 5) ≤ l5 then
(zex (f_X2_hashed_63 σ l0 l3 (0 : Int32)))
else
(zb (f_X2_stationIn σ l0 l5) (fun r4 => (zb (f_X2_withStation σ l0 l3 r4) (fun r6 => (some (.inl (r6, (l5 + (1 : Int32)))))))))) else none)
set_option maxRecDepth 100000 in
def f_X2_hashed_33 (σ : zSt) (l0 : Nat) (l3 : Int64) (l5 : Int32) : Option (Int64) := zloop (fun (t : Int64 × Int32) => b_X2_hashed_33 σ l0 t.1 t.2) zN (l3, l5)
set_option maxRecDepth 100000 in
def b_X2_hashed_5 (σ : zSt) (l0 : Nat) (l3 : Int64) (l5 : Int32) : Option ((Int64 × Int32) ⊕ (Int64)) :=
(if (8 : Int32) < l5 then
(zex (f_X2_hashed_33 σ l0 l3 (0 : Int32)))
else
(if z_ob σ l0 2 then (zb (f_X2_settingValue σ l0 l5) (fun r4 => (zb (f_X9_mixed σ l3 r4.toInt64) (fun r6 => (some (.inl (r6, (l5 + (1 : Int32))))))))) else none))
set_option maxRecDepth 100000 in
def f_X2_hashed_5 (σ : zSt) (l0 : Nat) (l3 : Int64) (l5 : Int32) : Option (Int64) := zloop (fun (t : Int64 × Int32) => b_X2_hashed_5 σ l0 t.1 t.2) zN (l3, l5)
set_option maxRecDepth 100000 in
def f_X2_hashed (σ : zSt) (l0 : Nat) (l1 : Int64) : Option (Int64) :=
(f_X2_hashed_5 σ l0 l1 (0 : Int32))
set_option maxRecDepth 100000 in
def f_X3_isFull_14 (σ : zSt) (s0 : Int32) : Option (Int32) :=
(if z_bl s0 then (some s0) else none)
set_option maxRecDepth 100000 in
def f_X3_isFull (σ : zSt) (l0 : Nat) : Option (Int32) :=
(if z_ob σ l0 3 then (if (z_I σ l0 1) < (100 : Int32) then
(f_X3_isFull_14 σ (0 : Int32))
else
(f_X3_isFull_14 σ (1 : Int32))) else none)
set_option maxRecDepth 100000 in
def f_X3_has_17 (σ : zSt) (s0 : Int32) : Option (Int32) :=
(if z_bl s0 then (some s0) else none)
set_option maxRecDepth 100000 in
def f_X3_has_16 (σ : zSt) : Option (Int32) :=
(f_X3_has_17 σ (0 : Int32))
set_option maxRecDepth 100000 in
def f_X3_has (σ : zSt) (l0 : Nat) (l1 : Int32) : Option (Int32) :=
(if l1 < 0 then
(f_X3_has_16 σ)
else
(if z_ob σ l0 3 then (if (z_I σ l0 1) ≤ l1 then
(f_X3_has_16 σ)
else
(f_X3_has_17 σ (1 : Int32))) else none))
set_option maxRecDepth 100000 in
def f_X3_isUrgent_26 (σ : zSt) (s0 : Int32) : Option (Int32) :=
(if z_bl s0 then (some s0) else none)
set_option maxRecDepth 100000 in
def f_X3_isUrgent_25 (σ : zSt) : Option (Int32) :=
(f_X3_isUrgent_26 σ (0 : Int32))
set_option maxRecDepth 100000 in
def f_X3_isUrgent (σ : zSt) (l0 : Nat) (l1 : Int32) : Option (Int32) :=
(if z_ob σ l0 3 then (zb (f_X3_has σ l0 l1) (fun r3 => (if r3 = 0 then
(f_X3_isUrgent_25 σ)
else
(zc (z_R σ l0 0) none (fun q4 => (if z_ob σ q4 7 then (zb (f_X7_at σ q4 l1 (1 : Int32)) (fun r8 => (if r8 < (5 : Int32) then
(f_X3_isUrgent_25 σ)
else
(f_X3_isUrgent_26 σ (1 : Int32))))) else none)))))) else none)
set_option maxRecDepth 100000 in
def f_X3_enqueue_92 (σ : zSt) (l1 : Nat) : Option (zSt) :=
(if z_ob σ l1 6 then (zl (z_pI σ l1 6 ((z_I σ l1 6) + (1 : Int32))) (fun σ2 => (some σ2))) else none)
set_option maxRecDepth 100000 in
def f_X3_enqueue_56 (σ : zSt) (l0 : Nat) (l1 : Nat) (l2 : Int32) (l4 : Int32) (l5 : Int32) : Option (zSt) :=
(if z_ob σ l0 3 then (zc (z_R σ l0 0) none (fun q2 => (if z_ob σ q2 7 then (zb (f_X7_put σ q2 l2 (5 : Int32) l5) (fun σ6 => (if l4 = (-1 : Int32) then
(if z_ob σ6 l1 6 then (zl (z_pI σ6 l1 5 l2) (fun σ14 => (f_X3_enqueue_92 σ14 l1))) else none)
else
(if z_ob σ6 l0 3 then (zc (z_R σ6 l0 0) none (fun q8 => (if z_ob σ6 q8 7 then (zb (f_X7_put σ6 q8 l4 (5 : Int32) l2) (fun σ12 => (f_X3_enqueue_92 σ12 l1))) else none))) else none)))) else none))) else none)
set_option maxRecDepth 100000 in
def b_X3_enqueue_12 (σ : zSt) (l0 : Nat) (l1 : Nat) (l2 : Int32) (l3 : Int32) (l4 : Int32) (l5 : Int32) (l6 : Int32) : Option ((Int32 × Int32 × Int32) ⊕ (zSt)) :=
(if z_ob σ l1 6 then (if (z_I σ l1 6) ≤ l6 then
(zex (f_X3_enqueue_56 σ l0 l1 l2 l4 l5))
else
(if z_ob σ l0 3 then (zc (z_R σ l0 0) none (fun q4 => (if z_ob σ q4 7 then (zb (f_X7_at σ q4 l5 (1 : Int32)) (fun r8 => (if l3 ≤ r8 then
(zb (f_X3_follower σ l0 l5) (fun r10 => (some (.inl (l5, r10, (l6 + (1 : Int32)))))))
else
(zex (f_X3_enqueue_56 σ l0 l1 l2 l4 l5))))) else none))) else none)) else none)
set_option maxRecDepth 100000 in
def f_X3_enqueue_12 (σ : zSt) (l0 : Nat) (l1 : Nat) (l2 : Int32) (l3 : Int32) (l4 : Int32) (l5 : Int32) (l6 : Int32) : Option (zSt) := zloop (fun (t : Int32 × Int32 × Int32) => b_X3_enqueue_12 σ l0 l1 l2 l3 t.1 t.2.1 t.2.2) zN (l4, l5, l6)
set_option maxRecDepth 100000 in
def f_X3_enqueue (σ : zSt) (l0 : Nat) (l1 : Nat) (l2 : Int32) (l3 : Int32) : Option (zSt) :=
(if z_ob σ l1 6 then (zl (z_I σ l1 5) (fun x2 => (f_X3_enqueue_12 σ l0 l1 l2 l3 (-1 : Int32) x2 (0 : Int32)))) else none)
set_option maxRecDepth 100000 in
def f_X3_add (σ : zSt) (l0 : Nat) (l1 : Nat) (l2 : Int32) (l3 : Int32) (l4 : Int32) : Option (Int32 × zSt) :=
(if z_ob σ l0 3 then (zl (z_I σ l0 1) (fun x2 => (zl (z_pI σ l0 1 ((z_I σ l0 1) + (1 : Int32))) (fun σ4 => (if z_ob σ4 l0 3 then (zc (z_R σ4 l0 0) none (fun q7 => (if z_ob σ4 q7 7 then (zb (f_X7_put σ4 q7 x2 (0 : Int32) l2) (fun σ11 => (if z_ob σ11 l0 3 then (zc (z_R σ11 l0 0) none (fun q13 => (if z_ob σ11 q13 7 then (zb (f_X7_put σ11 q13 x2 (1 : Int32) l3) (fun σ17 => (if z_ob σ17 l0 3 then (zc (z_R σ17 l0 0) none (fun q19 => (if z_ob σ17 l1 6 then (if z_ob σ17 q19 7 then (zb (f_X7_put σ17 q19 x2 (2 : Int32) (z_I σ17 l1 0)) (fun σ24 => (if z_ob σ24 l0 3 then (zc (z_R σ24 l0 0) none (fun q26 => (if z_ob σ24 q26 7 then (zb (f_X7_put σ24 q26 x2 (3 : Int32) l4) (fun σ30 => (if z_ob σ30 l0 3 then (zc (z_R σ30 l0 0) none (fun q32 => (if z_ob σ30 q32 7 then (zb (f_X7_put σ30 q32 x2 (4 : Int32) (-1 : Int32)) (fun σ36 => (if z_ob σ36 l0 3 then (zb (f_X3_enqueue σ36 l0 l1 x2 l3) (fun σ39 => (some (x2, σ39)))) else none))) else none))) else none))) else none))) else none))) else none) else none))) else none))) else none))) else none))) else none))) else none))))) else none)
set_option maxRecDepth 100000 in
def b_X3_inQueue_8 (σ : zSt) (l0 : Nat) (l2 : Int32) (l3 : Int32) (l4 : Int32) : Option ((Int32 × Int32) ⊕ (Int32)) :=
(if l2 ≤ l4 then
(zex (some l3))
else
(if z_ob σ l0 3 then (zb (f_X3_follower σ l0 l3) (fun r4 => (some (.inl (r4, (l4 + (1 : Int32))))))) else none))
set_option maxRecDepth 100000 in
def f_X3_inQueue_8 (σ : zSt) (l0 : Nat) (l2 : Int32) (l3 : Int32) (l4 : Int32) : Option (Int32) := zloop (fun (t : Int32 × Int32) => b_X3_inQueue_8 σ l0 l2 t.1 t.2) zN (l3, l4)
set_option maxRecDepth 100000 in
def f_X3_inQueue (σ : zSt) (l0 : Nat) (l1 : Nat) (l2 : Int32) : Option (Int32) :=
(if z_ob σ l1 6 then (zl (z_I σ l1 5) (fun x2 => (f_X3_inQueue_8 σ l0 l2 x2 (0 : Int32)))) else none)
set_option maxRecDepth 100000 in
def f_X3_takeFirst (σ : zSt) (l0 : Nat) (l1 : Nat) (l2 : Int32) : Option (Int32 × zSt) :=
(if z_ob σ l1 6 then (zl (z_I σ l1 5) (fun x2 => (if z_ob σ l0 3 then (zc (z_R σ l0 0) none (fun q5 => (if z_ob σ q5 7 then (zb (f_X7_at σ q5 x2 (3 : Int32)) (fun r9 => (zl (l2 - r9) (fun x10 => (zc (z_R σ l0 0) none (fun q12 => (if z_ob σ q12 7 then (zb (f_X7_put σ q12 x2 (4 : Int32) x10) (fun σ16 => (if z_ob σ16 l0 3 then (zb (f_X3_follower σ16 l0 x2) (fun r19 => (if z_ob σ16 l1 6 then (zl (z_pI σ16 l1 5 r19) (fun σ21 => (if z_ob σ21 l1 6 then (zl (z_pI σ21 l1 6 ((z_I σ21 l1 6) - (1 : Int32))) (fun σ24 => (some (x10, σ24)))) else none))) else none))) else none))) else none))))))) else none))) else none))) else none)
set_option maxRecDepth 100000 in
def f_X4_isFull_14 (σ : zSt) (s0 : Int32) : Option (Int32) :=
(if z_bl s0 then (some s0) else none)
set_option maxRecDepth 100000 in
def f_X4_isFull (σ : zSt) (l0 : Nat) : Option (Int32) :=
(if z_ob σ l0 4 then (if (z_I σ l0 2) < (20 : Int32) then
(f_X4_isFull_14 σ (0 : Int32))
else
(f_X4_isFull_14 σ (1 : Int32))) else none)
set_option maxRecDepth 100000 in
def f_X4_add_46 (σ : zSt) : Option (zSt) :=
(some σ)
set_option maxRecDepth 100000 in
def f_X4_add (σ : zSt) (l0 : Nat) (l1 : Int32) (l2 : Int32) : Option (zSt) :=
(if z_ob σ l0 4 then (if (z_I σ l0 2) < 0 then
(f_X4_add_46 σ)
else
(if (20 : Int32) ≤ (z_I σ l0 2) then
(f_X4_add_46 σ)
else
(zc (z_R σ l0 0) none (fun q2 => (if z_ar σ q2 0 then (if z_ix (z_I σ l0 2) (z_ln σ q2) then (zl (z_pI σ q2 (z_I σ l0 2).toNatClampNeg l1) (fun σ6 => (if z_ob σ6 l0 4 then (zc (z_R σ6 l0 1) none (fun q9 => (if z_ar σ6 q9 0 then (if z_ix (z_I σ6 l0 2) (z_ln σ6 q9) then (zl (z_pI σ6 q9 (z_I σ6 l0 2).toNatClampNeg l2) (fun σ13 => (if z_ob σ13 l0 4 then (zl (z_pI σ13 l0 2 ((z_I σ13 l0 2) + (1 : Int32))) (fun σ16 => (f_X4_add_46 σ16))) else none))) else none) else none))) else none))) else none) else none))))) else none)
set_option maxRecDepth 100000 in
def f_X5_init (σ : zSt) (l0 : Nat) (l1 : Nat) (l2 : Int32) (l3 : Nat) : Option (zSt) :=
(if z_ob σ l0 5 then (zl (z_pI σ l0 5 (-1 : Int32)) (fun σ2 => (if z_ob σ2 l0 5 then (zl (z_pR σ2 l0 0 (some l1)) (fun σ5 => (if z_ob σ5 l0 5 then (zl (z_pI σ5 l0 1 l2) (fun σ8 => (if z_ob σ8 l0 5 then (zl (z_pR σ8 l0 2 (some l3)) (fun σ11 => (some σ11))) else none))) else none))) else none))) else none)
set_option maxRecDepth 100000 in
def f_X5_sign_43 (σ : zSt) (s0 : Int32) : Option (Int32) :=
(some s0)
set_option maxRecDepth 100000 in
def f_X5_sign_42 (σ : zSt) : Option (Int32) :=
(f_X5_sign_43 σ (-1 : Int32))
set_option maxRecDepth 100000 in
def f_X5_sign (σ : zSt) (l0 : Nat) : Option (Int32) :=
(if z_ob σ l0 5 then (if (z_I σ l0 3) < 0 then
(f_X5_sign_42 σ)
else
(if (z_I σ l0 1) ≤ (z_I σ l0 3) then
(f_X5_sign_42 σ)
else
(zc (z_R σ l0 0) none (fun q2 => (if z_ar σ q2 1 then (if (Int32.ofNat (z_ln σ q2)) ≤ (z_I σ l0 3) then
(f_X5_sign_42 σ)
else
(zc (z_R σ l0 0) none (fun q5 => (if z_ar σ q5 1 then (if z_ix (z_I σ l0 3) (z_ln σ q5) then (f_X5_sign_43 σ (z_I σ q5 (z_I σ l0 3).toNatClampNeg)) else none) else none)))) else none))))) else none)
set_option maxRecDepth 100000 in
def f_X5_digit_25 (σ : zSt) (s0 : Int32) : Option (Int32) :=
(some s0)
set_option maxRecDepth 100000 in
def f_X5_digit_24 (σ : zSt) : Option (Int32) :=
(f_X5_digit_25 σ (-1 : Int32))
set_option maxRecDepth 100000 in
def f_X5_digit (σ : zSt) (l0 : Nat) : Option (Int32) :=
(if z_ob σ l0 5 then (zb (f_X5_sign σ l0) (fun r3 => (if r3 < (48 : Int32) then
(f_X5_digit_24 σ)
else
(if (57 : Int32) < r3 then
(f_X5_digit_24 σ)
else
(f_X5_digit_25 σ (r3 - (48 : Int32))))))) else none)
set_option maxRecDepth 100000 in
def f_X5_failsAt (σ : zSt) (l0 : Nat) (l1 : Int32) : Option (Int32 × zSt) :=
(if z_ob σ l0 5 then (zl (z_pI σ l0 5 l1) (fun σ2 => (some ((0 : Int32), σ2)))) else none)
set_option maxRecDepth 100000 in
def f_X5_readNumber (σ : zSt) (l0 : Nat) : Option (Int32 × zSt) :=
(if z_ob σ l0 5 then (zb (f_X5_digit σ l0) (fun r3 => (if r3 = (-1 : Int32) then
(zb2 (f_X5_failsAt σ l0 (z_I σ l0 3)) (fun r18 σ19 => (some ((-1 : Int32), σ19))))
else
(zl (z_pI σ l0 3 ((z_I σ l0 3) + (1 : Int32))) (fun σ4 => (if z_ob σ4 l0 5 then (zb (f_X5_digit σ4 l0) (fun r8 => (if r8 = (-1 : Int32) then
(some (r3, σ4))
else
(zl (z_pI σ4 l0 3 ((z_I σ4 l0 3) + (1 : Int32))) (fun σ9 => (if z_ob σ9 l0 5 then (zb (f_X5_digit σ9 l0) (fun r13 => (if r13 = (-1 : Int32) then
(some ((((10 : Int32) * r3) + r8), σ9))
else
(zb2 (f_X5_failsAt σ9 l0 (z_I σ9 l0 3)) (fun r15 σ16 => (some ((-1 : Int32), σ16))))))) else none)))))) else none)))))) else none)
set_option maxRecDepth 100000 in
def f_X9_isWithin_15 (σ : zSt) (s0 : Int32) : Option (Int32) :=
(if z_bl s0 then (some s0) else none)
set_option maxRecDepth 100000 in
def f_X9_isWithin_14 (σ : zSt) : Option (Int32) :=
(f_X9_isWithin_15 σ (0 : Int32))
set_option maxRecDepth 100000 in
def f_X9_isWithin (σ : zSt) (l0 : Int32) (l1 : Int32) (l2 : Int32) : Option (Int32) :=
(if l0 < l1 then
(f_X9_isWithin_14 σ)
else
(if l2 < l0 then
(f_X9_isWithin_14 σ)
else
(f_X9_isWithin_15 σ (1 : Int32))))
set_option maxRecDepth 100000 in
def f_X9_isAddress (σ : zSt) (l0 : Int32) : Option (Int32) :=
(zb (f_X9_isWithin σ l0 (0 : Int32) (31 : Int32)) (fun r2 => (if z_bl r2 then (some r2) else none)))
set_option maxRecDepth 100000 in
def f_X5_skips (σ : zSt) (l0 : Nat) (l1 : Int32) : Option (Int32 × zSt) :=
(if z_ob σ l0 5 then (zb (f_X5_sign σ l0) (fun r3 => (if r3 = l1 then
(zl (z_pI σ l0 3 ((z_I σ l0 3) + (1 : Int32))) (fun σ4 => (some ((1 : Int32), σ4))))
else
(zb2 (f_X5_failsAt σ l0 (z_I σ l0 3)) (fun r7 σ8 => (if z_bl r7 then (some (r7, σ8)) else none)))))) else none)
set_option maxRecDepth 100000 in
def f_X5_readStation_35 (σ : zSt) (l0 : Nat) (l1 : Int32) : Option (Int32 × zSt) :=
(if z_ob σ l0 5 then (zb2 (f_X5_failsAt σ l0 l1) (fun r3 σ4 => (if z_bl r3 then (some (r3, σ4)) else none))) else none)
set_option maxRecDepth 100000 in
def f_X5_readStation (σ : zSt) (l0 : Nat) : Option (Int32 × zSt) :=
(if z_ob σ l0 5 then (zl (z_I σ l0 3) (fun x2 => (zb2 (f_X5_readNumber σ l0) (fun r5 σ6 => (if r5 = (-1 : Int32) then
(some ((0 : Int32), σ6))
else
(zb (f_X9_isAddress σ6 r5) (fun r8 => (if r8 = 0 then
(f_X5_readStation_35 σ6 l0 x2)
else
(if z_ob σ6 l0 5 then (zc (z_R σ6 l0 2) none (fun q10 => (if z_ob σ6 q10 2 then (zb (f_X2_stationWith σ6 q10 r5) (fun r14 => (zc r14
(zb2 (f_X5_skips σ6 l0 (59 : Int32)) (fun r17 σ18 => (if r17 = 0 then
(some ((0 : Int32), σ18))
else
(if z_ob σ18 l0 5 then (zc (z_R σ18 l0 2) none (fun q20 => (if z_ob σ18 q20 2 then (zb2 (f_X2_placeStation σ18 q20 r5) (fun r24 σ25 => (if z_ob σ25 l0 5 then (zl (z_pR σ25 l0 4 r24) (fun σ27 => (some ((1 : Int32), σ27)))) else none))) else none))) else none))))
(fun a15 => (f_X5_readStation_35 σ6 l0 x2))))) else none))) else none))))))))) else none)
set_option maxRecDepth 100000 in
def f_X5_readMessage_89 (σ : zSt) : Option (Int32 × zSt) :=
(some ((0 : Int32), σ))
set_option maxRecDepth 100000 in
def f_X5_readMessage (σ : zSt) (l0 : Nat) : Option (Int32 × zSt) :=
(if z_ob σ l0 5 then (zl (z_I σ l0 3) (fun x2 => (zb2 (f_X5_readNumber σ l0) (fun r5 σ6 => (if r5 = (-1 : Int32) then
(some ((0 : Int32), σ6))
else
(zb (f_X9_isWithin σ6 r5 (1 : Int32) (20 : Int32)) (fun r8 => (if r8 = 0 then
(if z_ob σ6 l0 5 then (zb2 (f_X5_failsAt σ6 l0 x2) (fun r49 σ50 => (if z_bl r49 then (some (r49, σ50)) else none))) else none)
else
(if z_ob σ6 l0 5 then (zb2 (f_X5_skips σ6 l0 (44 : Int32)) (fun r11 σ12 => (if r11 = 0 then
(some ((0 : Int32), σ12))
else
(if z_ob σ12 l0 5 then (zb (f_X5_digit σ12 l0) (fun r15 => (if r15 = (-1 : Int32) then
(zb2 (f_X5_failsAt σ12 l0 (z_I σ12 l0 3)) (fun r44 σ45 => (if z_bl r44 then (some (r44, σ45)) else none)))
else
(zl (z_pI σ12 l0 3 ((z_I σ12 l0 3) + (1 : Int32))) (fun σ16 => (if z_ob σ16 l0 5 then (zb2 (f_X5_skips σ16 l0 (59 : Int32)) (fun r20 σ21 => (if r20 = 0 then
(f_X5_readMessage_89 σ21)
else
(if z_ob σ21 l0 5 then (zl (z_R σ21 l0 4) (fun v23 => (zc v23
(f_X5_readMessage_89 σ21)
(fun a25 => (zc (z_R σ21 l0 2) none (fun q26 => (if z_ob σ21 q26 2 then (zc (z_R σ21 q26 1) none (fun q29 => (zl (z_R σ21 l0 4) (fun v31 => (zc (z_R σ21 l0 2) none (fun q33 => (if z_ob σ21 q33 2 then (zc v31 none (fun a36 => (if z_ob σ21 q29 3 then (zb2 (f_X3_add σ21 q29 a36 r5 r15 (z_I σ21 q33 9)) (fun r40 σ41 => (some ((1 : Int32), σ41)))) else none))) else none))))))) else none))))))) else none)))) else none)))))) else none)))) else none))))))))) else none)
set_option maxRecDepth 100000 in
def f_X5_readItem_64 (σ : zSt) (l0 : Nat) : Option (Int32 × zSt) :=
(if z_ob σ l0 5 then (zb2 (f_X5_failsAt σ l0 (z_I σ l0 3)) (fun r3 σ4 => (if z_bl r3 then (some (r3, σ4)) else none))) else none)
set_option maxRecDepth 100000 in
def f_X5_readItem_36 (σ : zSt) (l0 : Nat) (l1 : Int32) : Option (Int32 × zSt) :=
(if l1 = (109 : Int32) then
(if z_ob σ l0 5 then (zl (z_R σ l0 4) (fun v2 => (zc v2
(f_X5_readItem_64 σ l0)
(fun a4 => (zl (z_pI σ l0 3 ((z_I σ l0 3) + (1 : Int32))) (fun σ5 => (if z_ob σ5 l0 5 then (zb2 (f_X5_readMessage σ5 l0) (fun r9 σ10 => (if z_bl r9 then (some (r9, σ10)) else none))) else none))))))) else none)
else
(f_X5_readItem_64 σ l0))
set_option maxRecDepth 100000 in
def f_X5_readItem (σ : zSt) (l0 : Nat) : Option (Int32 × zSt) :=
(if z_ob σ l0 5 then (zb (f_X5_sign σ l0) (fun r3 => (if r3 = (115 : Int32) then
(zc (z_R σ l0 2) none (fun q4 => (if z_ob σ q4 2 then (zb (f_X2_isFull σ q4) (fun r8 => (if r8 = 0 then
(zl (z_pI σ l0 3 ((z_I σ l0 3) + (1 : Int32))) (fun σ9 => (if z_ob σ9 l0 5 then (zb2 (f_X5_readStation σ9 l0) (fun r13 σ14 => (if z_bl r13 then (some (r13, σ14)) else none))) else none)))
else
(f_X5_readItem_36 σ l0 r3)))) else none)))
else
(f_X5_readItem_36 σ l0 r3)))) else none)
set_option maxRecDepth 100000 in
def f_X5_readItems_36 (σ : zSt) (l1 : Int32) : Option (Int32 × zSt) :=
(some (l1, σ))
set_option maxRecDepth 100000 in
def b_X5_readItems_2 (l0 : Nat) (σ : zSt) (l1 : Int32) : Option ((zSt × Int32) ⊕ (Int32 × zSt)) :=
(if z_ob σ l0 5 then (if (z_I σ l0 1) ≤ l1 then
(zex (f_X5_readItems_36 σ l1))
else
(if (z_I σ l0 1) ≤ (z_I σ l0 3) then
(zex (f_X5_readItems_36 σ l1))
else
(zb2 (f_X5_readItem σ l0) (fun r5 σ6 => (if r5 = 0 then
(zex (some ((-1 : Int32), σ6)))
else
(some (.inl (σ6, (l1 + (1 : Int32)))))))))) else none)
set_option maxRecDepth 100000 in
def f_X5_readItems_2 (l0 : Nat) (σ : zSt) (l1 : Int32) : Option (Int32 × zSt) := zloop (fun (t : zSt × Int32) => b_X5_readItems_2 l0 t.1 t.2) zN (σ, l1)
set_option maxRecDepth 100000 in
def f_X5_readItems (σ : zSt) (l0 : Nat) : Option (Int32 × zSt) :=
(f_X5_readItems_2 l0 σ (0 : Int32))
set_option maxRecDepth 100000 in
def f_X8_lowest_40 (σ : zSt) (l0 : Nat) (l1 : Int32) (l2 : Int32) : Option ((Int32) ⊕ (Option Nat)) :=
(some (.inl (l2 + (1 : Int32))))
set_option maxRecDepth 100000 in
def f_X8_lowest_38 (σ : zSt) (l3 : Nat) : Option (Option Nat) :=
(some (some l3))
set_option maxRecDepth 100000 in
def b_X8_lowest_2 (σ : zSt) (l0 : Nat) (l1 : Int32) (l2 : Int32) : Option ((Int32) ⊕ (Option Nat)) :=
(if z_ob σ l0 2 then (if (z_I σ l0 5) ≤ l2 then
(zex (some none))
else
(zb (f_X2_stationIn σ l0 l2) (fun r4 => (zc r4
(f_X8_lowest_40 σ l0 l1 l2)
(fun a5 => (if z_ob σ a5 6 then (if (z_I σ a5 1) = 0 then
(f_X8_lowest_40 σ l0 l1 l2)
else
(if (z_I σ a5 2) = 0 then
(if l1 = 0 then
(zex (f_X8_lowest_38 σ a5))
else
(f_X8_lowest_40 σ l0 l1 l2))
else
(zex (f_X8_lowest_38 σ a5)))) else none)))))) else none)
set_option maxRecDepth 100000 in
def f_X8_lowest_2 (σ : zSt) (l0 : Nat) (l1 : Int32) (l2 : Int32) : Option (Option Nat) := zloop (fun (t : Int32) => b_X8_lowest_2 σ l0 l1 t) zN l2
set_option maxRecDepth 100000 in
def f_X8_lowest (σ : zSt) (l0 : Nat) (l1 : Int32) : Option (Option Nat) :=
(f_X8_lowest_2 σ l0 l1 (0 : Int32))
set_option maxRecDepth 100000 in
def f_X8_makeAnew_65 (σ : zSt) (l0 : Nat) (l1 : Nat) : Option (Option Nat × zSt) :=
(if z_ob σ l1 6 then (if z_ob σ l0 2 then (zl (z_pI σ l0 10 (z_I σ l1 0)) (fun σ3 => (if z_ob σ3 l0 2 then (zc (z_R σ3 l0 3) none (fun q6 => (if z_ob σ3 q6 0 then (zl (z_pI σ3 q6 3 ((z_I σ3 q6 3) + (1 : Int32))) (fun σ9 => (some ((some l1), σ9)))) else none))) else none))) else none) else none)
set_option maxRecDepth 100000 in
def f_X8_makeAnew_16 (σ : zSt) (l0 : Nat) (l1 : Option Nat) : Option (Option Nat × zSt) :=
(zc l1
(some (none, σ))
(fun a1 => (if z_ob σ l0 2 then (if z_ob σ a1 6 then (zl (z_pI σ l0 9 ((z_I σ l0 9) + ((z_I σ l0 7) * ((6 : Int32) + ((2 : Int32) * (z_I σ a1 0)))))) (fun σ4 => (if z_ob σ4 a1 6 then (if (z_I σ4 a1 2) = 0 then
(zl (z_pI σ4 a1 2 (1 : Int32)) (fun σ7 => (if z_ob σ7 a1 6 then (zl (z_pI σ7 a1 3 (z_I σ7 a1 0)) (fun σ10 => (f_X8_makeAnew_65 σ10 l0 a1))) else none)))
else
(f_X8_makeAnew_65 σ4 l0 a1)) else none))) else none) else none)))
set_option maxRecDepth 100000 in
def f_X8_makeAnew (σ : zSt) (l0 : Nat) : Option (Option Nat × zSt) :=
(zb (f_X8_lowest σ l0 (1 : Int32)) (fun r2 => (zc r2
(zb (f_X8_lowest σ l0 (0 : Int32)) (fun r5 => (f_X8_makeAnew_16 σ l0 r5)))
(fun a3 => (f_X8_makeAnew_16 σ l0 (some a3))))))
set_option maxRecDepth 100000 in
def f_X8_beginVisit_21 (σ : zSt) (l0 : Nat) (l1 : Nat) (s0 : Int32) : Option (Int32 × zSt) :=
(if z_ob σ l0 2 then (if z_ob σ l1 6 then (zl (z_pI σ l1 8 (z_I σ l0 9)) (fun σ3 => (if z_ob σ3 l1 6 then (zl (z_pI σ3 l1 7 ((z_I σ3 l1 7) + (1 : Int32))) (fun σ6 => (if z_ob σ6 l0 2 then (zc (z_R σ6 l0 3) none (fun q9 => (if z_ob σ6 q9 0 then (zl (z_pI σ6 q9 0 ((z_I σ6 q9 0) + (1 : Int32))) (fun σ12 => (if z_ob σ12 l0 2 then (zc (z_R σ12 l0 3) none (fun q15 => (zc (z_R σ12 l0 3) none (fun q17 => (if z_ob σ12 q17 0 then (if z_ob σ12 q15 0 then (zl (z_pI σ12 q15 7 (if (z_I σ12 q17 7) < s0 then s0 else (z_I σ12 q17 7))) (fun σ21 => (some (s0, σ21)))) else none) else none))))) else none))) else none))) else none))) else none))) else none) else none)
set_option maxRecDepth 100000 in
def f_X8_beginVisit (σ : zSt) (l0 : Nat) (l1 : Nat) : Option (Int32 × zSt) :=
(if z_ob σ l1 6 then (if (z_I σ l1 8) = (-1 : Int32) then
(f_X8_beginVisit_21 σ l0 l1 (0 : Int32))
else
(if z_ob σ l0 2 then (f_X8_beginVisit_21 σ l0 l1 ((z_I σ l0 9) - (z_I σ l1 8))) else none)) else none)
set_option maxRecDepth 100000 in
def f_X8_sendFirst (σ : zSt) (l0 : Nat) (l1 : Nat) : Option (Int32 × zSt) :=
(if z_ob σ l0 2 then (zc (z_R σ l0 1) none (fun q2 => (if z_ob σ l1 6 then (if z_ob σ q2 3 then (zb (f_X3_value σ q2 (z_I σ l1 5) (0 : Int32)) (fun r7 => (zl (z_I σ l0 9) (fun x8 => (zb2 (f_X2_transmit σ l0 r7) (fun r11 σ12 => (if r11 = 0 then
(some ((0 : Int32), σ12))
else
(if z_ob σ12 l0 2 then (zc (z_R σ12 l0 3) none (fun q14 => (zc (z_R σ12 l0 1) none (fun q16 => (if z_ob σ12 q16 3 then (zb2 (f_X3_takeFirst σ12 q16 l1 x8) (fun r20 σ21 => (if z_ob σ21 q14 0 then (zb (f_X0_addSent σ21 q14 r7 r20) (fun σ24 => (some ((1 : Int32), σ24)))) else none))) else none))))) else none)))))))) else none) else none))) else none)
set_option maxRecDepth 100000 in
def f_X8_sendMessages_73 (σ : zSt) (l4 : Int32) : Option (Int32 × zSt) :=
(some (l4, σ))
set_option maxRecDepth 100000 in
def f_X8_sendMessages_53 (σ : zSt) (l0 : Nat) (l1 : Nat) (l2 : Int32) (l3 : Int32) (l4 : Int32) : Option ((zSt × Int32 × Int32) ⊕ (Int32 × zSt)) :=
(zb2 (f_X8_sendFirst σ l0 l1) (fun r2 σ3 => (if r2 = 0 then
(zex (f_X8_sendMessages_73 σ3 l4))
else
(some (.inl (σ3, (l4 + (1 : Int32)), (0 : Int32)))))))
set_option maxRecDepth 100000 in
def b_X8_sendMessages_21 (l0 : Nat) (l1 : Nat) (l2 : Int32) (l3 : Int32) (σ : zSt) (l4 : Int32) (l5 : Int32) : Option ((zSt × Int32 × Int32) ⊕ (Int32 × zSt)) :=
(if (100 : Int32) ≤ l4 then
(zex (f_X8_sendMessages_73 σ l4))
else
(if z_ob σ l1 6 then (if (z_I σ l1 6) ≤ 0 then
(zex (f_X8_sendMessages_73 σ l4))
else
(if l5 = 0 then
(if z_ob σ l0 2 then (if ((z_I σ l0 9) - l3) < l2 then
(f_X8_sendMessages_53 σ l0 l1 l2 l3 l4)
else
(zex (f_X8_sendMessages_73 σ l4))) else none)
else
(f_X8_sendMessages_53 σ l0 l1 l2 l3 l4))) else none))
set_option maxRecDepth 100000 in
def f_X8_sendMessages_21 (l0 : Nat) (l1 : Nat) (l2 : Int32) (l3 : Int32) (σ : zSt) (l4 : Int32) (l5 : Int32) : Option (Int32 × zSt) := zloop (fun (t : zSt × Int32 × Int32) => b_X8_sendMessages_21 l0 l1 l2 l3 t.1 t.2.1 t.2.2) zN (σ, l4, l5)
set_option maxRecDepth 100000 in
def f_X8_sendMessages (σ : zSt) (l0 : Nat) (l1 : Nat) (l2 : Int32) : Option (Int32 × zSt) :=
(if z_ob σ l0 2 then (zl (z_I σ l0 9) (fun x2 => (zc (z_R σ l0 1) none (fun q4 => (if z_ob σ l1 6 then (if z_ob σ q4 3 then (zb (f_X3_isUrgent σ q4 (z_I σ l1 5)) (fun r9 => (f_X8_sendMessages_21 l0 l1 l2 x2 σ (0 : Int32) r9))) else none) else none))))) else none)
set_option maxRecDepth 100000 in
def f_X9_addressBehind (σ : zSt) (l0 : Int32) : Option (Int32) :=
(some ((l0 + (1 : Int32)) &&& (31 : Int32)))
set_option maxRecDepth 100000 in
def f_X8_comesIn_39 (σ : zSt) : Option (Int32 × zSt) :=
(some ((0 : Int32), σ))
set_option maxRecDepth 100000 in
def f_X8_comesIn_20 (σ : zSt) (l0 : Nat) (l1 : Nat) (s0 : Option Nat) : Option (Int32 × zSt) :=
(zc s0
(f_X8_comesIn_39 σ)
(fun a1 => (if z_ob σ a1 6 then (if (z_I σ a1 1) = 0 then
(f_X8_comesIn_39 σ)
else
(if (z_I σ a1 2) = 0 then
(if z_ob σ l0 2 then (zb2 (f_X2_transmit σ l0 (1 : Int32)) (fun r5 σ6 => (if r5 = 0 then
(some ((0 : Int32), σ6))
else
(if z_ob σ6 a1 6 then (zl (z_pI σ6 a1 2 (1 : Int32)) (fun σ8 => (if z_ob σ8 l1 6 then (if z_ob σ8 a1 6 then (zl (z_pI σ8 a1 3 (z_I σ8 l1 3)) (fun σ12 => (if z_ob σ12 a1 6 then (zl (z_pI σ12 a1 4 (z_I σ12 a1 0)) (fun σ15 => (if z_ob σ15 a1 6 then (if z_ob σ15 l1 6 then (zl (z_pI σ15 l1 3 (z_I σ15 a1 0)) (fun σ19 => (if z_ob σ19 l0 2 then (zc (z_R σ19 l0 3) none (fun q22 => (if z_ob σ19 q22 0 then (zl (z_pI σ19 q22 4 ((z_I σ19 q22 4) + (1 : Int32))) (fun σ25 => (some ((1 : Int32), σ25)))) else none))) else none))) else none) else none))) else none))) else none) else none))) else none)))) else none)
else
(f_X8_comesIn_39 σ))) else none)))
set_option maxRecDepth 100000 in
def f_X8_comesIn (σ : zSt) (l0 : Nat) (l1 : Nat) : Option (Int32 × zSt) :=
(if z_ob σ l0 2 then (zb2 (f_X2_transmit σ l0 (1 : Int32)) (fun r3 σ4 => (if r3 = 0 then
(f_X8_comesIn_20 σ4 l0 l1 none)
else
(if z_ob σ4 l1 6 then (if z_ob σ4 l0 2 then (zb (f_X2_stationWith σ4 l0 (z_I σ4 l1 4)) (fun r8 => (f_X8_comesIn_20 σ4 l0 l1 r8))) else none) else none)))) else none)
set_option maxRecDepth 100000 in
def f_X8_pollGap_20 (σ : zSt) : Option (zSt) :=
(some σ)
set_option maxRecDepth 100000 in
def f_X8_pollGap_121 (σ : zSt) : Option (zSt) :=
(some σ)
set_option maxRecDepth 100000 in
def f_X8_pollGap_97 (σ : zSt) (l0 : Nat) (l1 : Nat) (s0 : Int32) (s1 : Option Nat) : Option (zSt) :=
(zc s1 none (fun a1 => (if z_ob σ a1 6 then (zl (z_pI σ a1 4 s0) (fun σ4 => (zb2 (f_X8_comesIn σ4 l0 l1) (fun r7 σ8 => (if r7 = 0 then
(if z_ob σ8 l0 2 then (zl (z_pI σ8 l0 9 ((z_I σ8 l0 9) + (z_I σ8 l0 7))) (fun σ10 => (f_X8_pollGap_121 σ10))) else none)
else
(f_X8_pollGap_121 σ8)))))) else none)))
set_option maxRecDepth 100000 in
def f_X8_pollGap_72 (σ : zSt) (l0 : Nat) (l1 : Nat) (s0 : Int32) : Option (zSt) :=
(if s0 = 0 then
(if z_ob σ l1 6 then (zb (f_X9_addressBehind σ (z_I σ l1 0)) (fun r3 => (f_X8_pollGap_97 σ l0 l1 r3 (some l1)))) else none)
else
(if z_ob σ l1 6 then (zb (f_X9_addressBehind σ (z_I σ l1 4)) (fun r6 => (f_X8_pollGap_97 σ l0 l1 r6 (some l1)))) else none))
set_option maxRecDepth 100000 in
def f_X8_pollGap_71 (σ : zSt) (l0 : Nat) (l1 : Nat) : Option (zSt) :=
(f_X8_pollGap_72 σ l0 l1 (0 : Int32))
set_option maxRecDepth 100000 in
def f_X8_pollGap (σ : zSt) (l0 : Nat) (l1 : Nat) : Option (zSt) :=
(if z_ob σ l0 2 then (if (z_I σ l0 8) < (1 : Int32) then
(f_X8_pollGap_20 σ)
else
(if z_ob σ l1 6 then (if ¬ (z_I σ l0 8) = 0 then (if ((z_I σ l1 7) - (z_I σ l1 7) / (z_I σ l0 8) * (z_I σ l0 8)) = 0 then
(zl ((((z_I σ l1 3) - (z_I σ l1 0)) - (1 : Int32)) &&& (31 : Int32)) (fun x4 => (if x4 = 0 then
(some σ)
else
(zb (f_X9_addressBehind σ (z_I σ l1 4)) (fun r7 => (zl ((r7 - (z_I σ l1 0)) &&& (31 : Int32)) (fun x8 => (if x8 < (1 : Int32) then
(f_X8_pollGap_71 σ l0 l1)
else
(if x4 < x8 then
(f_X8_pollGap_71 σ l0 l1)
else
(f_X8_pollGap_72 σ l0 l1 (1 : Int32)))))))))))
else
(f_X8_pollGap_20 σ)) else none) else none)) else none)
set_option maxRecDepth 100000 in
def f_X8_reaches_38 (σ : zSt) (l0 : Nat) : Option (Int32 × zSt) :=
(if z_ob σ l0 2 then (zl (z_pI σ l0 9 ((z_I σ l0 9) + (z_I σ l0 7))) (fun σ2 => (some ((0 : Int32), σ2)))) else none)
set_option maxRecDepth 100000 in
def f_X8_reaches_17 (σ : zSt) (l0 : Nat) (s0 : Option Nat) : Option (Int32 × zSt) :=
(zc s0
(f_X8_reaches_38 σ l0)
(fun a1 => (if z_ob σ a1 6 then (if (z_I σ a1 1) = 0 then
(f_X8_reaches_38 σ l0)
else
(if (z_I σ a1 2) = 0 then
(f_X8_reaches_38 σ l0)
else
(some ((1 : Int32), σ)))) else none)))
set_option maxRecDepth 100000 in
def f_X8_reaches (σ : zSt) (l0 : Nat) (l1 : Int32) : Option (Int32 × zSt) :=
(if z_ob σ l0 2 then (zb2 (f_X2_transmit σ l0 (1 : Int32)) (fun r3 σ4 => (if r3 = 0 then
(f_X8_reaches_17 σ4 l0 none)
else
(if z_ob σ4 l0 2 then (zb (f_X2_stationWith σ4 l0 l1) (fun r7 => (f_X8_reaches_17 σ4 l0 r7))) else none)))) else none)
set_option maxRecDepth 100000 in
def b_X8_passToNext_2 (l0 : Nat) (l1 : Nat) (σ : zSt) (l2 : Int32) : Option ((zSt × Int32) ⊕ (Int32 × zSt)) :=
(if (3 : Int32) ≤ l2 then
(zex (some ((0 : Int32), σ)))
else
(if z_ob σ l1 6 then (zb2 (f_X8_reaches σ l0 (z_I σ l1 3)) (fun r4 σ5 => (if r4 = 0 then
(some (.inl (σ5, (l2 + (1 : Int32)))))
else
(zex (if z_ob σ5 l1 6 then (if z_ob σ5 l0 2 then (zl (z_pI σ5 l0 10 (z_I σ5 l1 3)) (fun σ8 => (some ((1 : Int32), σ8)))) else none) else none))))) else none))
set_option maxRecDepth 100000 in
def f_X8_passToNext_2 (l0 : Nat) (l1 : Nat) (σ : zSt) (l2 : Int32) : Option (Int32 × zSt) := zloop (fun (t : zSt × Int32) => b_X8_passToNext_2 l0 l1 t.1 t.2) zN (σ, l2)
set_option maxRecDepth 100000 in
def f_X8_passToNext (σ : zSt) (l0 : Nat) (l1 : Nat) : Option (Int32 × zSt) :=
(f_X8_passToNext_2 l0 l1 σ (0 : Int32))
set_option maxRecDepth 100000 in
def f_X8_dropSilent_43 (σ : zSt) : Option (zSt) :=
(some σ)
set_option maxRecDepth 100000 in
def f_X8_dropSilent (σ : zSt) (l0 : Nat) (l1 : Nat) : Option (zSt) :=
(if z_ob σ l1 6 then (if z_ob σ l0 2 then (zb (f_X2_stationWith σ l0 (z_I σ l1 3)) (fun r4 => (zc r4
(f_X8_dropSilent_43 σ)
(fun a5 => (if (some a5) = (some l1) then
(f_X8_dropSilent_43 σ)
else
(if z_ob σ a5 6 then (if (z_I σ a5 2) = 0 then
(f_X8_dropSilent_43 σ)
else
(zl (z_pI σ a5 2 (0 : Int32)) (fun σ7 => (if z_ob σ7 l0 2 then (zc (z_R σ7 l0 3) none (fun q10 => (if z_ob σ7 q10 0 then (zl (z_pI σ7 q10 5 ((z_I σ7 q10 5) + (1 : Int32))) (fun σ13 => (f_X8_dropSilent_43 σ13))) else none))) else none)))) else none)))))) else none) else none)
set_option maxRecDepth 100000 in
def f_X8_askOthers_54 (σ : zSt) (l1 : Nat) : Option (zSt) :=
(if z_ob σ l1 6 then (zl (z_pI σ l1 3 (z_I σ l1 0)) (fun σ2 => (some σ2))) else none)
set_option maxRecDepth 100000 in
def b_X8_askOthers_10 (l0 : Nat) (l1 : Nat) (σ : zSt) (l2 : Int32) (l3 : Int32) : Option ((zSt × Int32 × Int32) ⊕ (zSt)) :=
(if (31 : Int32) < l3 then
(zex (f_X8_askOthers_54 σ l1))
else
(if z_ob σ l1 6 then (if l2 = (z_I σ l1 0) then
(zex (f_X8_askOthers_54 σ l1))
else
(zb2 (f_X8_reaches σ l0 l2) (fun r5 σ6 => (if r5 = 0 then
(zb (f_X9_addressBehind σ6 l2) (fun r8 => (some (.inl (σ6, r8, (l3 + (1 : Int32)))))))
else
(zex (if z_ob σ6 l1 6 then (zl (z_pI σ6 l1 3 l2) (fun σ10 => (if z_ob σ10 l0 2 then (zl (z_pI σ10 l0 10 l2) (fun σ13 => (some σ13))) else none))) else none)))))) else none))
set_option maxRecDepth 100000 in
def f_X8_askOthers_10 (l0 : Nat) (l1 : Nat) (σ : zSt) (l2 : Int32) (l3 : Int32) : Option (zSt) := zloop (fun (t : zSt × Int32 × Int32) => b_X8_askOthers_10 l0 l1 t.1 t.2.1 t.2.2) zN (σ, l2, l3)
set_option maxRecDepth 100000 in
def f_X8_askOthers (σ : zSt) (l0 : Nat) (l1 : Nat) : Option (zSt) :=
(if z_ob σ l1 6 then (zb (f_X9_addressBehind σ (z_I σ l1 3)) (fun r3 => (f_X8_askOthers_10 l0 l1 σ r3 (0 : Int32)))) else none)
set_option maxRecDepth 100000 in
def f_X8_makeVisit_70 (σ : zSt) (l0 : Nat) (l1 : Nat) (l2 : Int32) (l3 : Int32) (l4 : Int32) : Option (zSt) :=
(if z_ob σ l1 6 then (if z_ob σ l0 2 then (zb (f_X2_logVisit σ l0 l2 (z_I σ l1 0) l3 l4) (fun σ4 => (some σ4))) else none) else none)
set_option maxRecDepth 100000 in
def f_X8_makeVisit_18 (σ : zSt) (l0 : Nat) (l1 : Option Nat) : Option (zSt) :=
(zc l1
(some σ)
(fun a1 => (if z_ob σ l0 2 then (zl (z_I σ l0 9) (fun x3 => (zb2 (f_X8_beginVisit σ l0 a1) (fun r6 σ7 => (if z_ob σ7 l0 2 then (zb2 (f_X8_sendMessages σ7 l0 a1 ((z_I σ7 l0 6) - r6)) (fun r10 σ11 => (zb (f_X8_pollGap σ11 l0 a1) (fun σ13 => (zb2 (f_X8_passToNext σ13 l0 a1) (fun r15 σ16 => (if r15 = 0 then
(zb (f_X8_dropSilent σ16 l0 a1) (fun σ18 => (zb (f_X8_askOthers σ18 l0 a1) (fun σ20 => (f_X8_makeVisit_70 σ20 l0 a1 x3 r6 r10)))))
else
(f_X8_makeVisit_70 σ16 l0 a1 x3 r6 r10)))))))) else none))))) else none)))
set_option maxRecDepth 100000 in
def f_X8_makeVisit (σ : zSt) (l0 : Nat) : Option (zSt) :=
(if z_ob σ l0 2 then (zb (f_X2_stationWith σ l0 (z_I σ l0 10)) (fun r3 => (zc r3
(zb2 (f_X8_makeAnew σ l0) (fun r6 σ7 => (f_X8_makeVisit_18 σ7 l0 r6)))
(fun a4 => (f_X8_makeVisit_18 σ l0 (some a4)))))) else none)
set_option maxRecDepth 100000 in
def f_X9_init (σ : zSt) (l0 : Nat) : Option (zSt) :=
(zl (z_nw σ (.inl 2)) (fun σ1 => (zb (f_X2_init σ1 (z_nx σ)) (fun σ4 => (if z_ob σ4 l0 8 then (zl (z_pR σ4 l0 0 (some (z_nx σ))) (fun σ6 => (zl (z_nw σ6 (.inl 2)) (fun σ8 => (zb (f_X2_init σ8 (z_nx σ6)) (fun σ11 => (if z_ob σ11 l0 8 then (zl (z_pR σ11 l0 1 (some (z_nx σ6))) (fun σ13 => (zl (z_nw σ13 (.inl 1)) (fun σ15 => (zb (f_X1_init σ15 (z_nx σ13)) (fun σ18 => (if z_ob σ18 l0 8 then (zl (z_pR σ18 l0 2 (some (z_nx σ13))) (fun σ20 => (zl (z_nw σ20 (.inr (1, 120))) (fun σ22 => (if z_ob σ22 l0 8 then (zl (z_pR σ22 l0 3 (some (z_nx σ20))) (fun σ25 => (some σ25))) else none))))) else none))))))) else none))))))) else none)))))
set_option maxRecDepth 100000 in
def f_X9_loseToken (σ : zSt) (l0 : Nat) : Option (Int32 × zSt) :=
(if z_ob σ l0 8 then (zc (z_R σ l0 0) none (fun q2 => (if z_ob σ q2 2 then (zl (z_I σ q2 10) (fun x5 => (zc (z_R σ l0 2) none (fun q7 => (zc (z_R σ l0 0) none (fun q9 => (if z_ob σ q7 1 then (zb (f_X1_save σ q7 q9) (fun σ13 => (if z_ob σ13 l0 8 then (zc (z_R σ13 l0 0) none (fun q15 => (if z_ob σ13 q15 2 then (zl (z_pI σ13 q15 10 (-1 : Int32)) (fun σ18 => (some (x5, σ18)))) else none))) else none))) else none))))))) else none))) else none)
set_option maxRecDepth 100000 in
def f_X9_logged (σ : zSt) (l0 : Nat) : Option (Int32) :=
(if z_ob σ l0 8 then (zc (z_R σ l0 0) none (fun q2 => (if z_ob σ q2 2 then (zb (f_X2_logLength σ q2) (fun r6 => (some r6))) else none))) else none)
set_option maxRecDepth 100000 in
def f_X9_greatestRotation (σ : zSt) (l0 : Nat) : Option (Int32) :=
(if z_ob σ l0 8 then (zc (z_R σ l0 0) none (fun q2 => (if z_ob σ q2 2 then (zc (z_R σ q2 3) none (fun q5 => (if z_ob σ q5 0 then (some (z_I σ q5 7)) else none))) else none))) else none)
set_option maxRecDepth 100000 in
def f_X9_waits_40 (σ : zSt) (s0 : UInt64) : Option (UInt64) :=
(some s0)
set_option maxRecDepth 100000 in
def f_X9_waits (σ : zSt) (l0 : Nat) (l1 : Int32) : Option (UInt64) :=
(if z_ob σ l0 8 then (zc (z_R σ l0 0) none (fun q2 => (if z_ob σ q2 2 then (zc (z_R σ q2 3) none (fun q5 => (if z_ob σ q5 0 then (if (z_I σ q5 1) = 0 then
(some FP.dconst0)
else
(if l1 = 0 then
(if vf_n64b (FP.ddiv (FP.l2d (z_J σ q5 9)) (FP.i2d (z_I σ q5 1))) then (f_X9_waits_40 σ (FP.ddiv (FP.l2d (z_J σ q5 9)) (FP.i2d (z_I σ q5 1)))) else none)
else
(f_X9_waits_40 σ (FP.i2d (z_I σ q5 8))))) else none))) else none))) else none)
set_option maxRecDepth 100000 in
def f_X9_use_34 (σ : zSt) (s0 : UInt64) : Option (UInt64) :=
(some s0)
set_option maxRecDepth 100000 in
def f_X9_use (σ : zSt) (l0 : Nat) : Option (UInt64) :=
(if z_ob σ l0 8 then (zc (z_R σ l0 0) none (fun q2 => (if z_ob σ q2 2 then (if (z_I σ q2 9) = 0 then
(f_X9_use_34 σ FP.dconst0)
else
(zc (z_R σ l0 0) none (fun q5 => (if z_ob σ q5 2 then (zc (z_R σ q5 3) none (fun q8 => (if z_ob σ q8 0 then (zc (z_R σ l0 0) none (fun q11 => (if z_ob σ q11 2 then (if vf_n64b (FP.ddiv (FP.i2d (z_I σ q8 6)) (FP.i2d (z_I σ q11 9))) then (f_X9_use_34 σ (FP.ddiv (FP.i2d (z_I σ q8 6)) (FP.i2d (z_I σ q11 9)))) else none) else none))) else none))) else none)))) else none))) else none)
set_option maxRecDepth 100000 in
def f_X9_sendsAll_64 (σ : zSt) (s0 : Int32) : Option (Int32 × zSt) :=
(if z_bl s0 then (some (s0, σ)) else none)
set_option maxRecDepth 100000 in
def f_X9_sendsAll_49 (σ : zSt) (l0 : Nat) : Option (Int32 × zSt) :=
(if z_ob σ l0 8 then (zc (z_R σ l0 1) none (fun q2 => (if z_ob σ q2 2 then (zb (f_X2_isWaitedAt σ q2) (fun r6 => (if r6 = 0 then
(f_X9_sendsAll_64 σ (1 : Int32))
else
(f_X9_sendsAll_64 σ (0 : Int32))))) else none))) else none)
set_option maxRecDepth 100000 in
def b_X9_sendsAll_21 (l0 : Nat) (l2 : Int32) (σ : zSt) (l3 : Int32) : Option ((zSt × Int32) ⊕ (Int32 × zSt)) :=
(if l2 ≤ l3 then
(zex (f_X9_sendsAll_49 σ l0))
else
(if z_ob σ l0 8 then (zc (z_R σ l0 1) none (fun q3 => (if z_ob σ q3 2 then (zb (f_X2_isWaitedAt σ q3) (fun r7 => (if r7 = 0 then
(zex (f_X9_sendsAll_49 σ l0))
else
(zc (z_R σ l0 1) none (fun q9 => (zb (f_X8_makeVisit σ q9) (fun σ12 => (some (.inl (σ12, (l3 + (1 : Int32)))))))))))) else none))) else none))
set_option maxRecDepth 100000 in
def f_X9_sendsAll_21 (l0 : Nat) (l2 : Int32) (σ : zSt) (l3 : Int32) : Option (Int32 × zSt) := zloop (fun (t : zSt × Int32) => b_X9_sendsAll_21 l0 l2 t.1 t.2) zN (σ, l3)
set_option maxRecDepth 100000 in
def f_X9_sendsAll (σ : zSt) (l0 : Nat) (l1 : Int32) (l2 : Int32) : Option (Int32 × zSt) :=
(if z_ob σ l0 8 then (zc (z_R σ l0 1) none (fun q2 => (zc (z_R σ l0 0) none (fun q4 => (if z_ob σ q2 2 then (zb (f_X2_copyFrom σ q2 q4) (fun σ8 => (if z_ob σ8 l0 8 then (zc (z_R σ8 l0 1) none (fun q10 => (if z_ob σ8 q10 2 then (zl (z_pI σ8 q10 6 l1) (fun σ13 => (f_X9_sendsAll_21 l0 l2 σ13 (0 : Int32)))) else none))) else none))) else none))))) else none)
set_option maxRecDepth 100000 in
def f_X9_clearText (σ : zSt) (l0 : Nat) : Option (Int32 × zSt) :=
(if z_ob σ l0 8 then (zl (z_I σ l0 4) (fun x2 => (zl (z_pI σ l0 4 (0 : Int32)) (fun σ4 => (some (x2, σ4)))))) else none)
set_option maxRecDepth 100000 in
def f_X9_parse (σ : zSt) (l0 : Nat) : Option (Int32 × zSt) :=
(if z_ob σ l0 8 then (zc (z_R σ l0 1) none (fun q2 => (if z_ob σ q2 2 then (zb (f_X2_clear σ q2) (fun σ6 => (if z_ob σ6 l0 8 then (zc (z_R σ6 l0 1) none (fun q8 => (zc (z_R σ6 l0 0) none (fun q10 => (if z_ob σ6 q8 2 then (zb (f_X2_takeTimes σ6 q8 q10) (fun σ14 => (zl (z_nw σ14 (.inl 5)) (fun σ15 => (if z_ob σ15 l0 8 then (zc (z_R σ15 l0 3) none (fun q18 => (zc (z_R σ15 l0 1) none (fun q20 => (zb (f_X5_init σ15 (z_nx σ14) q18 (z_I σ15 l0 4) q20) (fun σ23 => (if z_ob σ23 (z_nx σ14) 5 then (zb2 (f_X5_readItems σ23 (z_nx σ14)) (fun r26 σ27 => (if r26 = (-1 : Int32) then
(if z_ob σ27 (z_nx σ14) 5 then (some (((-10 : Int32) - (z_I σ27 (z_nx σ14) 5)), σ27)) else none)
else
(if z_ob σ27 l0 8 then (zc (z_R σ27 l0 2) none (fun q29 => (zc (z_R σ27 l0 0) none (fun q31 => (if z_ob σ27 q29 1 then (zb (f_X1_save σ27 q29 q31) (fun σ35 => (if z_ob σ35 l0 8 then (zc (z_R σ35 l0 0) none (fun q37 => (zc (z_R σ35 l0 1) none (fun q39 => (if z_ob σ35 q37 2 then (zb (f_X2_copyFrom σ35 q37 q39) (fun σ43 => (some (r26, σ43)))) else none))))) else none))) else none))))) else none)))) else none))))))) else none))))) else none))))) else none))) else none))) else none)
set_option maxRecDepth 100000 in
def f_X9_digest (σ : zSt) (l0 : Nat) : Option (Int64) :=
(if z_ob σ l0 8 then (zb (f_X9_mixed σ (3169 : Int64) ((z_I σ l0 4).toInt64)) (fun r3 => (zc (z_R σ l0 0) none (fun q4 => (if z_ob σ q4 2 then (zb (f_X2_hashed σ q4 r3) (fun r8 => (zc (z_R σ l0 2) none (fun q9 => (if z_ob σ q9 1 then (zb (f_X9_mixed σ r8 ((z_I σ q9 1).toInt64)) (fun r13 => (some r13))) else none))))) else none))))) else none)
set_option maxRecDepth 100000 in
def f_X10_init (σ : zSt) (l0 : Nat) : Option (zSt) :=
(zl (z_nw σ (.inr (0, 942))) (fun σ1 => (if z_ob σ1 l0 9 then (zl (z_pR σ1 l0 0 (some (z_nx σ))) (fun σ4 => (zl (z_nw σ4 (.inr (0, 3768))) (fun σ6 => (if z_ob σ6 l0 9 then (zl (z_pR σ6 l0 1 (some (z_nx σ4))) (fun σ9 => (zl (z_nw σ9 (.inr (0, 942))) (fun σ11 => (if z_ob σ11 l0 9 then (zl (z_pR σ11 l0 2 (some (z_nx σ9))) (fun σ14 => (zl (z_nw σ14 (.inr (0, 120))) (fun σ16 => (if z_ob σ16 l0 9 then (zl (z_pR σ16 l0 5 (some (z_nx σ14))) (fun σ19 => (if z_ob σ19 l0 9 then (zc (z_R σ19 l0 0) none (fun q22 => (if z_ar σ19 q22 0 then (if z_ix (0 : Int32) (z_ln σ19 q22) then (zl (z_pI σ19 q22 (0 : Int32).toNatClampNeg (60 : Int32)) (fun σ26 => (if z_ob σ26 l0 9 then (zc (z_R σ26 l0 0) none (fun q29 => (if z_ar σ26 q29 0 then (if z_ix (1 : Int32) (z_ln σ26 q29) then (zl (z_pI σ26 q29 (1 : Int32).toNatClampNeg (4 : Int32)) (fun σ33 => (if z_ob σ33 l0 9 then (zc (z_R σ33 l0 0) none (fun q36 => (if z_ar σ33 q36 0 then (if z_ix (2 : Int32) (z_ln σ33 q36) then (zl (z_pI σ33 q36 (2 : Int32).toNatClampNeg (3 : Int32)) (fun σ40 => (if z_ob σ40 l0 9 then (zc (z_R σ40 l0 0) none (fun q43 => (if z_ar σ40 q43 0 then (if z_ix (4 : Int32) (z_ln σ40 q43) then (zl (z_pI σ40 q43 (4 : Int32).toNatClampNeg (-1 : Int32)) (fun σ47 => (some σ47))) else none) else none))) else none))) else none) else none))) else none))) else none) else none))) else none))) else none) else none))) else none))) else none))))) else none))))) else none))))) else none)))
set_option maxRecDepth 100000 in
def f_X10_thrown (σ : zSt) (l0 : Nat) : Option (Int32) :=
(if z_ob σ l0 9 then (some (z_I σ l0 4)) else none)
set_option maxRecDepth 100000 in
def f_X10_in_18 (σ : zSt) (s0 : Int32) : Option (Int32) :=
(if z_bl s0 then (some s0) else none)
set_option maxRecDepth 100000 in
def f_X10_in_17 (σ : zSt) : Option (Int32) :=
(f_X10_in_18 σ (0 : Int32))
set_option maxRecDepth 100000 in
def f_X10_in (σ : zSt) (l0 : Int64) (l2 : Int64) (l4 : Int64) : Option (Int32) :=
(if (lg_cmp l0 l2) < 0 then
(f_X10_in_17 σ)
else
(if 0 < (lg_cmp l0 l4) then
(f_X10_in_17 σ)
else
(f_X10_in_18 σ (1 : Int32))))
set_option maxRecDepth 100000 in
def f_X10_goes_41 (σ : zSt) (s0 : Int32) : Option (Int32 × zSt) :=
(if z_bl s0 then (some (s0, σ)) else none)
set_option maxRecDepth 100000 in
def f_X10_goes_26 (σ : zSt) (l0 : Nat) (s0 : Int32) (s1 : Option Nat) : Option (Int32 × zSt) :=
(zc s1 none (fun a1 => (if z_ob σ a1 9 then (zl (z_pI σ a1 4 s0) (fun σ4 => (if z_ob σ4 l0 9 then (if (z_I σ4 l0 4) = 0 then
(f_X10_goes_41 σ4 (1 : Int32))
else
(f_X10_goes_41 σ4 (0 : Int32))) else none))) else none)))
set_option maxRecDepth 100000 in
def f_X10_goes (σ : zSt) (l0 : Nat) (l1 : Int32) (l2 : Int32) (l3 : Int32) : Option (Int32 × zSt) :=
(if l1 = 0 then
(f_X10_goes_26 σ l0 (1 : Int32) (some l0))
else
(if l2 = 0 then
(f_X10_goes_26 σ l0 (2 : Int32) (some l0))
else
(if l3 = 0 then
(f_X10_goes_26 σ l0 (3 : Int32) (some l0))
else
(f_X10_goes_26 σ l0 (0 : Int32) (some l0)))))
set_option maxRecDepth 100000 in
def b_X10_save_51 (l0 : Nat) (σ : zSt) (l1 : Int32) : Option ((zSt × Int32) ⊕ (zSt)) :=
(if (942 : Int32) ≤ l1 then
(zex (if z_ob σ l0 9 then (zl (z_pI σ l0 3 ((z_I σ l0 3) + (1 : Int32))) (fun σ2 => (some σ2))) else none))
else
(if z_ob σ l0 9 then (zc (z_R σ l0 1) none (fun q6 => (zc (z_R σ l0 0) none (fun q8 => (if z_ar σ q8 0 then (if z_ix l1 (z_ln σ q8) then (if z_ar σ q6 0 then (if z_ix (((942 : Int32) * (z_I σ l0 3)) + l1) (z_ln σ q6) then (zl (z_pI σ q6 (((942 : Int32) * (z_I σ l0 3)) + l1).toNatClampNeg (z_I σ q8 l1.toNatClampNeg)) (fun σ14 => (some (.inl (σ14, (l1 + (1 : Int32))))))) else none) else none) else none) else none))))) else none))
set_option maxRecDepth 100000 in
def f_X10_save_51 (l0 : Nat) (σ : zSt) (l1 : Int32) : Option (zSt) := zloop (fun (t : zSt × Int32) => b_X10_save_51 l0 t.1 t.2) zN (σ, l1)
set_option maxRecDepth 100000 in
def f_X10_save_49 (σ : zSt) (l0 : Nat) : Option (zSt) :=
(f_X10_save_51 l0 σ (0 : Int32))
set_option maxRecDepth 100000 in
def b_X10_save_10 (l0 : Nat) (σ : zSt) (l1 : Int32) : Option ((zSt × Int32) ⊕ (zSt)) :=
(if (2826 : Int32) ≤ l1 then
(zex (if z_ob σ l0 9 then (zl (z_pI σ l0 3 ((z_I σ l0 3) - (1 : Int32))) (fun σ2 => (f_X10_save_49 σ2 l0))) else none))
else
(if z_ob σ l0 9 then (zc (z_R σ l0 1) none (fun q6 => (zc (z_R σ l0 1) none (fun q8 => (if z_ar σ q8 0 then (if z_ix (l1 + (942 : Int32)) (z_ln σ q8) then (if z_ar σ q6 0 then (if z_ix l1 (z_ln σ q6) then (zl (z_pI σ q6 l1.toNatClampNeg (z_I σ q8 (l1 + (942 : Int32)).toNatClampNeg)) (fun σ14 => (some (.inl (σ14, (l1 + (1 : Int32))))))) else none) else none) else none) else none))))) else none))
set_option maxRecDepth 100000 in
def f_X10_save_10 (l0 : Nat) (σ : zSt) (l1 : Int32) : Option (zSt) := zloop (fun (t : zSt × Int32) => b_X10_save_10 l0 t.1 t.2) zN (σ, l1)
set_option maxRecDepth 100000 in
def f_X10_save (σ : zSt) (l0 : Nat) : Option (zSt) :=
(if z_ob σ l0 9 then (if (z_I σ l0 3) = (4 : Int32) then
(f_X10_save_10 l0 σ (0 : Int32))
else
(f_X10_save_49 σ l0)) else none)
set_option maxRecDepth 100000 in
def b_X10_lays_2 (l0 : Nat) (σ : zSt) (l1 : Int32) : Option ((zSt × Int32) ⊕ (zSt)) :=
(if (942 : Int32) ≤ l1 then
(zex (some σ))
else
(if z_ob σ l0 9 then (zc (z_R σ l0 2) none (fun q3 => (zc (z_R σ l0 0) none (fun q5 => (if z_ar σ q5 0 then (if z_ix l1 (z_ln σ q5) then (if z_ar σ q3 0 then (if z_ix l1 (z_ln σ q3) then (zl (z_pI σ q3 l1.toNatClampNeg (z_I σ q5 l1.toNatClampNeg)) (fun σ11 => (some (.inl (σ11, (l1 + (1 : Int32))))))) else none) else none) else none) else none))))) else none))
set_option maxRecDepth 100000 in
def f_X10_lays_2 (l0 : Nat) (σ : zSt) (l1 : Int32) : Option (zSt) := zloop (fun (t : zSt × Int32) => b_X10_lays_2 l0 t.1 t.2) zN (σ, l1)
set_option maxRecDepth 100000 in
def f_X10_lays (σ : zSt) (l0 : Nat) : Option (zSt) :=
(f_X10_lays_2 l0 σ (0 : Int32))
set_option maxRecDepth 100000 in
def b_X10_takesBack_2 (l0 : Nat) (σ : zSt) (l1 : Int32) : Option ((zSt × Int32) ⊕ (zSt)) :=
(if (942 : Int32) ≤ l1 then
(zex (some σ))
else
(if z_ob σ l0 9 then (zc (z_R σ l0 0) none (fun q3 => (zc (z_R σ l0 2) none (fun q5 => (if z_ar σ q5 0 then (if z_ix l1 (z_ln σ q5) then (if z_ar σ q3 0 then (if z_ix l1 (z_ln σ q3) then (zl (z_pI σ q3 l1.toNatClampNeg (z_I σ q5 l1.toNatClampNeg)) (fun σ11 => (some (.inl (σ11, (l1 + (1 : Int32))))))) else none) else none) else none) else none))))) else none))
set_option maxRecDepth 100000 in
def f_X10_takesBack_2 (l0 : Nat) (σ : zSt) (l1 : Int32) : Option (zSt) := zloop (fun (t : zSt × Int32) => b_X10_takesBack_2 l0 t.1 t.2) zN (σ, l1)
set_option maxRecDepth 100000 in
def f_X10_takesBack (σ : zSt) (l0 : Nat) : Option (zSt) :=
(f_X10_takesBack_2 l0 σ (0 : Int32))
set_option maxRecDepth 100000 in
def f_X10_at (σ : zSt) (l0 : Int32) (l1 : Int32) : Option (Int32) :=
(some (((18 : Int32) + ((7 : Int32) * l0)) + l1))
set_option maxRecDepth 100000 in
def f_X10_of (σ : zSt) (l0 : Nat) (l1 : Int32) (l2 : Int32) : Option (Int32) :=
(if z_ob σ l0 9 then (zc (z_R σ l0 0) none (fun q2 => (zb (f_X10_at σ l1 l2) (fun r5 => (if z_ar σ q2 0 then (if z_ix r5 (z_ln σ q2) then (some (z_I σ q2 r5.toNatClampNeg)) else none) else none))))) else none)
set_option maxRecDepth 100000 in
def f_X10_isStation_27 (σ : zSt) (s0 : Int32) : Option (Int32) :=
(if z_bl s0 then (some s0) else none)
set_option maxRecDepth 100000 in
def f_X10_isStation_26 (σ : zSt) : Option (Int32) :=
(f_X10_isStation_27 σ (0 : Int32))
set_option maxRecDepth 100000 in
def f_X10_isStation (σ : zSt) (l0 : Nat) (l1 : Int32) : Option (Int32) :=
(zb (f_X10_in σ l1.toInt64 (0 : Int64) (31 : Int64)) (fun r2 => (if r2 = 0 then
(f_X10_isStation_26 σ)
else
(if z_ob σ l0 9 then (zb (f_X10_of σ l0 l1 (0 : Int32)) (fun r5 => (if r5 = (1 : Int32) then
(f_X10_isStation_27 σ (1 : Int32))
else
(f_X10_isStation_26 σ)))) else none))))
set_option maxRecDepth 100000 in
def f_X10_isInRing_35 (σ : zSt) (s0 : Int32) : Option (Int32) :=
(if z_bl s0 then (some s0) else none)
set_option maxRecDepth 100000 in
def f_X10_isInRing_34 (σ : zSt) : Option (Int32) :=
(f_X10_isInRing_35 σ (0 : Int32))
set_option maxRecDepth 100000 in
def f_X10_isInRing (σ : zSt) (l0 : Nat) (l1 : Int32) : Option (Int32) :=
(if z_ob σ l0 9 then (zb (f_X10_of σ l0 l1 (0 : Int32)) (fun r3 => (if r3 = (1 : Int32) then
(zb (f_X10_of σ l0 l1 (1 : Int32)) (fun r5 => (if r5 = (1 : Int32) then
(zb (f_X10_of σ l0 l1 (2 : Int32)) (fun r7 => (if r7 = (1 : Int32) then
(f_X10_isInRing_35 σ (1 : Int32))
else
(f_X10_isInRing_34 σ))))
else
(f_X10_isInRing_34 σ))))
else
(f_X10_isInRing_34 σ)))) else none)
set_option maxRecDepth 100000 in
def f_X10_inMessage (σ : zSt) (l0 : Int32) (l1 : Int32) : Option (Int32) :=
(some (((242 : Int32) + ((5 : Int32) * l0)) + l1))
set_option maxRecDepth 100000 in
def f_X10_ofMessage (σ : zSt) (l0 : Nat) (l1 : Int32) (l2 : Int32) : Option (Int32) :=
(if z_ob σ l0 9 then (zc (z_R σ l0 0) none (fun q2 => (zb (f_X10_inMessage σ l1 l2) (fun r5 => (if z_ar σ q2 0 then (if z_ix r5 (z_ln σ q2) then (some (z_I σ q2 r5.toNatClampNeg)) else none) else none))))) else none)
set_option maxRecDepth 100000 in
def b_X10_stations_4 (σ : zSt) (l0 : Nat) (l1 : Int32) (l2 : Int32) : Option ((Int32 × Int32) ⊕ (Int32)) :=
(if (32 : Int32) ≤ l2 then
(zex (some l1))
else
(if z_ob σ l0 9 then (zb (f_X10_of σ l0 l2 (0 : Int32)) (fun r4 => (zl (l1 + r4) (fun x5 => (some (.inl (x5, (l2 + (1 : Int32))))))))) else none))
set_option maxRecDepth 100000 in
def f_X10_stations_4 (σ : zSt) (l0 : Nat) (l1 : Int32) (l2 : Int32) : Option (Int32) := zloop (fun (t : Int32 × Int32) => b_X10_stations_4 σ l0 t.1 t.2) zN (l1, l2)
set_option maxRecDepth 100000 in
def f_X10_stations (σ : zSt) (l0 : Nat) : Option (Int32) :=
(f_X10_stations_4 σ l0 (0 : Int32) (0 : Int32))
set_option maxRecDepth 100000 in
def f_X10_adds (σ : zSt) (l0 : Nat) (l1 : Int32) : Option (zSt) :=
(if z_ob σ l0 9 then (zc (z_R σ l0 0) none (fun q2 => (zb (f_X10_at σ l1 (0 : Int32)) (fun r5 => (if z_ar σ q2 0 then (if z_ix r5 (z_ln σ q2) then (zl (z_pI σ q2 r5.toNatClampNeg (1 : Int32)) (fun σ8 => (if z_ob σ8 l0 9 then (zc (z_R σ8 l0 0) none (fun q11 => (zb (f_X10_at σ8 l1 (1 : Int32)) (fun r14 => (if z_ar σ8 q11 0 then (if z_ix r14 (z_ln σ8 q11) then (zl (z_pI σ8 q11 r14.toNatClampNeg (1 : Int32)) (fun σ17 => (if z_ob σ17 l0 9 then (zc (z_R σ17 l0 0) none (fun q20 => (zb (f_X10_at σ17 l1 (2 : Int32)) (fun r23 => (if z_ar σ17 q20 0 then (if z_ix r23 (z_ln σ17 q20) then (zl (z_pI σ17 q20 r23.toNatClampNeg (0 : Int32)) (fun σ26 => (if z_ob σ26 l0 9 then (zc (z_R σ26 l0 0) none (fun q29 => (zb (f_X10_at σ26 l1 (3 : Int32)) (fun r32 => (if z_ar σ26 q29 0 then (if z_ix r32 (z_ln σ26 q29) then (zl (z_pI σ26 q29 r32.toNatClampNeg l1) (fun σ35 => (if z_ob σ35 l0 9 then (zc (z_R σ35 l0 0) none (fun q38 => (zb (f_X10_at σ35 l1 (4 : Int32)) (fun r41 => (if z_ar σ35 q38 0 then (if z_ix r41 (z_ln σ35 q38) then (zl (z_pI σ35 q38 r41.toNatClampNeg l1) (fun σ44 => (if z_ob σ44 l0 9 then (zc (z_R σ44 l0 0) none (fun q47 => (zb (f_X10_at σ44 l1 (5 : Int32)) (fun r50 => (if z_ar σ44 q47 0 then (if z_ix r50 (z_ln σ44 q47) then (zl (z_pI σ44 q47 r50.toNatClampNeg (0 : Int32)) (fun σ53 => (if z_ob σ53 l0 9 then (zc (z_R σ53 l0 0) none (fun q56 => (zb (f_X10_at σ53 l1 (6 : Int32)) (fun r59 => (if z_ar σ53 q56 0 then (if z_ix r59 (z_ln σ53 q56) then (zl (z_pI σ53 q56 r59.toNatClampNeg (-1 : Int32)) (fun σ62 => (some σ62))) else none) else none))))) else none))) else none) else none))))) else none))) else none) else none))))) else none))) else none) else none))))) else none))) else none) else none))))) else none))) else none) else none))))) else none))) else none) else none))))) else none)
set_option maxRecDepth 100000 in
def f_X10_addStation_38 (σ : zSt) (l0 : Nat) (l1 : Int32) (s0 : Int32) (s1 : Int32) (s2 : Option Nat) : Option (Int32 × zSt) :=
(zc s2 none (fun a1 => (if z_ob σ a1 9 then (zb2 (f_X10_goes σ a1 s1 s0 (1 : Int32)) (fun r5 σ6 => (if r5 = 0 then
(some ((0 : Int32), σ6))
else
(if z_ob σ6 l0 9 then (zb (f_X10_save σ6 l0) (fun σ9 => (if z_ob σ9 l0 9 then (zb (f_X10_adds σ9 l0 l1) (fun σ12 => (if z_ob σ12 l0 9 then (zb (f_X10_stations σ12 l0) (fun r15 => (some (r15, σ12)))) else none))) else none))) else none)))) else none)))
set_option maxRecDepth 100000 in
def f_X10_addStation_37 (σ : zSt) (l0 : Nat) (l1 : Int32) (s0 : Int32) (s1 : Option Nat) : Option (Int32 × zSt) :=
(f_X10_addStation_38 σ l0 l1 (0 : Int32) s0 s1)
set_option maxRecDepth 100000 in
def f_X10_addStation (σ : zSt) (l0 : Nat) (l1 : Int32) : Option (Int32 × zSt) :=
(zb (f_X10_in σ l1.toInt64 (0 : Int64) (31 : Int64)) (fun r2 => (if r2 = 0 then
(f_X10_addStation_37 σ l0 l1 r2 (some l0))
else
(if z_ob σ l0 9 then (zb (f_X10_isStation σ l0 l1) (fun r5 => (if r5 = 0 then
(zb (f_X10_stations σ l0) (fun r7 => (if (8 : Int32) ≤ r7 then
(f_X10_addStation_37 σ l0 l1 r2 (some l0))
else
(f_X10_addStation_38 σ l0 l1 (1 : Int32) r2 (some l0)))))
else
(f_X10_addStation_37 σ l0 l1 r2 (some l0))))) else none))))
set_option maxRecDepth 100000 in
def f_X10_setOn_111 (σ : zSt) (l3 : Int32) : Option (Int32 × zSt) :=
(if z_bl l3 then (some (l3, σ)) else none)
set_option maxRecDepth 100000 in
def f_X10_setOn_92 (σ : zSt) (l0 : Nat) (l1 : Int32) (l2 : Int32) (l3 : Int32) : Option (Int32 × zSt) :=
(if l3 = 0 then
(if l2 = 0 then
(f_X10_setOn_111 σ l3)
else
(if z_ob σ l0 9 then (zc (z_R σ l0 0) none (fun q2 => (zb (f_X10_at σ l1 (1 : Int32)) (fun r5 => (if z_ar σ q2 0 then (if z_ix r5 (z_ln σ q2) then (zl (z_pI σ q2 r5.toNatClampNeg (1 : Int32)) (fun σ8 => (f_X10_setOn_111 σ8 l3))) else none) else none))))) else none))
else
(f_X10_setOn_111 σ l3))
set_option maxRecDepth 100000 in
def f_X10_setOn_91 (σ : zSt) (l0 : Nat) (l1 : Int32) (l2 : Int32) (l3 : Int32) (s0 : Int32) (s1 : Int32) (s2 : Option Nat) : Option (Int32 × zSt) :=
(zc s2 none (fun a1 => (if z_ar σ a1 0 then (if z_ix s1 (z_ln σ a1) then (zl (z_pI σ a1 s1.toNatClampNeg s0) (fun σ5 => (f_X10_setOn_92 σ5 l0 l1 l2 l3))) else none) else none)))
set_option maxRecDepth 100000 in
def f_X10_setOn_35 (σ : zSt) (l0 : Nat) (l1 : Int32) (l2 : Int32) (s0 : Int32) : Option (Int32 × zSt) :=
(if s0 = 0 then
(f_X10_setOn_92 σ l0 l1 l2 s0)
else
(if l2 = 0 then
(if z_ob σ l0 9 then (zc (z_R σ l0 0) none (fun q2 => (zb (f_X10_at σ l1 (1 : Int32)) (fun r5 => (if z_ar σ q2 0 then (if z_ix r5 (z_ln σ q2) then (zl (z_pI σ q2 r5.toNatClampNeg (0 : Int32)) (fun σ8 => (if z_ob σ8 l0 9 then (zc (z_R σ8 l0 0) none (fun q11 => (zb (f_X10_at σ8 l1 (2 : Int32)) (fun r14 => (if z_ar σ8 q11 0 then (if z_ix r14 (z_ln σ8 q11) then (zl (z_pI σ8 q11 r14.toNatClampNeg (0 : Int32)) (fun σ17 => (if z_ob σ17 l0 9 then (zc (z_R σ17 l0 0) none (fun q20 => (zc (z_R σ17 l0 0) none (fun q22 => (if z_ar σ17 q22 0 then (if z_ix (4 : Int32) (z_ln σ17 q22) then (if (z_I σ17 q22 (4 : Int32).toNatClampNeg) = l1 then
(f_X10_setOn_91 σ17 l0 l1 l2 s0 (-1 : Int32) (4 : Int32) (some q20))
else
(zc (z_R σ17 l0 0) none (fun q26 => (if z_ar σ17 q26 0 then (if z_ix (4 : Int32) (z_ln σ17 q26) then (f_X10_setOn_91 σ17 l0 l1 l2 s0 (z_I σ17 q26 (4 : Int32).toNatClampNeg) (4 : Int32) (some q20)) else none) else none)))) else none) else none))))) else none))) else none) else none))))) else none))) else none) else none))))) else none)
else
(f_X10_setOn_92 σ l0 l1 l2 s0)))
set_option maxRecDepth 100000 in
def f_X10_setOn (σ : zSt) (l0 : Nat) (l1 : Int32) (l2 : Int32) : Option (Int32 × zSt) :=
(if z_ob σ l0 9 then (zb (f_X10_isStation σ l0 l1) (fun r3 => (zb2 (f_X10_goes σ l0 r3 (1 : Int32) (1 : Int32)) (fun r5 σ6 => (if r5 = 0 then
(some ((0 : Int32), σ6))
else
(if z_ob σ6 l0 9 then (zb (f_X10_save σ6 l0) (fun σ9 => (if z_ob σ9 l0 9 then (zb (f_X10_of σ9 l0 l1 (1 : Int32)) (fun r12 => (if r12 = (1 : Int32) then
(f_X10_setOn_35 σ9 l0 l1 l2 (1 : Int32))
else
(f_X10_setOn_35 σ9 l0 l1 l2 (0 : Int32))))) else none))) else none)))))) else none)
set_option maxRecDepth 100000 in
def f_X10_setTimes_42 (σ : zSt) (l0 : Nat) (l1 : Int32) (l2 : Int32) (l3 : Int32) (s0 : Int32) (s1 : Option Nat) : Option (Int32 × zSt) :=
(zc s1 none (fun a1 => (if z_ob σ a1 9 then (zb2 (f_X10_goes σ a1 s0 (1 : Int32) (1 : Int32)) (fun r5 σ6 => (if r5 = 0 then
(some ((0 : Int32), σ6))
else
(if z_ob σ6 l0 9 then (zb (f_X10_save σ6 l0) (fun σ9 => (if z_ob σ9 l0 9 then (zc (z_R σ9 l0 0) none (fun q11 => (if z_ar σ9 q11 0 then (if z_ix (0 : Int32) (z_ln σ9 q11) then (zl (z_I σ9 q11 (0 : Int32).toNatClampNeg) (fun x15 => (zc (z_R σ9 l0 0) none (fun q17 => (if z_ar σ9 q17 0 then (if z_ix (0 : Int32) (z_ln σ9 q17) then (zl (z_pI σ9 q17 (0 : Int32).toNatClampNeg l1) (fun σ21 => (if z_ob σ21 l0 9 then (zc (z_R σ21 l0 0) none (fun q24 => (if z_ar σ21 q24 0 then (if z_ix (1 : Int32) (z_ln σ21 q24) then (zl (z_pI σ21 q24 (1 : Int32).toNatClampNeg l2) (fun σ28 => (if z_ob σ28 l0 9 then (zc (z_R σ28 l0 0) none (fun q31 => (if z_ar σ28 q31 0 then (if z_ix (2 : Int32) (z_ln σ28 q31) then (zl (z_pI σ28 q31 (2 : Int32).toNatClampNeg l3) (fun σ35 => (some (x15, σ35)))) else none) else none))) else none))) else none) else none))) else none))) else none) else none))))) else none) else none))) else none))) else none)))) else none)))
set_option maxRecDepth 100000 in
def f_X10_setTimes_41 (σ : zSt) (l0 : Nat) (l1 : Int32) (l2 : Int32) (l3 : Int32) (s0 : Option Nat) : Option (Int32 × zSt) :=
(f_X10_setTimes_42 σ l0 l1 l2 l3 (0 : Int32) s0)
set_option maxRecDepth 100000 in
def f_X10_setTimes (σ : zSt) (l0 : Nat) (l1 : Int32) (l2 : Int32) (l3 : Int32) : Option (Int32 × zSt) :=
(zb (f_X10_in σ l1.toInt64 (1 : Int64) (500 : Int64)) (fun r2 => (if r2 = 0 then
(f_X10_setTimes_41 σ l0 l1 l2 l3 (some l0))
else
(zb (f_X10_in σ l2.toInt64 (1 : Int64) (20 : Int64)) (fun r4 => (if r4 = 0 then
(f_X10_setTimes_41 σ l0 l1 l2 l3 (some l0))
else
(zb (f_X10_in σ l3.toInt64 (1 : Int64) (20 : Int64)) (fun r6 => (if r6 = 0 then
(f_X10_setTimes_41 σ l0 l1 l2 l3 (some l0))
else
(f_X10_setTimes_42 σ l0 l1 l2 l3 (1 : Int32) (some l0)))))))))))
set_option maxRecDepth 100000 in
def f_X10_gives (σ : zSt) (l0 : Nat) (l1 : Int32) (l2 : Int32) (l3 : Int32) : Option (Int32 × zSt) :=
(if z_ob σ l0 9 then (zc (z_R σ l0 0) none (fun q2 => (if z_ar σ q2 0 then (if z_ix (5 : Int32) (z_ln σ q2) then (zl (z_I σ q2 (5 : Int32).toNatClampNeg) (fun x6 => (zc (z_R σ l0 0) none (fun q8 => (zb (f_X10_inMessage σ x6 (0 : Int32)) (fun r11 => (if z_ar σ q8 0 then (if z_ix r11 (z_ln σ q8) then (zl (z_pI σ q8 r11.toNatClampNeg l2) (fun σ14 => (if z_ob σ14 l0 9 then (zc (z_R σ14 l0 0) none (fun q17 => (zb (f_X10_inMessage σ14 x6 (1 : Int32)) (fun r20 => (if z_ar σ14 q17 0 then (if z_ix r20 (z_ln σ14 q17) then (zl (z_pI σ14 q17 r20.toNatClampNeg l3) (fun σ23 => (if z_ob σ23 l0 9 then (zc (z_R σ23 l0 0) none (fun q26 => (zb (f_X10_inMessage σ23 x6 (2 : Int32)) (fun r29 => (if z_ar σ23 q26 0 then (if z_ix r29 (z_ln σ23 q26) then (zl (z_pI σ23 q26 r29.toNatClampNeg l1) (fun σ32 => (if z_ob σ32 l0 9 then (zc (z_R σ32 l0 0) none (fun q35 => (zb (f_X10_inMessage σ32 x6 (3 : Int32)) (fun r38 => (zc (z_R σ32 l0 0) none (fun q39 => (if z_ar σ32 q39 0 then (if z_ix (3 : Int32) (z_ln σ32 q39) then (if z_ar σ32 q35 0 then (if z_ix r38 (z_ln σ32 q35) then (zl (z_pI σ32 q35 r38.toNatClampNeg (z_I σ32 q39 (3 : Int32).toNatClampNeg)) (fun σ45 => (if z_ob σ45 l0 9 then (zc (z_R σ45 l0 0) none (fun q48 => (zb (f_X10_inMessage σ45 x6 (4 : Int32)) (fun r51 => (if z_ar σ45 q48 0 then (if z_ix r51 (z_ln σ45 q48) then (zl (z_pI σ45 q48 r51.toNatClampNeg (-1 : Int32)) (fun σ54 => (if z_ob σ54 l0 9 then (zc (z_R σ54 l0 0) none (fun q57 => (if z_ar σ54 q57 0 then (if z_ix (5 : Int32) (z_ln σ54 q57) then (zl (z_pI σ54 q57 (5 : Int32).toNatClampNeg ((z_I σ54 q57 (5 : Int32).toNatClampNeg) + (1 : Int32))) (fun σ61 => (some (x6, σ61)))) else none) else none))) else none))) else none) else none))))) else none))) else none) else none) else none) else none))))))) else none))) else none) else none))))) else none))) else none) else none))))) else none))) else none) else none))))))) else none) else none))) else none)
set_option maxRecDepth 100000 in
def f_X10_give_51 (σ : zSt) (l0 : Nat) (l1 : Int32) (l2 : Int32) (l3 : Int32) (s0 : Int32) (s1 : Int32) (s2 : Int32) (s3 : Option Nat) : Option (Int32 × zSt) :=
(zc s3 none (fun a1 => (if z_ob σ a1 9 then (zb2 (f_X10_goes σ a1 s2 s1 s0) (fun r5 σ6 => (if r5 = 0 then
(some ((0 : Int32), σ6))
else
(if z_ob σ6 l0 9 then (zb (f_X10_save σ6 l0) (fun σ9 => (if z_ob σ9 l0 9 then (zb2 (f_X10_gives σ9 l0 l1 l2 l3) (fun r12 σ13 => (some (r12, σ13)))) else none))) else none)))) else none)))
set_option maxRecDepth 100000 in
def f_X10_give_35 (σ : zSt) (l0 : Nat) (l1 : Int32) (l2 : Int32) (l3 : Int32) (s0 : Int32) (s1 : Int32) (s2 : Option Nat) : Option (Int32 × zSt) :=
(if z_ob σ l0 9 then (zc (z_R σ l0 0) none (fun q2 => (if z_ar σ q2 0 then (if z_ix (5 : Int32) (z_ln σ q2) then (if (100 : Int32) ≤ (z_I σ q2 (5 : Int32).toNatClampNeg) then
(f_X10_give_51 σ l0 l1 l2 l3 (0 : Int32) s0 s1 s2)
else
(f_X10_give_51 σ l0 l1 l2 l3 (1 : Int32) s0 s1 s2)) else none) else none))) else none)
set_option maxRecDepth 100000 in
def f_X10_give_34 (σ : zSt) (l0 : Nat) (l1 : Int32) (l2 : Int32) (l3 : Int32) (s0 : Int32) (s1 : Option Nat) : Option (Int32 × zSt) :=
(f_X10_give_35 σ l0 l1 l2 l3 (0 : Int32) s0 s1)
set_option maxRecDepth 100000 in
def f_X10_give (σ : zSt) (l0 : Nat) (l1 : Int32) (l2 : Int32) (l3 : Int32) : Option (Int32 × zSt) :=
(if z_ob σ l0 9 then (zb (f_X10_isStation σ l0 l1) (fun r3 => (zb (f_X10_in σ l2.toInt64 (1 : Int64) (20 : Int64)) (fun r5 => (if r5 = 0 then
(f_X10_give_34 σ l0 l1 l2 l3 r3 (some l0))
else
(zb (f_X10_in σ l3.toInt64 (0 : Int64) (9 : Int64)) (fun r7 => (if r7 = 0 then
(f_X10_give_34 σ l0 l1 l2 l3 r3 (some l0))
else
(f_X10_give_35 σ l0 l1 l2 l3 (1 : Int32) r3 (some l0)))))))))) else none)
set_option maxRecDepth 100000 in
def f_X10_addNoise_47 (σ : zSt) (l0 : Nat) (l1 : Int32) (l2 : Int32) (s0 : Int32) (s1 : Int32) (s2 : Option Nat) : Option (Int32 × zSt) :=
(zc s2 none (fun a1 => (if z_ob σ a1 9 then (zb2 (f_X10_goes σ a1 s1 s0 (1 : Int32)) (fun r5 σ6 => (if r5 = 0 then
(some ((0 : Int32), σ6))
else
(if z_ob σ6 l0 9 then (zb (f_X10_save σ6 l0) (fun σ9 => (if z_ob σ9 l0 9 then (zc (z_R σ9 l0 0) none (fun q11 => (zc (z_R σ9 l0 0) none (fun q13 => (if z_ar σ9 q13 0 then (if z_ix (6 : Int32) (z_ln σ9 q13) then (if z_ar σ9 q11 0 then (if z_ix ((742 : Int32) + ((2 : Int32) * (z_I σ9 q13 (6 : Int32).toNatClampNeg))) (z_ln σ9 q11) then (zl (z_pI σ9 q11 ((742 : Int32) + ((2 : Int32) * (z_I σ9 q13 (6 : Int32).toNatClampNeg))).toNatClampNeg l1) (fun σ19 => (if z_ob σ19 l0 9 then (zc (z_R σ19 l0 0) none (fun q22 => (zc (z_R σ19 l0 0) none (fun q24 => (if z_ar σ19 q24 0 then (if z_ix (6 : Int32) (z_ln σ19 q24) then (if z_ar σ19 q22 0 then (if z_ix (((742 : Int32) + ((2 : Int32) * (z_I σ19 q24 (6 : Int32).toNatClampNeg))) + (1 : Int32)) (z_ln σ19 q22) then (zl (z_pI σ19 q22 (((742 : Int32) + ((2 : Int32) * (z_I σ19 q24 (6 : Int32).toNatClampNeg))) + (1 : Int32)).toNatClampNeg l2) (fun σ30 => (if z_ob σ30 l0 9 then (zc (z_R σ30 l0 0) none (fun q33 => (if z_ar σ30 q33 0 then (if z_ix (6 : Int32) (z_ln σ30 q33) then (zl (z_pI σ30 q33 (6 : Int32).toNatClampNeg ((z_I σ30 q33 (6 : Int32).toNatClampNeg) + (1 : Int32))) (fun σ37 => (if z_ob σ37 l0 9 then (zc (z_R σ37 l0 0) none (fun q40 => (if z_ar σ37 q40 0 then (if z_ix (6 : Int32) (z_ln σ37 q40) then (some ((z_I σ37 q40 (6 : Int32).toNatClampNeg), σ37)) else none) else none))) else none))) else none) else none))) else none))) else none) else none) else none) else none))))) else none))) else none) else none) else none) else none))))) else none))) else none)))) else none)))
set_option maxRecDepth 100000 in
def f_X10_addNoise_30 (σ : zSt) (l0 : Nat) (l1 : Int32) (l2 : Int32) (s0 : Int32) (s1 : Option Nat) : Option (Int32 × zSt) :=
(if z_ob σ l0 9 then (zc (z_R σ l0 0) none (fun q2 => (if z_ar σ q2 0 then (if z_ix (6 : Int32) (z_ln σ q2) then (if (20 : Int32) ≤ (z_I σ q2 (6 : Int32).toNatClampNeg) then
(f_X10_addNoise_47 σ l0 l1 l2 (0 : Int32) s0 s1)
else
(f_X10_addNoise_47 σ l0 l1 l2 (1 : Int32) s0 s1)) else none) else none))) else none)
set_option maxRecDepth 100000 in
def f_X10_addNoise_29 (σ : zSt) (l0 : Nat) (l1 : Int32) (l2 : Int32) (s0 : Option Nat) : Option (Int32 × zSt) :=
(f_X10_addNoise_30 σ l0 l1 l2 (0 : Int32) s0)
set_option maxRecDepth 100000 in
def f_X10_addNoise (σ : zSt) (l0 : Nat) (l1 : Int32) (l2 : Int32) : Option (Int32 × zSt) :=
(zb (f_X10_in σ l1.toInt64 (0 : Int64) l2.toInt64) (fun r2 => (if r2 = 0 then
(f_X10_addNoise_29 σ l0 l1 l2 (some l0))
else
(zb (f_X10_in σ l2.toInt64 l1.toInt64 (1000000 : Int64)) (fun r4 => (if r4 = 0 then
(f_X10_addNoise_29 σ l0 l1 l2 (some l0))
else
(f_X10_addNoise_30 σ l0 l1 l2 (1 : Int32) (some l0))))))))
set_option maxRecDepth 100000 in
def f_X10_isLoud_62 (σ : zSt) (l0 : Nat) (l1 : Int32) (l2 : Int32) (l4 : Int32) (s0 : Int32) : Option ((Int32 × Int32) ⊕ (Int32)) :=
(some (.inl (s0, (l4 + (1 : Int32)))))
set_option maxRecDepth 100000 in
def f_X10_isLoud_57 (σ : zSt) (l0 : Nat) (l1 : Int32) (l2 : Int32) (l4 : Int32) : Option ((Int32 × Int32) ⊕ (Int32)) :=
(f_X10_isLoud_62 σ l0 l1 l2 l4 (1 : Int32))
set_option maxRecDepth 100000 in
def f_X10_isLoud_61 (σ : zSt) (l0 : Nat) (l1 : Int32) (l2 : Int32) (l4 : Int32) : Option ((Int32 × Int32) ⊕ (Int32)) :=
(f_X10_isLoud_62 σ l0 l1 l2 l4 (0 : Int32))
set_option maxRecDepth 100000 in
def b_X10_isLoud_5 (σ : zSt) (l0 : Nat) (l1 : Int32) (l2 : Int32) (l3 : Int32) (l4 : Int32) : Option ((Int32 × Int32) ⊕ (Int32)) :=
(if z_ob σ l0 9 then (zc (z_R σ l0 0) none (fun q2 => (if z_ar σ q2 0 then (if z_ix (6 : Int32) (z_ln σ q2) then (if (z_I σ q2 (6 : Int32).toNatClampNeg) ≤ l4 then
(zex (if z_bl l3 then (some l3) else none))
else
(if l3 = 0 then
(zc (z_R σ l0 0) none (fun q8 => (if z_ar σ q8 0 then (if z_ix ((742 : Int32) + ((2 : Int32) * l4)) (z_ln σ q8) then (if l2 < (z_I σ q8 ((742 : Int32) + ((2 : Int32) * l4)).toNatClampNeg) then
(f_X10_isLoud_61 σ l0 l1 l2 l4)
else
(zc (z_R σ l0 0) none (fun q12 => (if z_ar σ q12 0 then (if z_ix (((742 : Int32) + ((2 : Int32) * l4)) + (1 : Int32)) (z_ln σ q12) then (if (z_I σ q12 (((742 : Int32) + ((2 : Int32) * l4)) + (1 : Int32)).toNatClampNeg) < l1 then
(f_X10_isLoud_61 σ l0 l1 l2 l4)
else
(f_X10_isLoud_57 σ l0 l1 l2 l4)) else none) else none)))) else none) else none)))
else
(f_X10_isLoud_57 σ l0 l1 l2 l4))) else none) else none))) else none)
set_option maxRecDepth 100000 in
def f_X10_isLoud_5 (σ : zSt) (l0 : Nat) (l1 : Int32) (l2 : Int32) (l3 : Int32) (l4 : Int32) : Option (Int32) := zloop (fun (t : Int32 × Int32) => b_X10_isLoud_5 σ l0 l1 l2 t.1 t.2) zN (l3, l4)
set_option maxRecDepth 100000 in
def f_X10_isLoud (σ : zSt) (l0 : Nat) (l1 : Int32) (l2 : Int32) : Option (Int32) :=
(f_X10_isLoud_5 σ l0 l1 l2 (0 : Int32) (0 : Int32))
set_option maxRecDepth 100000 in
def f_X10_takes_48 (σ : zSt) (l2 : Int32) (s0 : Int32) (s1 : Int32) (s2 : Int32) (s3 : Option Nat) : Option (Int32 × zSt) :=
(zc s3 none (fun a1 => (if z_ar σ a1 0 then (if z_ix s2 (z_ln σ a1) then (zl (z_pI σ a1 s2.toNatClampNeg (s1 + s0)) (fun σ5 => (if z_bl l2 then (some (l2, σ5)) else none))) else none) else none)))
set_option maxRecDepth 100000 in
def f_X10_takes (σ : zSt) (l0 : Nat) (l1 : Int32) : Option (Int32 × zSt) :=
(if z_ob σ l0 9 then (zc (z_R σ l0 0) none (fun q2 => (if z_ar σ q2 0 then (if z_ix (3 : Int32) (z_ln σ q2) then (zc (z_R σ l0 0) none (fun q6 => (if z_ar σ q6 0 then (if z_ix (3 : Int32) (z_ln σ q6) then (zb (f_X10_isLoud σ l0 (z_I σ q2 (3 : Int32).toNatClampNeg) (((z_I σ q6 (3 : Int32).toNatClampNeg) + l1) - (1 : Int32))) (fun r11 => (zc (z_R σ l0 0) none (fun q12 => (if z_ar σ q12 0 then (if z_ix (3 : Int32) (z_ln σ q12) then (zl (z_pI σ q12 (3 : Int32).toNatClampNeg ((z_I σ q12 (3 : Int32).toNatClampNeg) + l1)) (fun σ16 => (if z_ob σ16 l0 9 then (zc (z_R σ16 l0 0) none (fun q19 => (if z_ar σ16 q19 0 then (if z_ix (11 : Int32) (z_ln σ16 q19) then (if r11 = 0 then
(f_X10_takes_48 σ16 r11 (0 : Int32) (z_I σ16 q19 (11 : Int32).toNatClampNeg) (11 : Int32) (some q19))
else
(f_X10_takes_48 σ16 r11 (1 : Int32) (z_I σ16 q19 (11 : Int32).toNatClampNeg) (11 : Int32) (some q19))) else none) else none))) else none))) else none) else none))))) else none) else none))) else none) else none))) else none)
set_option maxRecDepth 100000 in
def f_X10_nextOf_132 (σ : zSt) (l0 : Nat) (l1 : Int32) (l2 : Int32) (l4 : Int32) (s0 : Int32) : Option ((Int32 × Int32) ⊕ (Int32)) :=
(some (.inl (s0, (l4 + (1 : Int32)))))
set_option maxRecDepth 100000 in
def f_X10_nextOf_131 (σ : zSt) (l0 : Nat) (l1 : Int32) (l2 : Int32) (l3 : Int32) (l4 : Int32) : Option ((Int32 × Int32) ⊕ (Int32)) :=
(f_X10_nextOf_132 σ l0 l1 l2 l4 l3)
set_option maxRecDepth 100000 in
def f_X10_nextOf_126 (σ : zSt) (l0 : Nat) (l1 : Int32) (l2 : Int32) (l4 : Int32) : Option ((Int32 × Int32) ⊕ (Int32)) :=
(f_X10_nextOf_132 σ l0 l1 l2 l4 l4)
set_option maxRecDepth 100000 in
def f_X10_nextOf_93 (σ : zSt) (l0 : Nat) (l1 : Int32) (l2 : Int32) (l3 : Int32) (l4 : Int32) (l5 : Int32) (s0 : Int32) : Option ((Int32 × Int32) ⊕ (Int32)) :=
(if l5 = 0 then
(f_X10_nextOf_131 σ l0 l1 l2 l3 l4)
else
(if s0 = 0 then
(f_X10_nextOf_131 σ l0 l1 l2 l3 l4)
else
(if l3 = (-1 : Int32) then
(f_X10_nextOf_126 σ l0 l1 l2 l4)
else
(if z_ob σ l0 9 then (zb (f_X10_ofMessage σ l0 l4 (1 : Int32)) (fun r3 => (zb (f_X10_ofMessage σ l0 l3 (1 : Int32)) (fun r5 => (if r3 ≤ r5 then
(f_X10_nextOf_131 σ l0 l1 l2 l3 l4)
else
(f_X10_nextOf_126 σ l0 l1 l2 l4)))))) else none))))
set_option maxRecDepth 100000 in
def f_X10_nextOf_88 (σ : zSt) (l0 : Nat) (l1 : Int32) (l2 : Int32) (l3 : Int32) (l4 : Int32) (l5 : Int32) : Option ((Int32 × Int32) ⊕ (Int32)) :=
(f_X10_nextOf_93 σ l0 l1 l2 l3 l4 l5 (1 : Int32))
set_option maxRecDepth 100000 in
def f_X10_nextOf_92 (σ : zSt) (l0 : Nat) (l1 : Int32) (l2 : Int32) (l3 : Int32) (l4 : Int32) (l5 : Int32) : Option ((Int32 × Int32) ⊕ (Int32)) :=
(f_X10_nextOf_93 σ l0 l1 l2 l3 l4 l5 (0 : Int32))
set_option maxRecDepth 100000 in
def f_X10_nextOf_43 (σ : zSt) (l0 : Nat) (l1 : Int32) (l2 : Int32) (l3 : Int32) (l4 : Int32) (s0 : Int32) : Option ((Int32 × Int32) ⊕ (Int32)) :=
(if l2 = (-1 : Int32) then
(f_X10_nextOf_88 σ l0 l1 l2 l3 l4 s0)
else
(if z_ob σ l0 9 then (zb (f_X10_ofMessage σ l0 l4 (1 : Int32)) (fun r3 => (zb (f_X10_ofMessage σ l0 l2 (1 : Int32)) (fun r5 => (if r3 < r5 then
(f_X10_nextOf_88 σ l0 l1 l2 l3 l4 s0)
else
(zb (f_X10_ofMessage σ l0 l4 (1 : Int32)) (fun r7 => (zb (f_X10_ofMessage σ l0 l2 (1 : Int32)) (fun r9 => (if r7 = r9 then
(if l4 ≤ l2 then
(f_X10_nextOf_92 σ l0 l1 l2 l3 l4 s0)
else
(f_X10_nextOf_88 σ l0 l1 l2 l3 l4 s0))
else
(f_X10_nextOf_92 σ l0 l1 l2 l3 l4 s0))))))))))) else none))
set_option maxRecDepth 100000 in
def f_X10_nextOf_42 (σ : zSt) (l0 : Nat) (l1 : Int32) (l2 : Int32) (l3 : Int32) (l4 : Int32) : Option ((Int32 × Int32) ⊕ (Int32)) :=
(f_X10_nextOf_43 σ l0 l1 l2 l3 l4 (0 : Int32))
set_option maxRecDepth 100000 in
def b_X10_nextOf_5 (σ : zSt) (l0 : Nat) (l1 : Int32) (l2 : Int32) (l3 : Int32) (l4 : Int32) : Option ((Int32 × Int32) ⊕ (Int32)) :=
(if z_ob σ l0 9 then (zc (z_R σ l0 0) none (fun q2 => (if z_ar σ q2 0 then (if z_ix (5 : Int32) (z_ln σ q2) then (if (z_I σ q2 (5 : Int32).toNatClampNeg) ≤ l4 then
(zex (some l3))
else
(zb (f_X10_ofMessage σ l0 l4 (2 : Int32)) (fun r8 => (if r8 = l1 then
(zb (f_X10_ofMessage σ l0 l4 (4 : Int32)) (fun r10 => (if r10 = (-1 : Int32) then
(f_X10_nextOf_43 σ l0 l1 l2 l3 l4 (1 : Int32))
else
(f_X10_nextOf_42 σ l0 l1 l2 l3 l4))))
else
(f_X10_nextOf_42 σ l0 l1 l2 l3 l4))))) else none) else none))) else none)
set_option maxRecDepth 100000 in
def f_X10_nextOf_5 (σ : zSt) (l0 : Nat) (l1 : Int32) (l2 : Int32) (l3 : Int32) (l4 : Int32) : Option (Int32) := zloop (fun (t : Int32 × Int32) => b_X10_nextOf_5 σ l0 l1 l2 t.1 t.2) zN (l3, l4)
set_option maxRecDepth 100000 in
def f_X10_nextOf (σ : zSt) (l0 : Nat) (l1 : Int32) (l2 : Int32) : Option (Int32) :=
(f_X10_nextOf_5 σ l0 l1 l2 (-1 : Int32) (0 : Int32))
set_option maxRecDepth 100000 in
def f_X10_makesToken_127 (σ : zSt) (l0 : Nat) (l1 : Int32) : Option (Int32 × zSt) :=
(if z_ob σ l0 9 then (zc (z_R σ l0 0) none (fun q2 => (if z_ar σ q2 0 then (if z_ix (4 : Int32) (z_ln σ q2) then (zl (z_pI σ q2 (4 : Int32).toNatClampNeg l1) (fun σ6 => (if z_ob σ6 l0 9 then (zc (z_R σ6 l0 0) none (fun q9 => (if z_ar σ6 q9 0 then (if z_ix (12 : Int32) (z_ln σ6 q9) then (zl (z_pI σ6 q9 (12 : Int32).toNatClampNeg ((z_I σ6 q9 (12 : Int32).toNatClampNeg) + (1 : Int32))) (fun σ13 => (some ((1 : Int32), σ13)))) else none) else none))) else none))) else none) else none))) else none)
set_option maxRecDepth 100000 in
def f_X10_makesToken_61 (σ : zSt) (l0 : Nat) (l2 : Int32) (s0 : Int32) : Option ((Int32 × Int32) ⊕ (Int32 × zSt)) :=
(some (.inl (s0, (l2 + (-1 : Int32)))))
set_option maxRecDepth 100000 in
def b_X10_makesToken_44 (σ : zSt) (l0 : Nat) (l1 : Int32) (l2 : Int32) : Option ((Int32 × Int32) ⊕ (Int32 × zSt)) :=
(if l2 < 0 then
(zex (if l1 = (-1 : Int32) then
(some ((0 : Int32), σ))
else
(if z_ob σ l0 9 then (zc (z_R σ l0 0) none (fun q2 => (if z_ar σ q2 0 then (if z_ix (3 : Int32) (z_ln σ q2) then (zc (z_R σ l0 0) none (fun q6 => (if z_ar σ q6 0 then (if z_ix (1 : Int32) (z_ln σ q6) then (zl (z_pI σ q2 (3 : Int32).toNatClampNeg ((z_I σ q2 (3 : Int32).toNatClampNeg) + ((z_I σ q6 (1 : Int32).toNatClampNeg) * ((6 : Int32) + ((2 : Int32) * l1))))) (fun σ10 => (if z_ob σ10 l0 9 then (zb (f_X10_isInRing σ10 l0 l1) (fun r14 => (if r14 = 0 then
(zc (z_R σ10 l0 0) none (fun q15 => (zb (f_X10_at σ10 l1 (2 : Int32)) (fun r18 => (if z_ar σ10 q15 0 then (if z_ix r18 (z_ln σ10 q15) then (zl (z_pI σ10 q15 r18.toNatClampNeg (1 : Int32)) (fun σ21 => (if z_ob σ21 l0 9 then (zc (z_R σ21 l0 0) none (fun q24 => (zb (f_X10_at σ21 l1 (3 : Int32)) (fun r27 => (if z_ar σ21 q24 0 then (if z_ix r27 (z_ln σ21 q24) then (zl (z_pI σ21 q24 r27.toNatClampNeg l1) (fun σ30 => (f_X10_makesToken_127 σ30 l0 l1))) else none) else none))))) else none))) else none) else none)))))
else
(f_X10_makesToken_127 σ10 l0 l1)))) else none))) else none) else none))) else none) else none))) else none)))
else
(if z_ob σ l0 9 then (zb (f_X10_isInRing σ l0 l2) (fun r35 => (if r35 = 0 then
(f_X10_makesToken_61 σ l0 l2 l1)
else
(f_X10_makesToken_61 σ l0 l2 l2)))) else none))
set_option maxRecDepth 100000 in
def f_X10_makesToken_44 (σ : zSt) (l0 : Nat) (l1 : Int32) (l2 : Int32) : Option (Int32 × zSt) := zloop (fun (t : Int32 × Int32) => b_X10_makesToken_44 σ l0 t.1 t.2) zN (l1, l2)
set_option maxRecDepth 100000 in
def f_X10_makesToken_34 (σ : zSt) (l0 : Nat) (l2 : Int32) (s0 : Int32) : Option ((Int32 × Int32) ⊕ (Int32 × zSt)) :=
(some (.inl (s0, (l2 + (-1 : Int32)))))
set_option maxRecDepth 100000 in
def f_X10_makesToken_33 (σ : zSt) (l0 : Nat) (l1 : Int32) (l2 : Int32) : Option ((Int32 × Int32) ⊕ (Int32 × zSt)) :=
(f_X10_makesToken_34 σ l0 l2 l1)
set_option maxRecDepth 100000 in
def b_X10_makesToken_5 (σ : zSt) (l0 : Nat) (l1 : Int32) (l2 : Int32) : Option ((Int32 × Int32) ⊕ (Int32 × zSt)) :=
(if l2 < 0 then
(zex (f_X10_makesToken_44 σ l0 l1 (31 : Int32)))
else
(if z_ob σ l0 9 then (zb (f_X10_of σ l0 l2 (0 : Int32)) (fun r4 => (if r4 = (1 : Int32) then
(zb (f_X10_of σ l0 l2 (1 : Int32)) (fun r6 => (if r6 = (1 : Int32) then
(f_X10_makesToken_34 σ l0 l2 l2)
else
(f_X10_makesToken_33 σ l0 l1 l2))))
else
(f_X10_makesToken_33 σ l0 l1 l2)))) else none))
set_option maxRecDepth 100000 in
def f_X10_makesToken_5 (σ : zSt) (l0 : Nat) (l1 : Int32) (l2 : Int32) : Option (Int32 × zSt) := zloop (fun (t : Int32 × Int32) => b_X10_makesToken_5 σ l0 t.1 t.2) zN (l1, l2)
set_option maxRecDepth 100000 in
def f_X10_makesToken (σ : zSt) (l0 : Nat) : Option (Int32 × zSt) :=
(f_X10_makesToken_5 σ l0 (-1 : Int32) (31 : Int32))
set_option maxRecDepth 100000 in
def f_X10_sends (σ : zSt) (l0 : Nat) (l1 : Int32) : Option (Int32 × zSt) :=
(if z_ob σ l0 9 then (zb (f_X10_nextOf σ l0 l1 (-1 : Int32)) (fun r3 => (zc (z_R σ l0 0) none (fun q4 => (if z_ar σ q4 0 then (if z_ix (3 : Int32) (z_ln σ q4) then (zl (z_I σ q4 (3 : Int32).toNatClampNeg) (fun x8 => (zb (f_X10_ofMessage σ l0 r3 (0 : Int32)) (fun r11 => (zb2 (f_X10_takes σ l0 r11) (fun r13 σ14 => (if r13 = 0 then
(if z_ob σ14 l0 9 then (zc (z_R σ14 l0 0) none (fun q16 => (zb (f_X10_inMessage σ14 r3 (4 : Int32)) (fun r19 => (zb (f_X10_ofMessage σ14 l0 r3 (3 : Int32)) (fun r21 => (if z_ar σ14 q16 0 then (if z_ix r19 (z_ln σ14 q16) then (zl (z_pI σ14 q16 r19.toNatClampNeg (x8 - r21)) (fun σ24 => (if z_ob σ24 l0 9 then (zc (z_R σ24 l0 0) none (fun q27 => (if z_ar σ24 q27 0 then (if z_ix (10 : Int32) (z_ln σ24 q27) then (zl (z_pI σ24 q27 (10 : Int32).toNatClampNeg ((z_I σ24 q27 (10 : Int32).toNatClampNeg) + (1 : Int32))) (fun σ31 => (if z_ob σ31 l0 9 then (zc (z_R σ31 l0 0) none (fun q34 => (if z_ar σ31 q34 0 then (if z_ix (15 : Int32) (z_ln σ31 q34) then (zb (f_X10_ofMessage σ31 l0 r3 (0 : Int32)) (fun r39 => (zl (z_pI σ31 q34 (15 : Int32).toNatClampNeg ((z_I σ31 q34 (15 : Int32).toNatClampNeg) + r39)) (fun σ40 => (some ((0 : Int32), σ40)))))) else none) else none))) else none))) else none) else none))) else none))) else none) else none))))))) else none)
else
(some ((1 : Int32), σ14))))))))) else none) else none))))) else none)
set_option maxRecDepth 100000 in
def f_X10_sendsAll_77 (σ : zSt) : Option (zSt) :=
(some σ)
set_option maxRecDepth 100000 in
def b_X10_sendsAll_40 (l0 : Nat) (l1 : Int32) (l2 : Int32) (l3 : Int32) (σ : zSt) (l5 : Int32) : Option ((zSt × Int32) ⊕ (zSt)) :=
(if l5 = 0 then
(if z_ob σ l0 9 then (zb (f_X10_nextOf σ l0 l1 (-1 : Int32)) (fun r4 => (if r4 = (-1 : Int32) then
(zex (f_X10_sendsAll_77 σ))
else
(zc (z_R σ l0 0) none (fun q6 => (if z_ar σ q6 0 then (if z_ix (3 : Int32) (z_ln σ q6) then (if l3 ≤ ((z_I σ q6 (3 : Int32).toNatClampNeg) - l2) then
(zex (f_X10_sendsAll_77 σ))
else
(zb2 (f_X10_sends σ l0 l1) (fun r12 σ13 => (some (.inl (σ13, r12)))))) else none) else none)))))) else none)
else
(zex (f_X10_sendsAll_77 σ)))
set_option maxRecDepth 100000 in
def f_X10_sendsAll_40 (l0 : Nat) (l1 : Int32) (l2 : Int32) (l3 : Int32) (σ : zSt) (l5 : Int32) : Option (zSt) := zloop (fun (t : zSt × Int32) => b_X10_sendsAll_40 l0 l1 l2 l3 t.1 t.2) zN (σ, l5)
set_option maxRecDepth 100000 in
def f_X10_sendsAll_38 (σ : zSt) (l0 : Nat) (l1 : Int32) (l2 : Int32) (l3 : Int32) (s0 : Int32) : Option (zSt) :=
(f_X10_sendsAll_40 l0 l1 l2 l3 σ s0)
set_option maxRecDepth 100000 in
def f_X10_sendsAll_37 (σ : zSt) (l0 : Nat) (l1 : Int32) (l2 : Int32) (l3 : Int32) : Option (zSt) :=
(f_X10_sendsAll_38 σ l0 l1 l2 l3 (0 : Int32))
set_option maxRecDepth 100000 in
def f_X10_sendsAll (σ : zSt) (l0 : Nat) (l1 : Int32) (l2 : Int32) (l3 : Int32) : Option (zSt) :=
(if z_ob σ l0 9 then (zb (f_X10_nextOf σ l0 l1 (-1 : Int32)) (fun r3 => (if r3 = (-1 : Int32) then
(f_X10_sendsAll_37 σ l0 l1 l2 l3)
else
(zb (f_X10_ofMessage σ l0 r3 (1 : Int32)) (fun r5 => (if r5 < (5 : Int32) then
(f_X10_sendsAll_37 σ l0 l1 l2 l3)
else
(zb2 (f_X10_sends σ l0 l1) (fun r7 σ8 => (if r7 = 0 then
(f_X10_sendsAll_37 σ8 l0 l1 l2 l3)
else
(f_X10_sendsAll_38 σ8 l0 l1 l2 l3 (1 : Int32))))))))))) else none)
set_option maxRecDepth 100000 in
def f_X10_behind_20 (σ : zSt) (s0 : Int32) : Option (Int32) :=
(some s0)
set_option maxRecDepth 100000 in
def f_X10_behind (σ : zSt) (l0 : Int32) (l1 : Int32) : Option (Int32) :=
(zl (((l1 - l0) + (32 : Int32)) - ((l1 - l0) + (32 : Int32)) / (32 : Int32) * (32 : Int32)) (fun x1 => (if x1 = 0 then
(f_X10_behind_20 σ (32 : Int32))
else
(f_X10_behind_20 σ x1))))
set_option maxRecDepth 100000 in
def f_X10_polls_33 (σ : zSt) : Option (zSt) :=
(some σ)
set_option maxRecDepth 100000 in
def f_X10_polls_216 (σ : zSt) : Option (zSt) :=
(some σ)
set_option maxRecDepth 100000 in
def f_X10_polls_131 (σ : zSt) (l0 : Nat) (l1 : Int32) (l3 : Int32) (s0 : Int32) : Option (zSt) :=
(if s0 = 0 then
(if z_ob σ l0 9 then (zc (z_R σ l0 0) none (fun q2 => (if z_ar σ q2 0 then (if z_ix (3 : Int32) (z_ln σ q2) then (zc (z_R σ l0 0) none (fun q6 => (if z_ar σ q6 0 then (if z_ix (1 : Int32) (z_ln σ q6) then (zl (z_pI σ q2 (3 : Int32).toNatClampNeg ((z_I σ q2 (3 : Int32).toNatClampNeg) + (z_I σ q6 (1 : Int32).toNatClampNeg))) (fun σ10 => (f_X10_polls_216 σ10))) else none) else none))) else none) else none))) else none)
else
(if z_ob σ l0 9 then (zc (z_R σ l0 0) none (fun q13 => (zb (f_X10_at σ l3 (2 : Int32)) (fun r16 => (if z_ar σ q13 0 then (if z_ix r16 (z_ln σ q13) then (zl (z_pI σ q13 r16.toNatClampNeg (1 : Int32)) (fun σ19 => (if z_ob σ19 l0 9 then (zc (z_R σ19 l0 0) none (fun q22 => (zb (f_X10_at σ19 l3 (3 : Int32)) (fun r25 => (zb (f_X10_of σ19 l0 l1 (3 : Int32)) (fun r27 => (if z_ar σ19 q22 0 then (if z_ix r25 (z_ln σ19 q22) then (zl (z_pI σ19 q22 r25.toNatClampNeg r27) (fun σ30 => (if z_ob σ30 l0 9 then (zc (z_R σ30 l0 0) none (fun q33 => (zb (f_X10_at σ30 l3 (4 : Int32)) (fun r36 => (if z_ar σ30 q33 0 then (if z_ix r36 (z_ln σ30 q33) then (zl (z_pI σ30 q33 r36.toNatClampNeg l3) (fun σ39 => (if z_ob σ39 l0 9 then (zc (z_R σ39 l0 0) none (fun q42 => (zb (f_X10_at σ39 l1 (3 : Int32)) (fun r45 => (if z_ar σ39 q42 0 then (if z_ix r45 (z_ln σ39 q42) then (zl (z_pI σ39 q42 r45.toNatClampNeg l3) (fun σ48 => (if z_ob σ48 l0 9 then (zc (z_R σ48 l0 0) none (fun q51 => (if z_ar σ48 q51 0 then (if z_ix (13 : Int32) (z_ln σ48 q51) then (zl (z_pI σ48 q51 (13 : Int32).toNatClampNeg ((z_I σ48 q51 (13 : Int32).toNatClampNeg) + (1 : Int32))) (fun σ55 => (f_X10_polls_216 σ55))) else none) else none))) else none))) else none) else none))))) else none))) else none) else none))))) else none))) else none) else none))))))) else none))) else none) else none))))) else none))
set_option maxRecDepth 100000 in
def f_X10_polls_130 (σ : zSt) (l0 : Nat) (l1 : Int32) (l3 : Int32) : Option (zSt) :=
(f_X10_polls_131 σ l0 l1 l3 (0 : Int32))
set_option maxRecDepth 100000 in
def f_X10_polls_65 (σ : zSt) (l0 : Nat) (l1 : Int32) (s0 : Int32) : Option (zSt) :=
(if z_ob σ l0 9 then (zc (z_R σ l0 0) none (fun q2 => (zb (f_X10_at σ l1 (4 : Int32)) (fun r5 => (if z_ar σ q2 0 then (if z_ix r5 (z_ln σ q2) then (zl (z_pI σ q2 r5.toNatClampNeg s0) (fun σ8 => (if z_ob σ8 l0 9 then (zb2 (f_X10_takes σ8 l0 (1 : Int32)) (fun r12 σ13 => (if r12 = 0 then
(if z_ob σ13 l0 9 then (zb (f_X10_of σ13 l0 s0 (0 : Int32)) (fun r16 => (if r16 = (1 : Int32) then
(zb (f_X10_of σ13 l0 s0 (1 : Int32)) (fun r18 => (if r18 = (1 : Int32) then
(zb (f_X10_of σ13 l0 s0 (2 : Int32)) (fun r20 => (if r20 = 0 then
(zb2 (f_X10_takes σ13 l0 (1 : Int32)) (fun r22 σ23 => (if r22 = 0 then
(f_X10_polls_131 σ23 l0 l1 s0 (1 : Int32))
else
(f_X10_polls_130 σ23 l0 l1 s0))))
else
(f_X10_polls_130 σ13 l0 l1 s0))))
else
(f_X10_polls_130 σ13 l0 l1 s0))))
else
(f_X10_polls_130 σ13 l0 l1 s0)))) else none)
else
(f_X10_polls_130 σ13 l0 l1 s0)))) else none))) else none) else none))))) else none)
set_option maxRecDepth 100000 in
def f_X10_polls (σ : zSt) (l0 : Nat) (l1 : Int32) : Option (zSt) :=
(if z_ob σ l0 9 then (zb (f_X10_of σ l0 l1 (3 : Int32)) (fun r3 => (zb (f_X10_behind σ l1 r3) (fun r5 => (zl (r5 - (1 : Int32)) (fun x6 => (zb (f_X10_of σ l0 l1 (5 : Int32)) (fun r9 => (zc (z_R σ l0 0) none (fun q10 => (if z_ar σ q10 0 then (if z_ix (2 : Int32) (z_ln σ q10) then (if ¬ (z_I σ q10 (2 : Int32).toNatClampNeg) = 0 then (if (r9 - r9 / (z_I σ q10 (2 : Int32).toNatClampNeg) * (z_I σ q10 (2 : Int32).toNatClampNeg)) = 0 then
(if x6 = 0 then
(f_X10_polls_33 σ)
else
(zb (f_X10_of σ l0 l1 (4 : Int32)) (fun r16 => (zl ((r16 + (1 : Int32)) - (r16 + (1 : Int32)) / (32 : Int32) * (32 : Int32)) (fun x17 => (zb (f_X10_behind σ l1 x17) (fun r20 => (if x6 < r20 then
(f_X10_polls_65 σ l0 l1 ((l1 + (1 : Int32)) - (l1 + (1 : Int32)) / (32 : Int32) * (32 : Int32)))
else
(f_X10_polls_65 σ l0 l1 x17)))))))))
else
(f_X10_polls_33 σ)) else none) else none) else none))))))))))) else none)
set_option maxRecDepth 100000 in
def f_X10_passes_174 (σ : zSt) (l0 : Nat) (l1 : Int32) (l3 : Int32) : Option (zSt) :=
(if z_ob σ l0 9 then (zc (z_R σ l0 0) none (fun q2 => (zb (f_X10_at σ l1 (3 : Int32)) (fun r5 => (if z_ar σ q2 0 then (if z_ix r5 (z_ln σ q2) then (zl (z_pI σ q2 r5.toNatClampNeg l3) (fun σ8 => (if z_ob σ8 l0 9 then (zc (z_R σ8 l0 0) none (fun q11 => (if z_ar σ8 q11 0 then (if z_ix (4 : Int32) (z_ln σ8 q11) then (zl (z_pI σ8 q11 (4 : Int32).toNatClampNeg l3) (fun σ15 => (some σ15))) else none) else none))) else none))) else none) else none))))) else none)
set_option maxRecDepth 100000 in
def f_X10_passes_142 (σ : zSt) (l0 : Nat) (l1 : Int32) (l3 : Int32) (s0 : Int32) : Option ((zSt × Int32 × Int32) ⊕ (zSt)) :=
(if s0 = 0 then
(if z_ob σ l0 9 then (zc (z_R σ l0 0) none (fun q2 => (if z_ar σ q2 0 then (if z_ix (3 : Int32) (z_ln σ q2) then (zc (z_R σ l0 0) none (fun q6 => (if z_ar σ q6 0 then (if z_ix (1 : Int32) (z_ln σ q6) then (zl (z_pI σ q2 (3 : Int32).toNatClampNeg ((z_I σ q2 (3 : Int32).toNatClampNeg) + (z_I σ q6 (1 : Int32).toNatClampNeg))) (fun σ10 => (zl ((l3 + (1 : Int32)) - (l3 + (1 : Int32)) / (32 : Int32) * (32 : Int32)) (fun x12 => (some (.inl (σ10, x12, s0))))))) else none) else none))) else none) else none))) else none)
else
(some (.inl (σ, l3, s0))))
set_option maxRecDepth 100000 in
def f_X10_passes_141 (σ : zSt) (l0 : Nat) (l1 : Int32) (l3 : Int32) : Option ((zSt × Int32 × Int32) ⊕ (zSt)) :=
(f_X10_passes_142 σ l0 l1 l3 (0 : Int32))
set_option maxRecDepth 100000 in
def b_X10_passes_111 (l0 : Nat) (l1 : Int32) (σ : zSt) (l3 : Int32) (l4 : Int32) : Option ((zSt × Int32 × Int32) ⊕ (zSt)) :=
(if l3 = l1 then
(zex (f_X10_passes_174 σ l0 l1 l3))
else
(if l4 = 0 then
(if z_ob σ l0 9 then (zb2 (f_X10_takes σ l0 (1 : Int32)) (fun r5 σ6 => (if r5 = 0 then
(if z_ob σ6 l0 9 then (zb (f_X10_isInRing σ6 l0 l3) (fun r9 => (if r9 = 0 then
(f_X10_passes_141 σ6 l0 l1 l3)
else
(f_X10_passes_142 σ6 l0 l1 l3 (1 : Int32))))) else none)
else
(f_X10_passes_141 σ6 l0 l1 l3)))) else none)
else
(zex (f_X10_passes_174 σ l0 l1 l3))))
set_option maxRecDepth 100000 in
def f_X10_passes_111 (l0 : Nat) (l1 : Int32) (σ : zSt) (l3 : Int32) (l4 : Int32) : Option (zSt) := zloop (fun (t : zSt × Int32 × Int32) => b_X10_passes_111 l0 l1 t.1 t.2.1 t.2.2) zN (σ, l3, l4)
set_option maxRecDepth 100000 in
def f_X10_passes_101 (σ : zSt) (l0 : Nat) (l1 : Int32) (l2 : Int32) : Option (zSt) :=
(zl ((l2 + (1 : Int32)) - (l2 + (1 : Int32)) / (32 : Int32) * (32 : Int32)) (fun x1 => (f_X10_passes_111 l0 l1 σ x1 (0 : Int32))))
set_option maxRecDepth 100000 in
def f_X10_passes_38 (σ : zSt) (l0 : Nat) (l1 : Int32) (l2 : Int32) : Option ((zSt × Int32) ⊕ (zSt)) :=
(if z_ob σ l0 9 then (zc (z_R σ l0 0) none (fun q2 => (if z_ar σ q2 0 then (if z_ix (3 : Int32) (z_ln σ q2) then (zc (z_R σ l0 0) none (fun q6 => (if z_ar σ q6 0 then (if z_ix (1 : Int32) (z_ln σ q6) then (zl (z_pI σ q2 (3 : Int32).toNatClampNeg ((z_I σ q2 (3 : Int32).toNatClampNeg) + (z_I σ q6 (1 : Int32).toNatClampNeg))) (fun σ10 => (some (.inl (σ10, (l2 + (1 : Int32))))))) else none) else none))) else none) else none))) else none)
set_option maxRecDepth 100000 in
def b_X10_passes_2 (l0 : Nat) (l1 : Int32) (σ : zSt) (l2 : Int32) : Option ((zSt × Int32) ⊕ (zSt)) :=
(if (3 : Int32) ≤ l2 then
(zex (if z_ob σ l0 9 then (zb (f_X10_of σ l0 l1 (3 : Int32)) (fun r3 => (if r3 = l1 then
(f_X10_passes_101 σ l0 l1 r3)
else
(zb (f_X10_isInRing σ l0 r3) (fun r5 => (if r5 = 0 then
(f_X10_passes_101 σ l0 l1 r3)
else
(zc (z_R σ l0 0) none (fun q6 => (zb (f_X10_at σ r3 (2 : Int32)) (fun r9 => (if z_ar σ q6 0 then (if z_ix r9 (z_ln σ q6) then (zl (z_pI σ q6 r9.toNatClampNeg (0 : Int32)) (fun σ12 => (if z_ob σ12 l0 9 then (zc (z_R σ12 l0 0) none (fun q15 => (if z_ar σ12 q15 0 then (if z_ix (14 : Int32) (z_ln σ12 q15) then (zl (z_pI σ12 q15 (14 : Int32).toNatClampNeg ((z_I σ12 q15 (14 : Int32).toNatClampNeg) + (1 : Int32))) (fun σ19 => (f_X10_passes_101 σ19 l0 l1 r3))) else none) else none))) else none))) else none) else none))))))))))) else none))
else
(if z_ob σ l0 9 then (zb (f_X10_of σ l0 l1 (3 : Int32)) (fun r24 => (zb2 (f_X10_takes σ l0 (1 : Int32)) (fun r26 σ27 => (if r26 = 0 then
(if z_ob σ27 l0 9 then (zb (f_X10_isInRing σ27 l0 r24) (fun r30 => (if r30 = 0 then
(f_X10_passes_38 σ27 l0 l1 l2)
else
(zex (zc (z_R σ27 l0 0) none (fun q31 => (if z_ar σ27 q31 0 then (if z_ix (4 : Int32) (z_ln σ27 q31) then (zl (z_pI σ27 q31 (4 : Int32).toNatClampNeg r24) (fun σ35 => (some σ35))) else none) else none))))))) else none)
else
(f_X10_passes_38 σ27 l0 l1 l2)))))) else none))
set_option maxRecDepth 100000 in
def f_X10_passes_2 (l0 : Nat) (l1 : Int32) (σ : zSt) (l2 : Int32) : Option (zSt) := zloop (fun (t : zSt × Int32) => b_X10_passes_2 l0 l1 t.1 t.2) zN (σ, l2)
set_option maxRecDepth 100000 in
def f_X10_passes (σ : zSt) (l0 : Nat) (l1 : Int32) : Option (zSt) :=
(f_X10_passes_2 l0 l1 σ (0 : Int32))
set_option maxRecDepth 100000 in
def f_X10_logs_58 (σ : zSt) (l0 : Nat) (l1 : Int32) (l2 : Int32) (l3 : Int32) (l4 : Int32) : Option (zSt) :=
(if z_ob σ l0 9 then (zc (z_R σ l0 0) none (fun q2 => (if z_ar σ q2 0 then (if z_ix (7 : Int32) (z_ln σ q2) then (zl ((782 : Int32) + ((4 : Int32) * (z_I σ q2 (7 : Int32).toNatClampNeg))) (fun x6 => (zc (z_R σ l0 0) none (fun q8 => (if z_ar σ q8 0 then (if z_ix x6 (z_ln σ q8) then (zl (z_pI σ q8 x6.toNatClampNeg l1) (fun σ12 => (if z_ob σ12 l0 9 then (zc (z_R σ12 l0 0) none (fun q15 => (if z_ar σ12 q15 0 then (if z_ix (x6 + (1 : Int32)) (z_ln σ12 q15) then (zl (z_pI σ12 q15 (x6 + (1 : Int32)).toNatClampNeg l2) (fun σ19 => (if z_ob σ19 l0 9 then (zc (z_R σ19 l0 0) none (fun q22 => (if z_ar σ19 q22 0 then (if z_ix (x6 + (2 : Int32)) (z_ln σ19 q22) then (zl (z_pI σ19 q22 (x6 + (2 : Int32)).toNatClampNeg l3) (fun σ26 => (if z_ob σ26 l0 9 then (zc (z_R σ26 l0 0) none (fun q29 => (if z_ar σ26 q29 0 then (if z_ix (x6 + (3 : Int32)) (z_ln σ26 q29) then (zl (z_pI σ26 q29 (x6 + (3 : Int32)).toNatClampNeg l4) (fun σ33 => (if z_ob σ33 l0 9 then (zc (z_R σ33 l0 0) none (fun q36 => (if z_ar σ33 q36 0 then (if z_ix (7 : Int32) (z_ln σ33 q36) then (zl (z_pI σ33 q36 (7 : Int32).toNatClampNeg ((z_I σ33 q36 (7 : Int32).toNatClampNeg) + (1 : Int32))) (fun σ40 => (some σ40))) else none) else none))) else none))) else none) else none))) else none))) else none) else none))) else none))) else none) else none))) else none))) else none) else none))))) else none) else none))) else none)
set_option maxRecDepth 100000 in
def b_X10_logs_17 (l0 : Nat) (l1 : Int32) (l2 : Int32) (l3 : Int32) (l4 : Int32) (σ : zSt) (l5 : Int32) : Option ((zSt × Int32) ⊕ (zSt)) :=
(if (938 : Int32) ≤ l5 then
(zex (if z_ob σ l0 9 then (zc (z_R σ l0 0) none (fun q2 => (if z_ar σ q2 0 then (if z_ix (7 : Int32) (z_ln σ q2) then (zl (z_pI σ q2 (7 : Int32).toNatClampNeg ((z_I σ q2 (7 : Int32).toNatClampNeg) - (1 : Int32))) (fun σ6 => (f_X10_logs_58 σ6 l0 l1 l2 l3 l4))) else none) else none))) else none))
else
(if z_ob σ l0 9 then (zc (z_R σ l0 0) none (fun q10 => (zc (z_R σ l0 0) none (fun q12 => (if z_ar σ q12 0 then (if z_ix (l5 + (4 : Int32)) (z_ln σ q12) then (if z_ar σ q10 0 then (if z_ix l5 (z_ln σ q10) then (zl (z_pI σ q10 l5.toNatClampNeg (z_I σ q12 (l5 + (4 : Int32)).toNatClampNeg)) (fun σ18 => (some (.inl (σ18, (l5 + (1 : Int32))))))) else none) else none) else none) else none))))) else none))
set_option maxRecDepth 100000 in
def f_X10_logs_17 (l0 : Nat) (l1 : Int32) (l2 : Int32) (l3 : Int32) (l4 : Int32) (σ : zSt) (l5 : Int32) : Option (zSt) := zloop (fun (t : zSt × Int32) => b_X10_logs_17 l0 l1 l2 l3 l4 t.1 t.2) zN (σ, l5)
set_option maxRecDepth 100000 in
def f_X10_logs (σ : zSt) (l0 : Nat) (l1 : Int32) (l2 : Int32) (l3 : Int32) (l4 : Int32) : Option (zSt) :=
(if z_ob σ l0 9 then (zc (z_R σ l0 0) none (fun q2 => (if z_ar σ q2 0 then (if z_ix (7 : Int32) (z_ln σ q2) then (if (z_I σ q2 (7 : Int32).toNatClampNeg) = (40 : Int32) then
(f_X10_logs_17 l0 l1 l2 l3 l4 σ (782 : Int32))
else
(f_X10_logs_58 σ l0 l1 l2 l3 l4)) else none) else none))) else none)
set_option maxRecDepth 100000 in
def f_X10_visits_122 (σ : zSt) (l0 : Nat) (l1 : Int32) (l2 : Int32) (l3 : Int32) (s0 : Int32) (s1 : Int32) (s2 : Option Nat) : Option (zSt) :=
(zc s2 none (fun a1 => (if z_ar σ a1 0 then (if z_ix s1 (z_ln σ a1) then (zl (z_pI σ a1 s1.toNatClampNeg s0) (fun σ5 => (if z_ob σ5 l0 9 then (zc (z_R σ5 l0 0) none (fun q8 => (if z_ar σ5 q8 0 then (if z_ix (10 : Int32) (z_ln σ5 q8) then (zl (z_I σ5 q8 (10 : Int32).toNatClampNeg) (fun x12 => (zc (z_R σ5 l0 0) none (fun q14 => (if z_ar σ5 q14 0 then (if z_ix (0 : Int32) (z_ln σ5 q14) then (zb (f_X10_sendsAll σ5 l0 l1 l2 ((z_I σ5 q14 (0 : Int32).toNatClampNeg) - l3)) (fun σ19 => (if z_ob σ19 l0 9 then (zc (z_R σ19 l0 0) none (fun q21 => (if z_ar σ19 q21 0 then (if z_ix (10 : Int32) (z_ln σ19 q21) then (zb (f_X10_logs σ19 l0 l2 l1 l3 ((z_I σ19 q21 (10 : Int32).toNatClampNeg) - x12)) (fun σ26 => (if z_ob σ26 l0 9 then (zb (f_X10_polls σ26 l0 l1) (fun σ29 => (if z_ob σ29 l0 9 then (zb (f_X10_passes σ29 l0 l1) (fun σ32 => (some σ32))) else none))) else none))) else none) else none))) else none))) else none) else none))))) else none) else none))) else none))) else none) else none)))
set_option maxRecDepth 100000 in
def f_X10_visits_56 (σ : zSt) (l0 : Nat) (l1 : Int32) (l2 : Int32) (s0 : Int32) : Option (zSt) :=
(if z_ob σ l0 9 then (zc (z_R σ l0 0) none (fun q2 => (zb (f_X10_at σ l1 (6 : Int32)) (fun r5 => (if z_ar σ q2 0 then (if z_ix r5 (z_ln σ q2) then (zl (z_pI σ q2 r5.toNatClampNeg l2) (fun σ8 => (if z_ob σ8 l0 9 then (zc (z_R σ8 l0 0) none (fun q11 => (zb (f_X10_at σ8 l1 (5 : Int32)) (fun r14 => (if z_ar σ8 q11 0 then (if z_ix r14 (z_ln σ8 q11) then (zl (z_pI σ8 q11 r14.toNatClampNeg ((z_I σ8 q11 r14.toNatClampNeg) + (1 : Int32))) (fun σ17 => (if z_ob σ17 l0 9 then (zc (z_R σ17 l0 0) none (fun q20 => (if z_ar σ17 q20 0 then (if z_ix (9 : Int32) (z_ln σ17 q20) then (zl (z_pI σ17 q20 (9 : Int32).toNatClampNeg ((z_I σ17 q20 (9 : Int32).toNatClampNeg) + (1 : Int32))) (fun σ24 => (if z_ob σ24 l0 9 then (zc (z_R σ24 l0 0) none (fun q27 => (zc (z_R σ24 l0 0) none (fun q29 => (if z_ar σ24 q29 0 then (if z_ix (8 : Int32) (z_ln σ24 q29) then (if s0 ≤ (z_I σ24 q29 (8 : Int32).toNatClampNeg) then
(zc (z_R σ24 l0 0) none (fun q33 => (if z_ar σ24 q33 0 then (if z_ix (8 : Int32) (z_ln σ24 q33) then (f_X10_visits_122 σ24 l0 l1 l2 s0 (z_I σ24 q33 (8 : Int32).toNatClampNeg) (8 : Int32) (some q27)) else none) else none)))
else
(f_X10_visits_122 σ24 l0 l1 l2 s0 s0 (8 : Int32) (some q27))) else none) else none))))) else none))) else none) else none))) else none))) else none) else none))))) else none))) else none) else none))))) else none)
set_option maxRecDepth 100000 in
def f_X10_visits_18 (σ : zSt) (l0 : Nat) : Option (zSt) :=
(if z_ob σ l0 9 then (zc (z_R σ l0 0) none (fun q2 => (if z_ar σ q2 0 then (if z_ix (4 : Int32) (z_ln σ q2) then (zl (z_I σ q2 (4 : Int32).toNatClampNeg) (fun x6 => (zc (z_R σ l0 0) none (fun q8 => (if z_ar σ q8 0 then (if z_ix (3 : Int32) (z_ln σ q8) then (zl (z_I σ q8 (3 : Int32).toNatClampNeg) (fun x12 => (zb (f_X10_of σ l0 x6 (6 : Int32)) (fun r15 => (if r15 = (-1 : Int32) then
(f_X10_visits_56 σ l0 x6 x12 (0 : Int32))
else
(zb (f_X10_of σ l0 x6 (6 : Int32)) (fun r17 => (f_X10_visits_56 σ l0 x6 x12 (x12 - r17))))))))) else none) else none))))) else none) else none))) else none)
set_option maxRecDepth 100000 in
def f_X10_visits (σ : zSt) (l0 : Nat) : Option (zSt) :=
(if z_ob σ l0 9 then (zc (z_R σ l0 0) none (fun q2 => (if z_ar σ q2 0 then (if z_ix (4 : Int32) (z_ln σ q2) then (if (z_I σ q2 (4 : Int32).toNatClampNeg) = (-1 : Int32) then
(zb2 (f_X10_makesToken σ l0) (fun r7 σ8 => (if r7 = 0 then
(some σ8)
else
(f_X10_visits_18 σ8 l0))))
else
(f_X10_visits_18 σ l0)) else none) else none))) else none)
set_option maxRecDepth 100000 in
def b_X10_run_41 (l0 : Nat) (l1 : Int32) (σ : zSt) (l2 : Int32) : Option ((zSt × Int32) ⊕ (Int32 × zSt)) :=
(if l1 ≤ l2 then
(zex (if z_ob σ l0 9 then (zc (z_R σ l0 0) none (fun q2 => (if z_ar σ q2 0 then (if z_ix (3 : Int32) (z_ln σ q2) then (some ((z_I σ q2 (3 : Int32).toNatClampNeg), σ)) else none) else none))) else none))
else
(if z_ob σ l0 9 then (zb (f_X10_visits σ l0) (fun σ9 => (some (.inl (σ9, (l2 + (1 : Int32))))))) else none))
set_option maxRecDepth 100000 in
def f_X10_run_41 (l0 : Nat) (l1 : Int32) (σ : zSt) (l2 : Int32) : Option (Int32 × zSt) := zloop (fun (t : zSt × Int32) => b_X10_run_41 l0 l1 t.1 t.2) zN (σ, l2)
set_option maxRecDepth 100000 in
def f_X10_run_26 (σ : zSt) (l0 : Nat) (l1 : Int32) (s0 : Int32) (s1 : Int32) (s2 : Option Nat) : Option (Int32 × zSt) :=
(zc s2 none (fun a1 => (if z_ob σ a1 9 then (zb2 (f_X10_goes σ a1 s1 s0 (1 : Int32)) (fun r5 σ6 => (if r5 = 0 then
(some ((0 : Int32), σ6))
else
(if z_ob σ6 l0 9 then (zb (f_X10_save σ6 l0) (fun σ9 => (f_X10_run_41 l0 l1 σ9 (0 : Int32)))) else none)))) else none)))
set_option maxRecDepth 100000 in
def f_X10_run (σ : zSt) (l0 : Nat) (l1 : Int32) : Option (Int32 × zSt) :=
(zb (f_X10_in σ l1.toInt64 (0 : Int64) (200 : Int64)) (fun r2 => (if z_ob σ l0 9 then (zc (z_R σ l0 0) none (fun q4 => (if z_ar σ q4 0 then (if z_ix (3 : Int32) (z_ln σ q4) then (if (900000 : Int32) < (z_I σ q4 (3 : Int32).toNatClampNeg) then
(f_X10_run_26 σ l0 l1 (0 : Int32) r2 (some l0))
else
(f_X10_run_26 σ l0 l1 (1 : Int32) r2 (some l0))) else none) else none))) else none)))
set_option maxRecDepth 100000 in
def f_X10_loseToken (σ : zSt) (l0 : Nat) : Option (Int32 × zSt) :=
(if z_ob σ l0 9 then (zl (z_pI σ l0 4 (0 : Int32)) (fun σ2 => (if z_ob σ2 l0 9 then (zb (f_X10_save σ2 l0) (fun σ6 => (if z_ob σ6 l0 9 then (zc (z_R σ6 l0 0) none (fun q8 => (if z_ar σ6 q8 0 then (if z_ix (4 : Int32) (z_ln σ6 q8) then (zl (z_I σ6 q8 (4 : Int32).toNatClampNeg) (fun x12 => (zc (z_R σ6 l0 0) none (fun q14 => (if z_ar σ6 q14 0 then (if z_ix (4 : Int32) (z_ln σ6 q14) then (zl (z_pI σ6 q14 (4 : Int32).toNatClampNeg (-1 : Int32)) (fun σ18 => (some (x12, σ18)))) else none) else none))))) else none) else none))) else none))) else none))) else none)
set_option maxRecDepth 100000 in
def f_X10_inRing_24 (σ : zSt) (l0 : Nat) (l2 : Int32) (s0 : Int32) (s1 : Int32) : Option ((Int32 × Int32) ⊕ (Int32)) :=
(zl (s1 + s0) (fun x1 => (some (.inl (x1, (l2 + (1 : Int32)))))))
set_option maxRecDepth 100000 in
def b_X10_inRing_4 (σ : zSt) (l0 : Nat) (l1 : Int32) (l2 : Int32) : Option ((Int32 × Int32) ⊕ (Int32)) :=
(if (32 : Int32) ≤ l2 then
(zex (some l1))
else
(if z_ob σ l0 9 then (zb (f_X10_isInRing σ l0 l2) (fun r4 => (if r4 = 0 then
(f_X10_inRing_24 σ l0 l2 (0 : Int32) l1)
else
(f_X10_inRing_24 σ l0 l2 (1 : Int32) l1)))) else none))
set_option maxRecDepth 100000 in
def f_X10_inRing_4 (σ : zSt) (l0 : Nat) (l1 : Int32) (l2 : Int32) : Option (Int32) := zloop (fun (t : Int32 × Int32) => b_X10_inRing_4 σ l0 t.1 t.2) zN (l1, l2)
set_option maxRecDepth 100000 in
def f_X10_inRing (σ : zSt) (l0 : Nat) : Option (Int32) :=
(f_X10_inRing_4 σ l0 (0 : Int32) (0 : Int32))
set_option maxRecDepth 100000 in
def f_X10_settingOf (σ : zSt) (l0 : Nat) (l1 : Int32) : Option (Int32) :=
(if l1 = (3 : Int32) then
(if z_ob σ l0 9 then (zb (f_X10_stations σ l0) (fun r3 => (some r3))) else none)
else
(if l1 = (4 : Int32) then
(if z_ob σ l0 9 then (zb (f_X10_inRing σ l0) (fun r6 => (some r6))) else none)
else
(if l1 = (5 : Int32) then
(if z_ob σ l0 9 then (zc (z_R σ l0 0) none (fun q8 => (if z_ar σ q8 0 then (if z_ix (6 : Int32) (z_ln σ q8) then (some (z_I σ q8 (6 : Int32).toNatClampNeg)) else none) else none))) else none)
else
(if l1 = (6 : Int32) then
(if z_ob σ l0 9 then (zc (z_R σ l0 0) none (fun q13 => (if z_ar σ q13 0 then (if z_ix (3 : Int32) (z_ln σ q13) then (some (z_I σ q13 (3 : Int32).toNatClampNeg)) else none) else none))) else none)
else
(if l1 = (7 : Int32) then
(if z_ob σ l0 9 then (zc (z_R σ l0 0) none (fun q18 => (if z_ar σ q18 0 then (if z_ix (4 : Int32) (z_ln σ q18) then (some (z_I σ q18 (4 : Int32).toNatClampNeg)) else none) else none))) else none)
else
(if l1 = (8 : Int32) then
(if z_ob σ l0 9 then (zc (z_R σ l0 0) none (fun q23 => (if z_ar σ q23 0 then (if z_ix (5 : Int32) (z_ln σ q23) then (some (z_I σ q23 (5 : Int32).toNatClampNeg)) else none) else none))) else none)
else
(if z_ob σ l0 9 then (zc (z_R σ l0 0) none (fun q28 => (if z_ar σ q28 0 then (if z_ix l1 (z_ln σ q28) then (some (z_I σ q28 l1.toNatClampNeg)) else none) else none))) else none)))))))
set_option maxRecDepth 100000 in
def f_X10_setting_27 (σ : zSt) (s0 : Int32) : Option (Int32 × zSt) :=
(some (s0, σ))
set_option maxRecDepth 100000 in
def f_X10_setting (σ : zSt) (l0 : Nat) (l1 : Int32) : Option (Int32 × zSt) :=
(zb (f_X10_in σ l1.toInt64 (0 : Int64) (8 : Int64)) (fun r2 => (if z_ob σ l0 9 then (zb2 (f_X10_goes σ l0 r2 (1 : Int32) (1 : Int32)) (fun r5 σ6 => (if r5 = 0 then
(f_X10_setting_27 σ6 (0 : Int32))
else
(if z_ob σ6 l0 9 then (zb (f_X10_settingOf σ6 l0 l1) (fun r9 => (f_X10_setting_27 σ6 r9))) else none)))) else none)))
set_option maxRecDepth 100000 in
def f_X10_queueOf_40 (σ : zSt) (l0 : Nat) (l1 : Int32) (l3 : Int32) (s0 : Int32) (s1 : Int32) : Option ((Int32 × Int32) ⊕ (Int32)) :=
(zl (s1 + s0) (fun x1 => (some (.inl (x1, (l3 + (1 : Int32)))))))
set_option maxRecDepth 100000 in
def f_X10_queueOf_39 (σ : zSt) (l0 : Nat) (l1 : Int32) (l3 : Int32) (s0 : Int32) : Option ((Int32 × Int32) ⊕ (Int32)) :=
(f_X10_queueOf_40 σ l0 l1 l3 (0 : Int32) s0)
set_option maxRecDepth 100000 in
def b_X10_queueOf_4 (σ : zSt) (l0 : Nat) (l1 : Int32) (l2 : Int32) (l3 : Int32) : Option ((Int32 × Int32) ⊕ (Int32)) :=
(if z_ob σ l0 9 then (zc (z_R σ l0 0) none (fun q2 => (if z_ar σ q2 0 then (if z_ix (5 : Int32) (z_ln σ q2) then (if (z_I σ q2 (5 : Int32).toNatClampNeg) ≤ l3 then
(zex (some l2))
else
(zb (f_X10_ofMessage σ l0 l3 (2 : Int32)) (fun r8 => (if r8 = l1 then
(zb (f_X10_ofMessage σ l0 l3 (4 : Int32)) (fun r10 => (if r10 = (-1 : Int32) then
(f_X10_queueOf_40 σ l0 l1 l3 (1 : Int32) l2)
else
(f_X10_queueOf_39 σ l0 l1 l3 l2))))
else
(f_X10_queueOf_39 σ l0 l1 l3 l2))))) else none) else none))) else none)
set_option maxRecDepth 100000 in
def f_X10_queueOf_4 (σ : zSt) (l0 : Nat) (l1 : Int32) (l2 : Int32) (l3 : Int32) : Option (Int32) := zloop (fun (t : Int32 × Int32) => b_X10_queueOf_4 σ l0 l1 t.1 t.2) zN (l2, l3)
set_option maxRecDepth 100000 in
def f_X10_queueOf (σ : zSt) (l0 : Nat) (l1 : Int32) : Option (Int32) :=
(f_X10_queueOf_4 σ l0 l1 (0 : Int32) (0 : Int32))
set_option maxRecDepth 100000 in
def f_X10_stationOf_30 (σ : zSt) (s0 : Int32) : Option (Int32) :=
(some s0)
set_option maxRecDepth 100000 in
def f_X10_stationOf_27 (σ : zSt) (s0 : Int32) (s1 : Int32) (s2 : Option Nat) : Option (Int32) :=
(zc s2 none (fun a1 => (if z_ob σ a1 9 then (zb (f_X10_of σ a1 s1 s0) (fun r5 => (f_X10_stationOf_30 σ r5))) else none)))
set_option maxRecDepth 100000 in
def f_X10_stationOf (σ : zSt) (l0 : Nat) (l1 : Int32) (l2 : Int32) : Option (Int32) :=
(if l2 = (4 : Int32) then
(if z_ob σ l0 9 then (zb (f_X10_queueOf σ l0 l1) (fun r3 => (f_X10_stationOf_30 σ r3))) else none)
else
(if (4 : Int32) ≤ l2 then
(f_X10_stationOf_27 σ l2 l1 (some l0))
else
(f_X10_stationOf_27 σ ((1 : Int32) + l2) l1 (some l0))))
set_option maxRecDepth 100000 in
def f_X10_station_32 (σ : zSt) (s0 : Int32) : Option (Int32 × zSt) :=
(some (s0, σ))
set_option maxRecDepth 100000 in
def f_X10_station (σ : zSt) (l0 : Nat) (l1 : Int32) (l2 : Int32) : Option (Int32 × zSt) :=
(if z_ob σ l0 9 then (zb (f_X10_isStation σ l0 l1) (fun r3 => (zb (f_X10_in σ l2.toInt64 (0 : Int64) (6 : Int64)) (fun r5 => (zb2 (f_X10_goes σ l0 r3 r5 (1 : Int32)) (fun r7 σ8 => (if r7 = 0 then
(f_X10_station_32 σ8 (0 : Int32))
else
(if z_ob σ8 l0 9 then (zb (f_X10_stationOf σ8 l0 l1 l2) (fun r11 => (f_X10_station_32 σ8 r11))) else none)))))))) else none)
set_option maxRecDepth 100000 in
def f_X10_addressAt_41 (σ : zSt) (l0 : Nat) (l2 : Int32) (l3 : Int32) : Option ((Int32 × Int32) ⊕ (Int32 × zSt)) :=
(if z_ob σ l0 9 then (zb (f_X10_of σ l0 l2 (0 : Int32)) (fun r3 => (zl (l3 - r3) (fun x4 => (some (.inl ((l2 + (1 : Int32)), x4))))))) else none)
set_option maxRecDepth 100000 in
def b_X10_addressAt_28 (σ : zSt) (l0 : Nat) (l2 : Int32) (l3 : Int32) : Option ((Int32 × Int32) ⊕ (Int32 × zSt)) :=
(if 0 < l3 then
(f_X10_addressAt_41 σ l0 l2 l3)
else
(if z_ob σ l0 9 then (zb (f_X10_of σ l0 l2 (0 : Int32)) (fun r3 => (if r3 = 0 then
(f_X10_addressAt_41 σ l0 l2 l3)
else
(zex (some (l2, σ)))))) else none))
set_option maxRecDepth 100000 in
def f_X10_addressAt_28 (σ : zSt) (l0 : Nat) (l2 : Int32) (l3 : Int32) : Option (Int32 × zSt) := zloop (fun (t : Int32 × Int32) => b_X10_addressAt_28 σ l0 t.1 t.2) zN (l2, l3)
set_option maxRecDepth 100000 in
def f_X10_addressAt (σ : zSt) (l0 : Nat) (l1 : Int32) : Option (Int32 × zSt) :=
(if z_ob σ l0 9 then (zb (f_X10_stations σ l0) (fun r3 => (zb (f_X10_in σ l1.toInt64 (0 : Int64) (r3.toInt64 - (1 : Int64))) (fun r5 => (zb2 (f_X10_goes σ l0 r5 (1 : Int32) (1 : Int32)) (fun r7 σ8 => (if r7 = 0 then
(some ((0 : Int32), σ8))
else
(f_X10_addressAt_28 σ8 l0 (0 : Int32) l1)))))))) else none)
set_option maxRecDepth 100000 in
def b_X10_queued_54 (σ : zSt) (l0 : Nat) (l1 : Int32) (l2 : Int32) (l4 : Int32) (l5 : Int32) : Option ((Int32 × Int32) ⊕ (Int32 × zSt)) :=
(if l2 ≤ l5 then
(zex (some (l4, σ)))
else
(if z_ob σ l0 9 then (zb (f_X10_nextOf σ l0 l1 l4) (fun r4 => (some (.inl (r4, (l5 + (1 : Int32))))))) else none))
set_option maxRecDepth 100000 in
def f_X10_queued_54 (σ : zSt) (l0 : Nat) (l1 : Int32) (l2 : Int32) (l4 : Int32) (l5 : Int32) : Option (Int32 × zSt) := zloop (fun (t : Int32 × Int32) => b_X10_queued_54 σ l0 l1 l2 t.1 t.2) zN (l4, l5)
set_option maxRecDepth 100000 in
def f_X10_queued_34 (σ : zSt) (l0 : Nat) (l1 : Int32) (l2 : Int32) (s0 : Int32) (s1 : Int32) (s2 : Option Nat) : Option (Int32 × zSt) :=
(zc s2 none (fun a1 => (if z_ob σ a1 9 then (zb2 (f_X10_goes σ a1 s1 s0 (1 : Int32)) (fun r5 σ6 => (if r5 = 0 then
(some ((0 : Int32), σ6))
else
(if z_ob σ6 l0 9 then (zb (f_X10_nextOf σ6 l0 l1 (-1 : Int32)) (fun r9 => (f_X10_queued_54 σ6 l0 l1 l2 r9 (0 : Int32)))) else none)))) else none)))
set_option maxRecDepth 100000 in
def f_X10_queued_33 (σ : zSt) (l0 : Nat) (l1 : Int32) (l2 : Int32) (s0 : Int32) (s1 : Option Nat) : Option (Int32 × zSt) :=
(f_X10_queued_34 σ l0 l1 l2 (0 : Int32) s0 s1)
set_option maxRecDepth 100000 in
def f_X10_queued (σ : zSt) (l0 : Nat) (l1 : Int32) (l2 : Int32) : Option (Int32 × zSt) :=
(if z_ob σ l0 9 then (zb (f_X10_isStation σ l0 l1) (fun r3 => (if r3 = 0 then
(f_X10_queued_33 σ l0 l1 l2 r3 (some l0))
else
(zb (f_X10_queueOf σ l0 l1) (fun r5 => (zb (f_X10_in σ l2.toInt64 (0 : Int64) (r5.toInt64 - (1 : Int64))) (fun r7 => (if r7 = 0 then
(f_X10_queued_33 σ l0 l1 l2 r3 (some l0))
else
(f_X10_queued_34 σ l0 l1 l2 (1 : Int32) r3 (some l0)))))))))) else none)
set_option maxRecDepth 100000 in
def f_X10_message_42 (σ : zSt) (s0 : Int32) : Option (Int32 × zSt) :=
(some (s0, σ))
set_option maxRecDepth 100000 in
def f_X10_message (σ : zSt) (l0 : Nat) (l1 : Int32) (l2 : Int32) : Option (Int32 × zSt) :=
(if z_ob σ l0 9 then (zc (z_R σ l0 0) none (fun q2 => (if z_ar σ q2 0 then (if z_ix (5 : Int32) (z_ln σ q2) then (zb (f_X10_in σ l1.toInt64 (0 : Int64) ((z_I σ q2 (5 : Int32).toNatClampNeg).toInt64 - (1 : Int64))) (fun r7 => (zb (f_X10_in σ l2.toInt64 (0 : Int64) (4 : Int64)) (fun r9 => (zb2 (f_X10_goes σ l0 r7 r9 (1 : Int32)) (fun r11 σ12 => (if r11 = 0 then
(f_X10_message_42 σ12 (0 : Int32))
else
(if z_ob σ12 l0 9 then (zb (f_X10_ofMessage σ12 l0 l1 l2) (fun r15 => (f_X10_message_42 σ12 r15))) else none)))))))) else none) else none))) else none)
set_option maxRecDepth 100000 in
def f_X10_count_31 (σ : zSt) (s0 : Int32) : Option (Int32 × zSt) :=
(some (s0, σ))
set_option maxRecDepth 100000 in
def f_X10_count (σ : zSt) (l0 : Nat) (l1 : Int32) : Option (Int32 × zSt) :=
(zb (f_X10_in σ l1.toInt64 (0 : Int64) (6 : Int64)) (fun r2 => (if z_ob σ l0 9 then (zb2 (f_X10_goes σ l0 r2 (1 : Int32) (1 : Int32)) (fun r5 σ6 => (if r5 = 0 then
(f_X10_count_31 σ6 (0 : Int32))
else
(if z_ob σ6 l0 9 then (zc (z_R σ6 l0 0) none (fun q8 => (if z_ar σ6 q8 0 then (if z_ix ((9 : Int32) + l1) (z_ln σ6 q8) then (f_X10_count_31 σ6 (z_I σ6 q8 ((9 : Int32) + l1).toNatClampNeg)) else none) else none))) else none)))) else none)))
set_option maxRecDepth 100000 in
def f_X10_isNoisy_32 (σ : zSt) (s0 : Int32) : Option (Int32 × zSt) :=
(if z_bl s0 then (some (s0, σ)) else none)
set_option maxRecDepth 100000 in
def f_X10_isNoisy_31 (σ : zSt) : Option (Int32 × zSt) :=
(f_X10_isNoisy_32 σ (0 : Int32))
set_option maxRecDepth 100000 in
def f_X10_isNoisy (σ : zSt) (l0 : Nat) (l1 : Int32) : Option (Int32 × zSt) :=
(zb (f_X10_in σ l1.toInt64 (0 : Int64) (1000000 : Int64)) (fun r2 => (if z_ob σ l0 9 then (zb2 (f_X10_goes σ l0 r2 (1 : Int32) (1 : Int32)) (fun r5 σ6 => (if r5 = 0 then
(f_X10_isNoisy_31 σ6)
else
(if z_ob σ6 l0 9 then (zb (f_X10_isLoud σ6 l0 l1 l1) (fun r9 => (if r9 = 0 then
(f_X10_isNoisy_31 σ6)
else
(f_X10_isNoisy_32 σ6 (1 : Int32))))) else none)))) else none)))
set_option maxRecDepth 100000 in
def f_X10_logged (σ : zSt) (l0 : Nat) : Option (Int32 × zSt) :=
(if z_ob σ l0 9 then (zl (z_pI σ l0 4 (0 : Int32)) (fun σ2 => (if z_ob σ2 l0 9 then (zc (z_R σ2 l0 0) none (fun q5 => (if z_ar σ2 q5 0 then (if z_ix (7 : Int32) (z_ln σ2 q5) then (some ((z_I σ2 q5 (7 : Int32).toNatClampNeg), σ2)) else none) else none))) else none))) else none)
set_option maxRecDepth 100000 in
def f_X10_visit_51 (σ : zSt) (s0 : Int32) : Option (Int32 × zSt) :=
(some (s0, σ))
set_option maxRecDepth 100000 in
def f_X10_visit (σ : zSt) (l0 : Nat) (l1 : Int32) (l2 : Int32) : Option (Int32 × zSt) :=
(if z_ob σ l0 9 then (zc (z_R σ l0 0) none (fun q2 => (if z_ar σ q2 0 then (if z_ix (7 : Int32) (z_ln σ q2) then (zb (f_X10_in σ l1.toInt64 (0 : Int64) ((z_I σ q2 (7 : Int32).toNatClampNeg).toInt64 - (1 : Int64))) (fun r7 => (zb (f_X10_in σ l2.toInt64 (0 : Int64) (3 : Int64)) (fun r9 => (zb2 (f_X10_goes σ l0 r7 r9 (1 : Int32)) (fun r11 σ12 => (if r11 = 0 then
(f_X10_visit_51 σ12 (0 : Int32))
else
(if z_ob σ12 l0 9 then (zc (z_R σ12 l0 0) none (fun q14 => (if z_ar σ12 q14 0 then (if z_ix (((782 : Int32) + ((4 : Int32) * l1)) + l2) (z_ln σ12 q14) then (f_X10_visit_51 σ12 (z_I σ12 q14 (((782 : Int32) + ((4 : Int32) * l1)) + l2).toNatClampNeg)) else none) else none))) else none)))))))) else none) else none))) else none)
set_option maxRecDepth 100000 in
def f_X10_greatestRotation (σ : zSt) (l0 : Nat) : Option (Int32 × zSt) :=
(if z_ob σ l0 9 then (zl (z_pI σ l0 4 (0 : Int32)) (fun σ2 => (if z_ob σ2 l0 9 then (zc (z_R σ2 l0 0) none (fun q5 => (if z_ar σ2 q5 0 then (if z_ix (8 : Int32) (z_ln σ2 q5) then (some ((z_I σ2 q5 (8 : Int32).toNatClampNeg), σ2)) else none) else none))) else none))) else none)
set_option maxRecDepth 100000 in
def f_X10_waits_101 (σ : zSt) (s0 : UInt64) : Option (UInt64 × zSt) :=
(some (s0, σ))
set_option maxRecDepth 100000 in
def f_X10_waits_59 (σ : zSt) (l0 : Nat) (l1 : Int32) (l2 : Int32) (l5 : Int32) (s0 : Int64) (s1 : Int64) : Option ((Int32 × Int64 × Int32) ⊕ (UInt64 × zSt)) :=
(zl (s1 + s0) (fun x1 => (some (.inl (l2, x1, (l5 + (1 : Int32)))))))
set_option maxRecDepth 100000 in
def f_X10_waits_44 (σ : zSt) (l0 : Nat) (l1 : Int32) (l3 : Int64) (l5 : Int32) (l6 : Int32) (s0 : Int32) : Option ((Int32 × Int64 × Int32) ⊕ (UInt64 × zSt)) :=
(if l6 = (-1 : Int32) then
(f_X10_waits_59 σ l0 l1 s0 l5 (0 : Int64) l3)
else
(f_X10_waits_59 σ l0 l1 s0 l5 l6.toInt64 l3))
set_option maxRecDepth 100000 in
def b_X10_waits_12 (σ : zSt) (l0 : Nat) (l1 : Int32) (l2 : Int32) (l3 : Int64) (l5 : Int32) : Option ((Int32 × Int64 × Int32) ⊕ (UInt64 × zSt)) :=
(if z_ob σ l0 9 then (zc (z_R σ l0 0) none (fun q2 => (if z_ar σ q2 0 then (if z_ix (5 : Int32) (z_ln σ q2) then (if (z_I σ q2 (5 : Int32).toNatClampNeg) ≤ l5 then
(zex (if l1 = 0 then
(zc (z_R σ l0 0) none (fun q6 => (if z_ar σ q6 0 then (if z_ix (10 : Int32) (z_ln σ q6) then (if (z_I σ q6 (10 : Int32).toNatClampNeg) = 0 then
(f_X10_waits_101 σ FP.dconst0)
else
(zc (z_R σ l0 0) none (fun q10 => (if z_ar σ q10 0 then (if z_ix (10 : Int32) (z_ln σ q10) then (if vf_n64b (FP.ddiv (FP.l2d l3) (FP.i2d (z_I σ q10 (10 : Int32).toNatClampNeg))) then (f_X10_waits_101 σ (FP.ddiv (FP.l2d l3) (FP.i2d (z_I σ q10 (10 : Int32).toNatClampNeg)))) else none) else none) else none)))) else none) else none)))
else
(f_X10_waits_101 σ (FP.i2d l2))))
else
(zb (f_X10_ofMessage σ l0 l5 (4 : Int32)) (fun r17 => (if r17 ≤ l2 then
(f_X10_waits_44 σ l0 l1 l3 l5 r17 l2)
else
(f_X10_waits_44 σ l0 l1 l3 l5 r17 r17))))) else none) else none))) else none)
set_option maxRecDepth 100000 in
def f_X10_waits_12 (σ : zSt) (l0 : Nat) (l1 : Int32) (l2 : Int32) (l3 : Int64) (l5 : Int32) : Option (UInt64 × zSt) := zloop (fun (t : Int32 × Int64 × Int32) => b_X10_waits_12 σ l0 l1 t.1 t.2.1 t.2.2) zN (l2, l3, l5)
set_option maxRecDepth 100000 in
def f_X10_waits (σ : zSt) (l0 : Nat) (l1 : Int32) : Option (UInt64 × zSt) :=
(if z_ob σ l0 9 then (zl (z_pI σ l0 4 (0 : Int32)) (fun σ2 => (f_X10_waits_12 σ2 l0 l1 (0 : Int32) (0 : Int64) (0 : Int32)))) else none)
set_option maxRecDepth 100000 in
def f_X10_use_34 (σ : zSt) (s0 : UInt64) : Option (UInt64 × zSt) :=
(some (s0, σ))
set_option maxRecDepth 100000 in
def f_X10_use (σ : zSt) (l0 : Nat) : Option (UInt64 × zSt) :=
(if z_ob σ l0 9 then (zl (z_pI σ l0 4 (0 : Int32)) (fun σ2 => (if z_ob σ2 l0 9 then (zc (z_R σ2 l0 0) none (fun q5 => (if z_ar σ2 q5 0 then (if z_ix (3 : Int32) (z_ln σ2 q5) then (if (z_I σ2 q5 (3 : Int32).toNatClampNeg) = 0 then
(f_X10_use_34 σ2 FP.dconst0)
else
(zc (z_R σ2 l0 0) none (fun q9 => (if z_ar σ2 q9 0 then (if z_ix (15 : Int32) (z_ln σ2 q9) then (zc (z_R σ2 l0 0) none (fun q13 => (if z_ar σ2 q13 0 then (if z_ix (3 : Int32) (z_ln σ2 q13) then (if vf_n64b (FP.ddiv (FP.i2d (z_I σ2 q9 (15 : Int32).toNatClampNeg)) (FP.i2d (z_I σ2 q13 (3 : Int32).toNatClampNeg))) then (f_X10_use_34 σ2 (FP.ddiv (FP.i2d (z_I σ2 q9 (15 : Int32).toNatClampNeg)) (FP.i2d (z_I σ2 q13 (3 : Int32).toNatClampNeg)))) else none) else none) else none))) else none) else none)))) else none) else none))) else none))) else none)
set_option maxRecDepth 100000 in
def f_X10_waitOf_90 (σ : zSt) (l0 : Nat) (l1 : Int32) : Option (Int32 × zSt) :=
(if z_ob σ l0 9 then (zb (f_X10_ofMessage σ l0 l1 (4 : Int32)) (fun r3 => (zb (f_X10_takesBack σ l0) (fun σ5 => (some (r3, σ5)))))) else none)
set_option maxRecDepth 100000 in
def b_X10_waitOf_63 (l0 : Nat) (l1 : Int32) (σ : zSt) (l3 : Int32) : Option ((zSt × Int32) ⊕ (Int32 × zSt)) :=
(if (300 : Int32) ≤ l3 then
(zex (f_X10_waitOf_90 σ l0 l1))
else
(if z_ob σ l0 9 then (zb (f_X10_ofMessage σ l0 l1 (4 : Int32)) (fun r4 => (if r4 = (-1 : Int32) then
(zb (f_X10_visits σ l0) (fun σ7 => (some (.inl (σ7, (l3 + (1 : Int32)))))))
else
(zex (f_X10_waitOf_90 σ l0 l1))))) else none))
set_option maxRecDepth 100000 in
def f_X10_waitOf_63 (l0 : Nat) (l1 : Int32) (σ : zSt) (l3 : Int32) : Option (Int32 × zSt) := zloop (fun (t : zSt × Int32) => b_X10_waitOf_63 l0 l1 t.1 t.2) zN (σ, l3)
set_option maxRecDepth 100000 in
def f_X10_waitOf_48 (σ : zSt) (l0 : Nat) (l1 : Int32) (s0 : Int32) (s1 : Int32) (s2 : Option Nat) : Option (Int32 × zSt) :=
(zc s2 none (fun a1 => (if z_ob σ a1 9 then (zb2 (f_X10_goes σ a1 s1 s0 (1 : Int32)) (fun r5 σ6 => (if r5 = 0 then
(some ((0 : Int32), σ6))
else
(if z_ob σ6 l0 9 then (zb (f_X10_lays σ6 l0) (fun σ9 => (f_X10_waitOf_63 l0 l1 σ9 (0 : Int32)))) else none)))) else none)))
set_option maxRecDepth 100000 in
def f_X10_waitOf_47 (σ : zSt) (l0 : Nat) (l1 : Int32) (s0 : Int32) (s1 : Option Nat) : Option (Int32 × zSt) :=
(f_X10_waitOf_48 σ l0 l1 (0 : Int32) s0 s1)
set_option maxRecDepth 100000 in
def f_X10_waitOf (σ : zSt) (l0 : Nat) (l1 : Int32) : Option (Int32 × zSt) :=
(if z_ob σ l0 9 then (zc (z_R σ l0 0) none (fun q2 => (if z_ar σ q2 0 then (if z_ix (5 : Int32) (z_ln σ q2) then (zb (f_X10_in σ l1.toInt64 (0 : Int64) ((z_I σ q2 (5 : Int32).toNatClampNeg).toInt64 - (1 : Int64))) (fun r7 => (if r7 = 0 then
(f_X10_waitOf_47 σ l0 l1 r7 (some l0))
else
(zb (f_X10_ofMessage σ l0 l1 (4 : Int32)) (fun r9 => (if r9 = (-1 : Int32) then
(zc (z_R σ l0 0) none (fun q10 => (if z_ar σ q10 0 then (if z_ix (3 : Int32) (z_ln σ q10) then (if (900000 : Int32) < (z_I σ q10 (3 : Int32).toNatClampNeg) then
(f_X10_waitOf_47 σ l0 l1 r7 (some l0))
else
(f_X10_waitOf_48 σ l0 l1 (1 : Int32) r7 (some l0))) else none) else none)))
else
(f_X10_waitOf_47 σ l0 l1 r7 (some l0)))))))) else none) else none))) else none)
set_option maxRecDepth 100000 in
def f_X10_isComplete_47 (σ : zSt) (l0 : Nat) (l2 : Int32) (s0 : Int32) : Option ((Int32 × Int32) ⊕ (Int32)) :=
(some (.inl (s0, (l2 + (1 : Int32)))))
set_option maxRecDepth 100000 in
def f_X10_isComplete_46 (σ : zSt) (l0 : Nat) (l2 : Int32) : Option ((Int32 × Int32) ⊕ (Int32)) :=
(f_X10_isComplete_47 σ l0 l2 (0 : Int32))
set_option maxRecDepth 100000 in
def f_X10_isComplete_42 (σ : zSt) (l0 : Nat) (l2 : Int32) : Option ((Int32 × Int32) ⊕ (Int32)) :=
(f_X10_isComplete_47 σ l0 l2 (1 : Int32))
set_option maxRecDepth 100000 in
def b_X10_isComplete_4 (σ : zSt) (l0 : Nat) (l1 : Int32) (l2 : Int32) : Option ((Int32 × Int32) ⊕ (Int32)) :=
(if (32 : Int32) ≤ l2 then
(zex (if z_bl l1 then (some l1) else none))
else
(if l1 = 0 then
(f_X10_isComplete_46 σ l0 l2)
else
(if z_ob σ l0 9 then (zb (f_X10_of σ l0 l2 (0 : Int32)) (fun r5 => (if r5 = 0 then
(f_X10_isComplete_42 σ l0 l2)
else
(zb (f_X10_of σ l0 l2 (1 : Int32)) (fun r7 => (if r7 = 0 then
(f_X10_isComplete_42 σ l0 l2)
else
(zb (f_X10_of σ l0 l2 (2 : Int32)) (fun r9 => (if r9 = (1 : Int32) then
(f_X10_isComplete_42 σ l0 l2)
else
(f_X10_isComplete_46 σ l0 l2)))))))))) else none)))
set_option maxRecDepth 100000 in
def f_X10_isComplete_4 (σ : zSt) (l0 : Nat) (l1 : Int32) (l2 : Int32) : Option (Int32) := zloop (fun (t : Int32 × Int32) => b_X10_isComplete_4 σ l0 t.1 t.2) zN (l1, l2)
set_option maxRecDepth 100000 in
def f_X10_isComplete (σ : zSt) (l0 : Nat) : Option (Int32) :=
(f_X10_isComplete_4 σ l0 (1 : Int32) (0 : Int32))
set_option maxRecDepth 100000 in
def f_X10_completeAfter_69 (σ : zSt) (l0 : Nat) (s0 : Int32) : Option (Int32 × zSt) :=
(if z_ob σ l0 9 then (zb (f_X10_takesBack σ l0) (fun σ3 => (some (s0, σ3)))) else none)
set_option maxRecDepth 100000 in
def f_X10_completeAfter_57 (σ : zSt) (l0 : Nat) (l1 : Int32) : Option (Int32 × zSt) :=
(if z_ob σ l0 9 then (zb (f_X10_isComplete σ l0) (fun r3 => (if r3 = 0 then
(f_X10_completeAfter_69 σ l0 (-1 : Int32))
else
(f_X10_completeAfter_69 σ l0 l1)))) else none)
set_option maxRecDepth 100000 in
def b_X10_completeAfter_33 (l0 : Nat) (σ : zSt) (l1 : Int32) : Option ((zSt × Int32) ⊕ (Int32 × zSt)) :=
(if (300 : Int32) ≤ l1 then
(zex (f_X10_completeAfter_57 σ l0 l1))
else
(if z_ob σ l0 9 then (zb (f_X10_isComplete σ l0) (fun r4 => (if r4 = 0 then
(zb (f_X10_visits σ l0) (fun σ7 => (some (.inl (σ7, (l1 + (1 : Int32)))))))
else
(zex (f_X10_completeAfter_57 σ l0 l1))))) else none))
set_option maxRecDepth 100000 in
def f_X10_completeAfter_33 (l0 : Nat) (σ : zSt) (l1 : Int32) : Option (Int32 × zSt) := zloop (fun (t : zSt × Int32) => b_X10_completeAfter_33 l0 t.1 t.2) zN (σ, l1)
set_option maxRecDepth 100000 in
def f_X10_completeAfter_17 (σ : zSt) (l0 : Nat) (s0 : Int32) (s1 : Option Nat) : Option (Int32 × zSt) :=
(zc s1 none (fun a1 => (if z_ob σ a1 9 then (zb2 (f_X10_goes σ a1 s0 (1 : Int32) (1 : Int32)) (fun r5 σ6 => (if r5 = 0 then
(some ((0 : Int32), σ6))
else
(if z_ob σ6 l0 9 then (zb (f_X10_lays σ6 l0) (fun σ9 => (f_X10_completeAfter_33 l0 σ9 (0 : Int32)))) else none)))) else none)))
set_option maxRecDepth 100000 in
def f_X10_completeAfter (σ : zSt) (l0 : Nat) : Option (Int32 × zSt) :=
(if z_ob σ l0 9 then (zc (z_R σ l0 0) none (fun q2 => (if z_ar σ q2 0 then (if z_ix (3 : Int32) (z_ln σ q2) then (if (900000 : Int32) < (z_I σ q2 (3 : Int32).toNatClampNeg) then
(f_X10_completeAfter_17 σ l0 (0 : Int32) (some l0))
else
(f_X10_completeAfter_17 σ l0 (1 : Int32) (some l0))) else none) else none))) else none)
set_option maxRecDepth 100000 in
def f_X10_waiting_40 (σ : zSt) (l0 : Nat) (l2 : Int32) (s0 : Int32) (s1 : Int32) : Option ((Int32 × Int32) ⊕ (Int32)) :=
(zl (s1 + s0) (fun x1 => (some (.inl (x1, (l2 + (1 : Int32)))))))
set_option maxRecDepth 100000 in
def f_X10_waiting_39 (σ : zSt) (l0 : Nat) (l2 : Int32) (s0 : Int32) : Option ((Int32 × Int32) ⊕ (Int32)) :=
(f_X10_waiting_40 σ l0 l2 (0 : Int32) s0)
set_option maxRecDepth 100000 in
def b_X10_waiting_4 (σ : zSt) (l0 : Nat) (l1 : Int32) (l2 : Int32) : Option ((Int32 × Int32) ⊕ (Int32)) :=
(if (32 : Int32) ≤ l2 then
(zex (some l1))
else
(if z_ob σ l0 9 then (zb (f_X10_of σ l0 l2 (0 : Int32)) (fun r4 => (if r4 = (1 : Int32) then
(zb (f_X10_of σ l0 l2 (1 : Int32)) (fun r6 => (if r6 = (1 : Int32) then
(zb (f_X10_queueOf σ l0 l2) (fun r8 => (f_X10_waiting_40 σ l0 l2 r8 l1)))
else
(f_X10_waiting_39 σ l0 l2 l1))))
else
(f_X10_waiting_39 σ l0 l2 l1)))) else none))
set_option maxRecDepth 100000 in
def f_X10_waiting_4 (σ : zSt) (l0 : Nat) (l1 : Int32) (l2 : Int32) : Option (Int32) := zloop (fun (t : Int32 × Int32) => b_X10_waiting_4 σ l0 t.1 t.2) zN (l1, l2)
set_option maxRecDepth 100000 in
def f_X10_waiting (σ : zSt) (l0 : Nat) : Option (Int32) :=
(f_X10_waiting_4 σ l0 (0 : Int32) (0 : Int32))
set_option maxRecDepth 100000 in
def f_X10_leastTarget_80 (σ : zSt) (l0 : Nat) (l1 : Int32) (l2 : Int32) : Option ((zSt × Int32) ⊕ (Int32 × zSt)) :=
(if z_ob σ l0 9 then (zb (f_X10_waiting σ l0) (fun r3 => (zb (f_X10_takesBack σ l0) (fun σ5 => (if r3 = 0 then
(zex (some (l2, σ5)))
else
(some (.inl (σ5, (l2 + (20 : Int32)))))))))) else none)
set_option maxRecDepth 100000 in
def b_X10_leastTarget_58 (l0 : Nat) (l1 : Int32) (l2 : Int32) (σ : zSt) (l3 : Int32) : Option ((zSt × Int32) ⊕ ((zSt × Int32) ⊕ (Int32 × zSt))) :=
(if l1 ≤ l3 then
(zex (f_X10_leastTarget_80 σ l0 l1 l2))
else
(if z_ob σ l0 9 then (zb (f_X10_waiting σ l0) (fun r4 => (if r4 ≤ 0 then
(zex (f_X10_leastTarget_80 σ l0 l1 l2))
else
(zb (f_X10_visits σ l0) (fun σ7 => (some (.inl (σ7, (l3 + (1 : Int32)))))))))) else none))
set_option maxRecDepth 100000 in
def f_X10_leastTarget_58 (l0 : Nat) (l1 : Int32) (l2 : Int32) (σ : zSt) (l3 : Int32) : Option ((zSt × Int32) ⊕ (Int32 × zSt)) := zloop (fun (t : zSt × Int32) => b_X10_leastTarget_58 l0 l1 l2 t.1 t.2) zN (σ, l3)
set_option maxRecDepth 100000 in
def b_X10_leastTarget_42 (l0 : Nat) (l1 : Int32) (σ : zSt) (l2 : Int32) : Option ((zSt × Int32) ⊕ (Int32 × zSt)) :=
(if (400 : Int32) < l2 then
(zex (some ((-1 : Int32), σ)))
else
(if z_ob σ l0 9 then (zc (z_R σ l0 0) none (fun q3 => (if z_ar σ q3 0 then (if z_ix (0 : Int32) (z_ln σ q3) then (zl (z_pI σ q3 (0 : Int32).toNatClampNeg l2) (fun σ7 => (f_X10_leastTarget_58 l0 l1 l2 σ7 (0 : Int32)))) else none) else none))) else none))
set_option maxRecDepth 100000 in
def f_X10_leastTarget_42 (l0 : Nat) (l1 : Int32) (σ : zSt) (l2 : Int32) : Option (Int32 × zSt) := zloop (fun (t : zSt × Int32) => b_X10_leastTarget_42 l0 l1 t.1 t.2) zN (σ, l2)
set_option maxRecDepth 100000 in
def f_X10_leastTarget_26 (σ : zSt) (l0 : Nat) (l1 : Int32) (s0 : Int32) (s1 : Int32) (s2 : Option Nat) : Option (Int32 × zSt) :=
(zc s2 none (fun a1 => (if z_ob σ a1 9 then (zb2 (f_X10_goes σ a1 s1 s0 (1 : Int32)) (fun r5 σ6 => (if r5 = 0 then
(some ((0 : Int32), σ6))
else
(if z_ob σ6 l0 9 then (zb (f_X10_lays σ6 l0) (fun σ9 => (f_X10_leastTarget_42 l0 l1 σ9 (20 : Int32)))) else none)))) else none)))
set_option maxRecDepth 100000 in
def f_X10_leastTarget (σ : zSt) (l0 : Nat) (l1 : Int32) : Option (Int32 × zSt) :=
(zb (f_X10_in σ l1.toInt64 (0 : Int64) (100 : Int64)) (fun r2 => (if z_ob σ l0 9 then (zc (z_R σ l0 0) none (fun q4 => (if z_ar σ q4 0 then (if z_ix (3 : Int32) (z_ln σ q4) then (if (900000 : Int32) < (z_I σ q4 (3 : Int32).toNatClampNeg) then
(f_X10_leastTarget_26 σ l0 l1 (0 : Int32) r2 (some l0))
else
(f_X10_leastTarget_26 σ l0 l1 (1 : Int32) r2 (some l0))) else none) else none))) else none)))
set_option maxRecDepth 100000 in
def f_X10_append_24 (σ : zSt) (l0 : Nat) (l1 : Int32) (s0 : Int32) (s1 : Int32) (s2 : Option Nat) : Option (Int32 × zSt) :=
(zc s2 none (fun a1 => (if z_ob σ a1 9 then (zb2 (f_X10_goes σ a1 s1 s0 (1 : Int32)) (fun r5 σ6 => (if r5 = 0 then
(some ((0 : Int32), σ6))
else
(if z_ob σ6 l0 9 then (zc (z_R σ6 l0 5) none (fun q8 => (if z_ar σ6 q8 0 then (if z_ix (z_I σ6 l0 6) (z_ln σ6 q8) then (zl (z_pI σ6 q8 (z_I σ6 l0 6).toNatClampNeg l1) (fun σ12 => (if z_ob σ12 l0 9 then (zl (z_pI σ12 l0 6 ((z_I σ12 l0 6) + (1 : Int32))) (fun σ15 => (if z_ob σ15 l0 9 then (some ((z_I σ15 l0 6), σ15)) else none))) else none))) else none) else none))) else none)))) else none)))
set_option maxRecDepth 100000 in
def f_X10_append (σ : zSt) (l0 : Nat) (l1 : Int32) : Option (Int32 × zSt) :=
(zb (f_X10_in σ l1.toInt64 (0 : Int64) (127 : Int64)) (fun r2 => (if z_ob σ l0 9 then (if (120 : Int32) ≤ (z_I σ l0 6) then
(f_X10_append_24 σ l0 l1 (0 : Int32) r2 (some l0))
else
(f_X10_append_24 σ l0 l1 (1 : Int32) r2 (some l0))) else none)))
set_option maxRecDepth 100000 in
def f_X10_clearText (σ : zSt) (l0 : Nat) : Option (Int32 × zSt) :=
(if z_ob σ l0 9 then (zl (z_pI σ l0 4 (0 : Int32)) (fun σ2 => (if z_ob σ2 l0 9 then (zl (z_I σ2 l0 6) (fun x5 => (zl (z_pI σ2 l0 6 (0 : Int32)) (fun σ7 => (some (x5, σ7)))))) else none))) else none)
set_option maxRecDepth 100000 in
def f_X10_isFigure_38 (σ : zSt) (s0 : Int32) : Option (Int32) :=
(if z_bl s0 then (some s0) else none)
set_option maxRecDepth 100000 in
def f_X10_isFigure_37 (σ : zSt) : Option (Int32) :=
(f_X10_isFigure_38 σ (0 : Int32))
set_option maxRecDepth 100000 in
def f_X10_isFigure (σ : zSt) (l0 : Nat) : Option (Int32) :=
(if z_ob σ l0 9 then (if (z_I σ l0 6) ≤ (z_I σ l0 7) then
(f_X10_isFigure_37 σ)
else
(zc (z_R σ l0 5) none (fun q2 => (if z_ar σ q2 0 then (if z_ix (z_I σ l0 7) (z_ln σ q2) then (zb (f_X10_in σ ((z_I σ q2 (z_I σ l0 7).toNatClampNeg).toInt64) (48 : Int64) (57 : Int64)) (fun r7 => (if r7 = 0 then
(f_X10_isFigure_37 σ)
else
(f_X10_isFigure_38 σ (1 : Int32))))) else none) else none)))) else none)
set_option maxRecDepth 100000 in
def f_X10_passesByte_44 (σ : zSt) (l2 : Int32) (s0 : Int32) (s1 : Int32) (s2 : Option Nat) : Option (Int32 × zSt) :=
(zc s2 none (fun a1 => (if z_ob σ a1 9 then (zl (z_pI σ a1 7 (s1 + s0)) (fun σ4 => (if z_bl l2 then (some (l2, σ4)) else none))) else none)))
set_option maxRecDepth 100000 in
def f_X10_passesByte_29 (σ : zSt) (l0 : Nat) (s0 : Int32) : Option (Int32 × zSt) :=
(if z_ob σ l0 9 then (if s0 = 0 then
(f_X10_passesByte_44 σ s0 (0 : Int32) (z_I σ l0 7) (some l0))
else
(f_X10_passesByte_44 σ s0 (1 : Int32) (z_I σ l0 7) (some l0))) else none)
set_option maxRecDepth 100000 in
def f_X10_passesByte_28 (σ : zSt) (l0 : Nat) : Option (Int32 × zSt) :=
(f_X10_passesByte_29 σ l0 (0 : Int32))
set_option maxRecDepth 100000 in
def f_X10_passesByte (σ : zSt) (l0 : Nat) (l1 : Int32) : Option (Int32 × zSt) :=
(if z_ob σ l0 9 then (if (z_I σ l0 6) ≤ (z_I σ l0 7) then
(f_X10_passesByte_28 σ l0)
else
(zc (z_R σ l0 5) none (fun q2 => (if z_ar σ q2 0 then (if z_ix (z_I σ l0 7) (z_ln σ q2) then (if (z_I σ q2 (z_I σ l0 7).toNatClampNeg) = l1 then
(f_X10_passesByte_29 σ l0 (1 : Int32))
else
(f_X10_passesByte_28 σ l0)) else none) else none)))) else none)
set_option maxRecDepth 100000 in
def f_X10_readsNumber_84 (σ : zSt) (s0 : Int32) : Option (Int32 × zSt) :=
(if z_bl s0 then (some (s0, σ)) else none)
set_option maxRecDepth 100000 in
def f_X10_readsNumber_83 (σ : zSt) : Option (Int32 × zSt) :=
(f_X10_readsNumber_84 σ (0 : Int32))
set_option maxRecDepth 100000 in
def f_X10_readsNumber_64 (σ : zSt) (l0 : Nat) (l1 : Int32) : Option (Int32 × zSt) :=
(if z_ob σ l0 9 then (if (z_I σ l0 7) ≤ l1 then
(f_X10_readsNumber_83 σ)
else
(zb (f_X10_isFigure σ l0) (fun r3 => (if r3 = 0 then
(f_X10_readsNumber_84 σ (1 : Int32))
else
(f_X10_readsNumber_83 σ))))) else none)
set_option maxRecDepth 100000 in
def b_X10_readsNumber_10 (l0 : Nat) (l1 : Int32) (σ : zSt) : Option ((zSt) ⊕ (Int32 × zSt)) :=
(if z_ob σ l0 9 then (zb (f_X10_isFigure σ l0) (fun r3 => (if r3 = 0 then
(zex (f_X10_readsNumber_64 σ l0 l1))
else
(if (l1 + (2 : Int32)) ≤ (z_I σ l0 7) then
(zex (f_X10_readsNumber_64 σ l0 l1))
else
(zc (z_R σ l0 5) none (fun q6 => (if z_ar σ q6 0 then (if z_ix (z_I σ l0 7) (z_ln σ q6) then (zl (z_pI σ l0 8 ((((10 : Int32) * (z_I σ l0 8)) + (z_I σ q6 (z_I σ l0 7).toNatClampNeg)) - (48 : Int32))) (fun σ10 => (if z_ob σ10 l0 9 then (zl (z_pI σ10 l0 7 ((z_I σ10 l0 7) + (1 : Int32))) (fun σ13 => (some (.inl σ13)))) else none))) else none) else none))))))) else none)
set_option maxRecDepth 100000 in
def f_X10_readsNumber_10 (l0 : Nat) (l1 : Int32) (σ : zSt) : Option (Int32 × zSt) := zloop (fun (t : zSt) => b_X10_readsNumber_10 l0 l1 t) zN σ
set_option maxRecDepth 100000 in
def f_X10_readsNumber (σ : zSt) (l0 : Nat) : Option (Int32 × zSt) :=
(if z_ob σ l0 9 then (zl (z_I σ l0 7) (fun x2 => (zl (z_pI σ l0 8 (0 : Int32)) (fun σ4 => (f_X10_readsNumber_10 l0 x2 σ4))))) else none)
set_option maxRecDepth 100000 in
def f_X10_readsItem_108 (σ : zSt) : Option (Int32 × zSt) :=
(some ((0 : Int32), σ))
set_option maxRecDepth 100000 in
def f_X10_readsItem_153 (σ : zSt) : Option (Int32 × zSt) :=
(some ((0 : Int32), σ))
set_option maxRecDepth 100000 in
def f_X10_readsItem_84 (σ : zSt) (l0 : Nat) (l1 : Int32) : Option (Int32 × zSt) :=
(if z_ob σ l0 9 then (if (z_I σ l0 9) = (-1 : Int32) then
(f_X10_readsItem_108 σ)
else
(zb2 (f_X10_passesByte σ l0 (109 : Int32)) (fun r3 σ4 => (if r3 = 0 then
(f_X10_readsItem_108 σ4)
else
(if z_ob σ4 l0 9 then (zb2 (f_X10_readsNumber σ4 l0) (fun r7 σ8 => (if r7 = 0 then
(f_X10_readsItem_108 σ8)
else
(if z_ob σ8 l0 9 then (zb (f_X10_in σ8 ((z_I σ8 l0 8).toInt64) (1 : Int64) (20 : Int64)) (fun r11 => (if r11 = 0 then
(zl (z_pI σ8 l0 7 l1) (fun σ35 => (some ((0 : Int32), σ35))))
else
(zl (z_I σ8 l0 8) (fun x12 => (zb2 (f_X10_passesByte σ8 l0 (44 : Int32)) (fun r15 σ16 => (if r15 = 0 then
(f_X10_readsItem_153 σ16)
else
(if z_ob σ16 l0 9 then (zb (f_X10_isFigure σ16 l0) (fun r19 => (if r19 = 0 then
(f_X10_readsItem_153 σ16)
else
(zc (z_R σ16 l0 5) none (fun q20 => (if z_ar σ16 q20 0 then (if z_ix (z_I σ16 l0 7) (z_ln σ16 q20) then (zb2 (f_X10_gives σ16 l0 (z_I σ16 l0 9) x12 ((z_I σ16 q20 (z_I σ16 l0 7).toNatClampNeg) - (48 : Int32))) (fun r25 σ26 => (if z_ob σ26 l0 9 then (zl (z_pI σ26 l0 7 ((z_I σ26 l0 7) + (1 : Int32))) (fun σ28 => (if z_ob σ28 l0 9 then (zb2 (f_X10_passesByte σ28 l0 (59 : Int32)) (fun r32 σ33 => (if z_bl r32 then (some (r32, σ33)) else none))) else none))) else none))) else none) else none)))))) else none))))))))) else none)))) else none))))) else none)
set_option maxRecDepth 100000 in
def f_X10_readsItem_54 (σ : zSt) (l0 : Nat) (l1 : Int32) : Option (Int32 × zSt) :=
(if z_ob σ l0 9 then (zl (z_pI σ l0 7 l1) (fun σ2 => (some ((0 : Int32), σ2)))) else none)
set_option maxRecDepth 100000 in
def f_X10_readsItem (σ : zSt) (l0 : Nat) : Option (Int32 × zSt) :=
(if z_ob σ l0 9 then (zl ((z_I σ l0 7) + (1 : Int32)) (fun x2 => (zb (f_X10_stations σ l0) (fun r5 => (if (8 : Int32) ≤ r5 then
(f_X10_readsItem_84 σ l0 x2)
else
(zb2 (f_X10_passesByte σ l0 (115 : Int32)) (fun r7 σ8 => (if r7 = 0 then
(f_X10_readsItem_84 σ8 l0 x2)
else
(if z_ob σ8 l0 9 then (zb2 (f_X10_readsNumber σ8 l0) (fun r11 σ12 => (if r11 = 0 then
(some ((0 : Int32), σ12))
else
(if z_ob σ12 l0 9 then (if (32 : Int32) ≤ (z_I σ12 l0 8) then
(f_X10_readsItem_54 σ12 l0 x2)
else
(zb (f_X10_isStation σ12 l0 (z_I σ12 l0 8)) (fun r15 => (if r15 = 0 then
(zl (z_pI σ12 l0 9 (z_I σ12 l0 8)) (fun σ16 => (if z_ob σ16 l0 9 then (zb (f_X10_adds σ16 l0 (z_I σ16 l0 8)) (fun σ20 => (if z_ob σ20 l0 9 then (zb2 (f_X10_passesByte σ20 l0 (59 : Int32)) (fun r23 σ24 => (if z_bl r23 then (some (r23, σ24)) else none))) else none))) else none)))
else
(f_X10_readsItem_54 σ12 l0 x2))))) else none)))) else none))))))))) else none)
set_option maxRecDepth 100000 in
def b_X10_parse_88 (l0 : Nat) (l1 : Int32) (σ : zSt) (l2 : Int32) : Option ((zSt × Int32) ⊕ (Int32 × zSt)) :=
(if (942 : Int32) ≤ l2 then
(zex (if z_ob σ l0 9 then (zb (f_X10_save σ l0) (fun σ3 => (if z_ob σ3 l0 9 then (zb (f_X10_takesBack σ3 l0) (fun σ6 => (some (l1, σ6)))) else none))) else none))
else
(if z_ob σ l0 9 then (zc (z_R σ l0 0) none (fun q9 => (if z_ar σ q9 0 then (if z_ix l2 (z_ln σ q9) then (zl (z_I σ q9 l2.toNatClampNeg) (fun x13 => (zc (z_R σ l0 0) none (fun q15 => (zc (z_R σ l0 2) none (fun q17 => (if z_ar σ q17 0 then (if z_ix l2 (z_ln σ q17) then (if z_ar σ q15 0 then (if z_ix l2 (z_ln σ q15) then (zl (z_pI σ q15 l2.toNatClampNeg (z_I σ q17 l2.toNatClampNeg)) (fun σ23 => (if z_ob σ23 l0 9 then (zc (z_R σ23 l0 2) none (fun q26 => (if z_ar σ23 q26 0 then (if z_ix l2 (z_ln σ23 q26) then (zl (z_pI σ23 q26 l2.toNatClampNeg x13) (fun σ30 => (some (.inl (σ30, (l2 + (1 : Int32))))))) else none) else none))) else none))) else none) else none) else none) else none))))))) else none) else none))) else none))
set_option maxRecDepth 100000 in
def f_X10_parse_88 (l0 : Nat) (l1 : Int32) (σ : zSt) (l2 : Int32) : Option (Int32 × zSt) := zloop (fun (t : zSt × Int32) => b_X10_parse_88 l0 l1 t.1 t.2) zN (σ, l2)
set_option maxRecDepth 100000 in
def b_X10_parse_50 (l0 : Nat) (σ : zSt) (l1 : Int32) : Option ((zSt × Int32) ⊕ (Int32 × zSt)) :=
(if z_ob σ l0 9 then (if (z_I σ l0 6) ≤ (z_I σ l0 7) then
(zex (f_X10_parse_88 l0 l1 σ (0 : Int32)))
else
(zb2 (f_X10_readsItem σ l0) (fun r4 σ5 => (if r4 = 0 then
(zex (if z_ob σ5 l0 9 then (zb (f_X10_takesBack σ5 l0) (fun σ8 => (if z_ob σ8 l0 9 then (some (((-10 : Int32) - (z_I σ8 l0 7)), σ8)) else none))) else none))
else
(some (.inl (σ5, (l1 + (1 : Int32))))))))) else none)
set_option maxRecDepth 100000 in
def f_X10_parse_50 (l0 : Nat) (σ : zSt) (l1 : Int32) : Option (Int32 × zSt) := zloop (fun (t : zSt × Int32) => b_X10_parse_50 l0 t.1 t.2) zN (σ, l1)
set_option maxRecDepth 100000 in
def b_X10_parse_11 (l0 : Nat) (σ : zSt) (l1 : Int32) : Option ((zSt × Int32) ⊕ (Int32 × zSt)) :=
(if (942 : Int32) ≤ l1 then
(zex (if z_ob σ l0 9 then (zc (z_R σ l0 0) none (fun q2 => (if z_ar σ q2 0 then (if z_ix (4 : Int32) (z_ln σ q2) then (zl (z_pI σ q2 (4 : Int32).toNatClampNeg (-1 : Int32)) (fun σ6 => (if z_ob σ6 l0 9 then (zl (z_pI σ6 l0 9 (-1 : Int32)) (fun σ9 => (if z_ob σ9 l0 9 then (zl (z_pI σ9 l0 7 (0 : Int32)) (fun σ12 => (f_X10_parse_50 l0 σ12 (0 : Int32)))) else none))) else none))) else none) else none))) else none))
else
(if z_ob σ l0 9 then (zc (z_R σ l0 0) none (fun q16 => (if z_ar σ q16 0 then (if z_ix l1 (z_ln σ q16) then (zl (z_pI σ q16 l1.toNatClampNeg (0 : Int32)) (fun σ20 => (some (.inl (σ20, (l1 + (1 : Int32))))))) else none) else none))) else none))
set_option maxRecDepth 100000 in
def f_X10_parse_11 (l0 : Nat) (σ : zSt) (l1 : Int32) : Option (Int32 × zSt) := zloop (fun (t : zSt × Int32) => b_X10_parse_11 l0 t.1 t.2) zN (σ, l1)
set_option maxRecDepth 100000 in
def f_X10_parse (σ : zSt) (l0 : Nat) : Option (Int32 × zSt) :=
(if z_ob σ l0 9 then (zl (z_pI σ l0 4 (0 : Int32)) (fun σ2 => (if z_ob σ2 l0 9 then (zb (f_X10_lays σ2 l0) (fun σ6 => (f_X10_parse_11 l0 σ6 (3 : Int32)))) else none))) else none)
set_option maxRecDepth 100000 in
def b_X10_undo_35 (l0 : Nat) (σ : zSt) (l1 : Int32) : Option ((zSt × Int32) ⊕ (Int32 × zSt)) :=
(if (942 : Int32) ≤ l1 then
(zex (if z_ob σ l0 9 then (some ((z_I σ l0 3), σ)) else none))
else
(if z_ob σ l0 9 then (zc (z_R σ l0 0) none (fun q4 => (zc (z_R σ l0 1) none (fun q6 => (if z_ar σ q6 0 then (if z_ix (((942 : Int32) * (z_I σ l0 3)) + l1) (z_ln σ q6) then (if z_ar σ q4 0 then (if z_ix l1 (z_ln σ q4) then (zl (z_pI σ q4 l1.toNatClampNeg (z_I σ q6 (((942 : Int32) * (z_I σ l0 3)) + l1).toNatClampNeg)) (fun σ12 => (some (.inl (σ12, (l1 + (1 : Int32))))))) else none) else none) else none) else none))))) else none))
set_option maxRecDepth 100000 in
def f_X10_undo_35 (l0 : Nat) (σ : zSt) (l1 : Int32) : Option (Int32 × zSt) := zloop (fun (t : zSt × Int32) => b_X10_undo_35 l0 t.1 t.2) zN (σ, l1)
set_option maxRecDepth 100000 in
def f_X10_undo_13 (σ : zSt) (l0 : Nat) (s0 : Int32) (s1 : Option Nat) : Option (Int32 × zSt) :=
(zc s1 none (fun a1 => (if z_ob σ a1 9 then (zb2 (f_X10_goes σ a1 s0 (1 : Int32) (1 : Int32)) (fun r5 σ6 => (if r5 = 0 then
(some ((0 : Int32), σ6))
else
(if z_ob σ6 l0 9 then (zl (z_pI σ6 l0 3 ((z_I σ6 l0 3) - (1 : Int32))) (fun σ8 => (f_X10_undo_35 l0 σ8 (0 : Int32)))) else none)))) else none)))
set_option maxRecDepth 100000 in
def f_X10_undo (σ : zSt) (l0 : Nat) : Option (Int32 × zSt) :=
(if z_ob σ l0 9 then (if (z_I σ l0 3) ≤ 0 then
(f_X10_undo_13 σ l0 (0 : Int32) (some l0))
else
(f_X10_undo_13 σ l0 (1 : Int32) (some l0))) else none)
set_option maxRecDepth 100000 in
def f_X10_sums (σ : zSt) (l0 : Int64) (l2 : Int64) : Option (Int64) :=
(some (((31 : Int64) * l0) + l2))
set_option maxRecDepth 100000 in
def b_X10_withStation_47 (σ : zSt) (l0 : Nat) (l3 : Int32) (l4 : Int64) (l6 : Int32) : Option ((Int64 × Int32) ⊕ (Int64)) :=
(if l6 = (-1 : Int32) then
(zex (some l4))
else
(zb (f_X10_sums σ l4 l6.toInt64) (fun r3 => (if z_ob σ l0 9 then (zb (f_X10_nextOf σ l0 l3 l6) (fun r6 => (some (.inl (r3, r6))))) else none))))
set_option maxRecDepth 100000 in
def f_X10_withStation_47 (σ : zSt) (l0 : Nat) (l3 : Int32) (l4 : Int64) (l6 : Int32) : Option (Int64) := zloop (fun (t : Int64 × Int32) => b_X10_withStation_47 σ l0 l3 t.1 t.2) zN (l4, l6)
set_option maxRecDepth 100000 in
def b_X10_withStation_11 (σ : zSt) (l0 : Nat) (l3 : Int32) (l4 : Int64) (l6 : Int32) : Option ((Int64 × Int32) ⊕ (Int64)) :=
(if (7 : Int32) ≤ l6 then
(zex (if z_ob σ l0 9 then (zb (f_X10_nextOf σ l0 l3 (-1 : Int32)) (fun r3 => (f_X10_withStation_47 σ l0 l3 l4 r3))) else none))
else
(if z_ob σ l0 9 then (zb (f_X10_stationOf σ l0 l3 l6) (fun r7 => (zb (f_X10_sums σ l4 r7.toInt64) (fun r9 => (some (.inl (r9, (l6 + (1 : Int32))))))))) else none))
set_option maxRecDepth 100000 in
def f_X10_withStation_11 (σ : zSt) (l0 : Nat) (l3 : Int32) (l4 : Int64) (l6 : Int32) : Option (Int64) := zloop (fun (t : Int64 × Int32) => b_X10_withStation_11 σ l0 l3 t.1 t.2) zN (l4, l6)
set_option maxRecDepth 100000 in
def f_X10_withStation (σ : zSt) (l0 : Nat) (l1 : Int64) (l3 : Int32) : Option (Int64) :=
(zb (f_X10_sums σ l1 l3.toInt64) (fun r2 => (f_X10_withStation_11 σ l0 l3 r2 (0 : Int32))))
set_option maxRecDepth 100000 in
def b_X10_digest_168 (σ : zSt) (l0 : Nat) (l1 : Int64) (l3 : Int32) : Option ((Int64 × Int32) ⊕ (Int64 × zSt)) :=
(if z_ob σ l0 9 then (zc (z_R σ l0 0) none (fun q2 => (if z_ar σ q2 0 then (if z_ix (7 : Int32) (z_ln σ q2) then (if ((4 : Int32) * (z_I σ q2 (7 : Int32).toNatClampNeg)) ≤ l3 then
(zex (zb (f_X10_sums σ l1 ((z_I σ l0 3).toInt64)) (fun r7 => (some (r7, σ)))))
else
(zc (z_R σ l0 0) none (fun q9 => (if z_ar σ q9 0 then (if z_ix ((782 : Int32) + l3) (z_ln σ q9) then (zb (f_X10_sums σ l1 ((z_I σ q9 ((782 : Int32) + l3).toNatClampNeg).toInt64)) (fun r14 => (some (.inl (r14, (l3 + (1 : Int32))))))) else none) else none)))) else none) else none))) else none)
set_option maxRecDepth 100000 in
def f_X10_digest_168 (σ : zSt) (l0 : Nat) (l1 : Int64) (l3 : Int32) : Option (Int64 × zSt) := zloop (fun (t : Int64 × Int32) => b_X10_digest_168 σ l0 t.1 t.2) zN (l1, l3)
set_option maxRecDepth 100000 in
def b_X10_digest_115 (σ : zSt) (l0 : Nat) (l1 : Int64) (l3 : Int32) : Option ((Int64 × Int32) ⊕ (Int64 × zSt)) :=
(if (7 : Int32) ≤ l3 then
(zex (if z_ob σ l0 9 then (zc (z_R σ l0 0) none (fun q2 => (if z_ar σ q2 0 then (if z_ix (8 : Int32) (z_ln σ q2) then (zb (f_X10_sums σ l1 ((z_I σ q2 (8 : Int32).toNatClampNeg).toInt64)) (fun r7 => (zc (z_R σ l0 0) none (fun q8 => (if z_ar σ q8 0 then (if z_ix (7 : Int32) (z_ln σ q8) then (zb (f_X10_sums σ r7 ((z_I σ q8 (7 : Int32).toNatClampNeg).toInt64)) (fun r13 => (f_X10_digest_168 σ l0 r13 (0 : Int32)))) else none) else none))))) else none) else none))) else none))
else
(if z_ob σ l0 9 then (zc (z_R σ l0 0) none (fun q16 => (if z_ar σ q16 0 then (if z_ix ((9 : Int32) + l3) (z_ln σ q16) then (zb (f_X10_sums σ l1 ((z_I σ q16 ((9 : Int32) + l3).toNatClampNeg).toInt64)) (fun r21 => (some (.inl (r21, (l3 + (1 : Int32))))))) else none) else none))) else none))
set_option maxRecDepth 100000 in
def f_X10_digest_115 (σ : zSt) (l0 : Nat) (l1 : Int64) (l3 : Int32) : Option (Int64 × zSt) := zloop (fun (t : Int64 × Int32) => b_X10_digest_115 σ l0 t.1 t.2) zN (l1, l3)
set_option maxRecDepth 100000 in
def b_X10_digest_79 (σ : zSt) (l0 : Nat) (l1 : Int64) (l3 : Int32) : Option ((Int64 × Int32) ⊕ (Int64 × zSt)) :=
(if z_ob σ l0 9 then (zc (z_R σ l0 0) none (fun q2 => (if z_ar σ q2 0 then (if z_ix (5 : Int32) (z_ln σ q2) then (if ((5 : Int32) * (z_I σ q2 (5 : Int32).toNatClampNeg)) ≤ l3 then
(zex (f_X10_digest_115 σ l0 l1 (0 : Int32)))
else
(zc (z_R σ l0 0) none (fun q7 => (if z_ar σ q7 0 then (if z_ix ((242 : Int32) + l3) (z_ln σ q7) then (zb (f_X10_sums σ l1 ((z_I σ q7 ((242 : Int32) + l3).toNatClampNeg).toInt64)) (fun r12 => (some (.inl (r12, (l3 + (1 : Int32))))))) else none) else none)))) else none) else none))) else none)
set_option maxRecDepth 100000 in
def f_X10_digest_79 (σ : zSt) (l0 : Nat) (l1 : Int64) (l3 : Int32) : Option (Int64 × zSt) := zloop (fun (t : Int64 × Int32) => b_X10_digest_79 σ l0 t.1 t.2) zN (l1, l3)
set_option maxRecDepth 100000 in
def f_X10_digest_70 (σ : zSt) (l0 : Nat) (l3 : Int32) (s0 : Int64) : Option ((Int64 × Int32) ⊕ (Int64 × zSt)) :=
(some (.inl (s0, (l3 + (1 : Int32)))))
set_option maxRecDepth 100000 in
def b_X10_digest_44 (σ : zSt) (l0 : Nat) (l1 : Int64) (l3 : Int32) : Option ((Int64 × Int32) ⊕ (Int64 × zSt)) :=
(if (32 : Int32) ≤ l3 then
(zex (f_X10_digest_79 σ l0 l1 (0 : Int32)))
else
(if z_ob σ l0 9 then (zb (f_X10_of σ l0 l3 (0 : Int32)) (fun r4 => (if r4 = (1 : Int32) then
(zb (f_X10_withStation σ l0 l1 l3) (fun r6 => (f_X10_digest_70 σ l0 l3 r6)))
else
(f_X10_digest_70 σ l0 l3 l1)))) else none))
set_option maxRecDepth 100000 in
def f_X10_digest_44 (σ : zSt) (l0 : Nat) (l1 : Int64) (l3 : Int32) : Option (Int64 × zSt) := zloop (fun (t : Int64 × Int32) => b_X10_digest_44 σ l0 t.1 t.2) zN (l1, l3)
set_option maxRecDepth 100000 in
def b_X10_digest_19 (σ : zSt) (l0 : Nat) (l1 : Int64) (l3 : Int32) : Option ((Int64 × Int32) ⊕ (Int64 × zSt)) :=
(if (9 : Int32) ≤ l3 then
(zex (f_X10_digest_44 σ l0 l1 (0 : Int32)))
else
(if z_ob σ l0 9 then (zb (f_X10_settingOf σ l0 l3) (fun r4 => (zb (f_X10_sums σ l1 r4.toInt64) (fun r6 => (some (.inl (r6, (l3 + (1 : Int32))))))))) else none))
set_option maxRecDepth 100000 in
def f_X10_digest_19 (σ : zSt) (l0 : Nat) (l1 : Int64) (l3 : Int32) : Option (Int64 × zSt) := zloop (fun (t : Int64 × Int32) => b_X10_digest_19 σ l0 t.1 t.2) zN (l1, l3)
set_option maxRecDepth 100000 in
def f_X10_digest (σ : zSt) (l0 : Nat) : Option (Int64 × zSt) :=
(if z_ob σ l0 9 then (zl (z_pI σ l0 4 (0 : Int32)) (fun σ2 => (if z_ob σ2 l0 9 then (zb (f_X10_sums σ2 (3169 : Int64) ((z_I σ2 l0 6).toInt64)) (fun r6 => (f_X10_digest_19 σ2 l0 r6 (0 : Int32)))) else none))) else none)
set_option maxRecDepth 100000 in
def f_X9_addStation_38 (σ : zSt) : Option ((Nat ⊕ Int32) × zSt) :=
(some (.inl 1, z_gr σ))
set_option maxRecDepth 100000 in
def f_X9_addStation (σ : zSt) (l0 : Nat) (l1 : Int32) : Option ((Nat ⊕ Int32) × zSt) :=
(zb (f_X9_isAddress σ l1) (fun r2 => (if r2 = 0 then
(some (.inl 0, z_gr σ))
else
(if z_ob σ l0 8 then (zc (z_R σ l0 0) none (fun q4 => (if z_ob σ q4 2 then (zb (f_X2_stationWith σ q4 l1) (fun r8 => (zc r8
(zc (z_R σ l0 0) none (fun q10 => (if z_ob σ q10 2 then (zb (f_X2_isFull σ q10) (fun r14 => (if r14 = 0 then
(zc (z_R σ l0 2) none (fun q15 => (zc (z_R σ l0 0) none (fun q17 => (if z_ob σ q15 1 then (zb (f_X1_save σ q15 q17) (fun σ21 => (if z_ob σ21 l0 8 then (zc (z_R σ21 l0 0) none (fun q23 => (if z_ob σ21 q23 2 then (zb2 (f_X2_placeStation σ21 q23 l1) (fun r27 σ28 => (if z_ob σ28 l0 8 then (zc (z_R σ28 l0 0) none (fun q30 => (if z_ob σ28 q30 2 then (some (.inr (z_I σ28 q30 5), σ28)) else none))) else none))) else none))) else none))) else none)))))
else
(f_X9_addStation_38 σ)))) else none)))
(fun a9 => (f_X9_addStation_38 σ))))) else none))) else none))))
set_option maxRecDepth 100000 in
def f_X9_setOn (σ : zSt) (l0 : Nat) (l1 : Int32) (l2 : Int32) : Option ((Nat ⊕ Int32) × zSt) :=
(if z_ob σ l0 8 then (zc (z_R σ l0 0) none (fun q2 => (if z_ob σ q2 2 then (zb (f_X2_stationWith σ q2 l1) (fun r6 => (zc r6
(some (.inl 3, z_gr σ))
(fun a7 => (if z_ob σ a7 6 then (zl (z_I σ a7 1) (fun x9 => (zc (z_R σ l0 2) none (fun q11 => (zc (z_R σ l0 0) none (fun q13 => (if z_ob σ q11 1 then (zb (f_X1_save σ q11 q13) (fun σ17 => (if z_ob σ17 l0 8 then (zc (z_R σ17 l0 0) none (fun q19 => (if z_ob σ17 q19 2 then (zb (f_X2_switchStation σ17 q19 a7 l2) (fun σ23 => (if z_bl x9 then (some (.inr x9, σ23)) else none))) else none))) else none))) else none))))))) else none))))) else none))) else none)
set_option maxRecDepth 100000 in
def f_X9_setTimes_31 (σ : zSt) : Option ((Nat ⊕ Int32) × zSt) :=
(some (.inl 0, z_gr σ))
set_option maxRecDepth 100000 in
def f_X9_setTimes (σ : zSt) (l0 : Nat) (l1 : Int32) (l2 : Int32) (l3 : Int32) : Option ((Nat ⊕ Int32) × zSt) :=
(zb (f_X9_isWithin σ l1 (1 : Int32) (500 : Int32)) (fun r2 => (if r2 = 0 then
(f_X9_setTimes_31 σ)
else
(zb (f_X9_isWithin σ l2 (1 : Int32) (20 : Int32)) (fun r4 => (if r4 = 0 then
(f_X9_setTimes_31 σ)
else
(zb (f_X9_isWithin σ l3 (1 : Int32) (20 : Int32)) (fun r6 => (if r6 = 0 then
(f_X9_setTimes_31 σ)
else
(if z_ob σ l0 8 then (zc (z_R σ l0 0) none (fun q8 => (if z_ob σ q8 2 then (zl (z_I σ q8 6) (fun x11 => (zc (z_R σ l0 2) none (fun q13 => (zc (z_R σ l0 0) none (fun q15 => (if z_ob σ q13 1 then (zb (f_X1_save σ q13 q15) (fun σ19 => (if z_ob σ19 l0 8 then (zc (z_R σ19 l0 0) none (fun q21 => (if z_ob σ19 q21 2 then (zl (z_pI σ19 q21 6 l1) (fun σ24 => (if z_ob σ24 l0 8 then (zc (z_R σ24 l0 0) none (fun q27 => (if z_ob σ24 q27 2 then (zl (z_pI σ24 q27 7 l2) (fun σ30 => (if z_ob σ30 l0 8 then (zc (z_R σ30 l0 0) none (fun q33 => (if z_ob σ30 q33 2 then (zl (z_pI σ30 q33 8 l3) (fun σ36 => (some (.inr x11, σ36)))) else none))) else none))) else none))) else none))) else none))) else none))) else none))))))) else none))) else none))))))))))
set_option maxRecDepth 100000 in
def f_X9_give_45 (σ : zSt) : Option ((Nat ⊕ Int32) × zSt) :=
(some (.inl 0, z_gr σ))
set_option maxRecDepth 100000 in
def f_X9_give (σ : zSt) (l0 : Nat) (l1 : Int32) (l2 : Int32) (l3 : Int32) : Option ((Nat ⊕ Int32) × zSt) :=
(if z_ob σ l0 8 then (zc (z_R σ l0 0) none (fun q2 => (if z_ob σ q2 2 then (zb (f_X2_stationWith σ q2 l1) (fun r6 => (zc r6
(some (.inl 3, z_gr σ))
(fun a7 => (zb (f_X9_isWithin σ l2 (1 : Int32) (20 : Int32)) (fun r9 => (if r9 = 0 then
(f_X9_give_45 σ)
else
(zb (f_X9_isWithin σ l3 (0 : Int32) (9 : Int32)) (fun r11 => (if r11 = 0 then
(f_X9_give_45 σ)
else
(zc (z_R σ l0 0) none (fun q12 => (if z_ob σ q12 2 then (zc (z_R σ q12 1) none (fun q15 => (if z_ob σ q15 3 then (zb (f_X3_isFull σ q15) (fun r19 => (if r19 = 0 then
(zc (z_R σ l0 2) none (fun q20 => (zc (z_R σ l0 0) none (fun q22 => (if z_ob σ q20 1 then (zb (f_X1_save σ q20 q22) (fun σ26 => (if z_ob σ26 l0 8 then (zc (z_R σ26 l0 0) none (fun q28 => (if z_ob σ26 q28 2 then (zc (z_R σ26 q28 1) none (fun q31 => (zc (z_R σ26 l0 0) none (fun q33 => (if z_ob σ26 q33 2 then (if z_ob σ26 q31 3 then (zb2 (f_X3_add σ26 q31 a7 l2 l3 (z_I σ26 q33 9)) (fun r38 σ39 => (some (.inr r38, σ39)))) else none) else none))))) else none))) else none))) else none)))))
else
(some (.inl 1, z_gr σ))))) else none))) else none))))))))))))) else none))) else none)
set_option maxRecDepth 100000 in
def f_X9_addNoise_19 (σ : zSt) : Option ((Nat ⊕ Int32) × zSt) :=
(some (.inl 0, z_gr σ))
set_option maxRecDepth 100000 in
def f_X9_addNoise (σ : zSt) (l0 : Nat) (l1 : Int32) (l2 : Int32) : Option ((Nat ⊕ Int32) × zSt) :=
(zb (f_X9_isWithin σ l2 (0 : Int32) (1000000 : Int32)) (fun r2 => (if r2 = 0 then
(f_X9_addNoise_19 σ)
else
(zb (f_X9_isWithin σ l1 (0 : Int32) l2) (fun r4 => (if r4 = 0 then
(f_X9_addNoise_19 σ)
else
(if z_ob σ l0 8 then (zc (z_R σ l0 0) none (fun q6 => (if z_ob σ q6 2 then (zc (z_R σ q6 2) none (fun q9 => (if z_ob σ q9 4 then (zb (f_X4_isFull σ q9) (fun r13 => (if r13 = 0 then
(zc (z_R σ l0 2) none (fun q14 => (zc (z_R σ l0 0) none (fun q16 => (if z_ob σ q14 1 then (zb (f_X1_save σ q14 q16) (fun σ20 => (if z_ob σ20 l0 8 then (zc (z_R σ20 l0 0) none (fun q22 => (if z_ob σ20 q22 2 then (zc (z_R σ20 q22 2) none (fun q25 => (if z_ob σ20 q25 4 then (zb (f_X4_add σ20 q25 l1 l2) (fun σ29 => (if z_ob σ29 l0 8 then (zc (z_R σ29 l0 0) none (fun q31 => (if z_ob σ29 q31 2 then (zc (z_R σ29 q31 2) none (fun q34 => (if z_ob σ29 q34 4 then (some (.inr (z_I σ29 q34 2), σ29)) else none))) else none))) else none))) else none))) else none))) else none))) else none)))))
else
(some (.inl 1, z_gr σ))))) else none))) else none))) else none)))))))
set_option maxRecDepth 100000 in
def b_X9_run_54 (l0 : Nat) (l1 : Int32) (σ : zSt) (l2 : Int32) : Option ((zSt × Int32) ⊕ ((Nat ⊕ Int32) × zSt)) :=
(if l1 ≤ l2 then
(zex (if z_ob σ l0 8 then (zc (z_R σ l0 0) none (fun q2 => (if z_ob σ q2 2 then (some (.inr (z_I σ q2 9), σ)) else none))) else none))
else
(if z_ob σ l0 8 then (zc (z_R σ l0 0) none (fun q7 => (zb (f_X8_makeVisit σ q7) (fun σ10 => (some (.inl (σ10, (l2 + (1 : Int32))))))))) else none))
set_option maxRecDepth 100000 in
def f_X9_run_54 (l0 : Nat) (l1 : Int32) (σ : zSt) (l2 : Int32) : Option ((Nat ⊕ Int32) × zSt) := zloop (fun (t : zSt × Int32) => b_X9_run_54 l0 l1 t.1 t.2) zN (σ, l2)
set_option maxRecDepth 100000 in
def f_X9_run (σ : zSt) (l0 : Nat) (l1 : Int32) : Option ((Nat ⊕ Int32) × zSt) :=
(zb (f_X9_isWithin σ l1 (0 : Int32) (200 : Int32)) (fun r2 => (if r2 = 0 then
(some (.inl 0, z_gr σ))
else
(if z_ob σ l0 8 then (zc (z_R σ l0 0) none (fun q4 => (if z_ob σ q4 2 then (zb (f_X2_isTooLate σ q4) (fun r8 => (if r8 = 0 then
(zc (z_R σ l0 2) none (fun q9 => (zc (z_R σ l0 0) none (fun q11 => (if z_ob σ q9 1 then (zb (f_X1_save σ q9 q11) (fun σ15 => (f_X9_run_54 l0 l1 σ15 (0 : Int32)))) else none)))))
else
(some (.inl 1, z_gr σ))))) else none))) else none))))
set_option maxRecDepth 100000 in
def f_X9_setting (σ : zSt) (l0 : Nat) (l1 : Int32) : Option ((Nat ⊕ Int32) × zSt) :=
(zb (f_X9_isWithin σ l1 (0 : Int32) (8 : Int32)) (fun r2 => (if r2 = 0 then
(some (.inl 0, z_gr σ))
else
(if z_ob σ l0 8 then (zc (z_R σ l0 0) none (fun q4 => (if z_ob σ q4 2 then (zb (f_X2_settingValue σ q4 l1) (fun r8 => (some (.inr r8, σ)))) else none))) else none))))
set_option maxRecDepth 100000 in
def f_X9_station (σ : zSt) (l0 : Nat) (l1 : Int32) (l2 : Int32) : Option ((Nat ⊕ Int32) × zSt) :=
(if z_ob σ l0 8 then (zc (z_R σ l0 0) none (fun q2 => (if z_ob σ q2 2 then (zb (f_X2_stationWith σ q2 l1) (fun r6 => (zc r6
(some (.inl 3, z_gr σ))
(fun a7 => (zb (f_X9_isWithin σ l2 (0 : Int32) (6 : Int32)) (fun r9 => (if r9 = 0 then
(some (.inl 0, z_gr σ))
else
(if z_ob σ a7 6 then (zb (f_X6_value σ a7 l2) (fun r12 => (some (.inr r12, σ)))) else none)))))))) else none))) else none)
set_option maxRecDepth 100000 in
def f_X9_addressAt (σ : zSt) (l0 : Nat) (l1 : Int32) : Option ((Nat ⊕ Int32) × zSt) :=
(if z_ob σ l0 8 then (zc (z_R σ l0 0) none (fun q2 => (if z_ob σ q2 2 then (zb (f_X2_stationIn σ q2 l1) (fun r6 => (zc r6
(some (.inl 2, z_gr σ))
(fun a7 => (if z_ob σ a7 6 then (some (.inr (z_I σ a7 0), σ)) else none))))) else none))) else none)
set_option maxRecDepth 100000 in
def f_X9_queued (σ : zSt) (l0 : Nat) (l1 : Int32) (l2 : Int32) : Option ((Nat ⊕ Int32) × zSt) :=
(if z_ob σ l0 8 then (zc (z_R σ l0 0) none (fun q2 => (if z_ob σ q2 2 then (zb (f_X2_stationWith σ q2 l1) (fun r6 => (zc r6
(some (.inl 3, z_gr σ))
(fun a7 => (if z_ob σ a7 6 then (zb (f_X9_isWithin σ l2 (0 : Int32) ((z_I σ a7 6) - (1 : Int32))) (fun r10 => (if r10 = 0 then
(some (.inl 2, z_gr σ))
else
(zc (z_R σ l0 0) none (fun q11 => (if z_ob σ q11 2 then (zc (z_R σ q11 1) none (fun q14 => (if z_ob σ q14 3 then (zb (f_X3_inQueue σ q14 a7 l2) (fun r18 => (some (.inr r18, σ)))) else none))) else none)))))) else none))))) else none))) else none)
set_option maxRecDepth 100000 in
def f_X9_message (σ : zSt) (l0 : Nat) (l1 : Int32) (l2 : Int32) : Option ((Nat ⊕ Int32) × zSt) :=
(if z_ob σ l0 8 then (zc (z_R σ l0 0) none (fun q2 => (if z_ob σ q2 2 then (zc (z_R σ q2 1) none (fun q5 => (if z_ob σ q5 3 then (zb (f_X3_has σ q5 l1) (fun r9 => (if r9 = 0 then
(some (.inl 2, z_gr σ))
else
(zb (f_X9_isWithin σ l2 (0 : Int32) (4 : Int32)) (fun r11 => (if r11 = 0 then
(some (.inl 0, z_gr σ))
else
(zc (z_R σ l0 0) none (fun q12 => (if z_ob σ q12 2 then (zc (z_R σ q12 1) none (fun q15 => (if z_ob σ q15 3 then (zb (f_X3_value σ q15 l1 l2) (fun r19 => (some (.inr r19, σ)))) else none))) else none))))))))) else none))) else none))) else none)
set_option maxRecDepth 100000 in
def f_X9_count (σ : zSt) (l0 : Nat) (l1 : Int32) : Option ((Nat ⊕ Int32) × zSt) :=
(zb (f_X9_isWithin σ l1 (0 : Int32) (6 : Int32)) (fun r2 => (if r2 = 0 then
(some (.inl 0, z_gr σ))
else
(if z_ob σ l0 8 then (zc (z_R σ l0 0) none (fun q4 => (if z_ob σ q4 2 then (zc (z_R σ q4 3) none (fun q7 => (if z_ob σ q7 0 then (zb (f_X0_value σ q7 l1) (fun r11 => (some (.inr r11, σ)))) else none))) else none))) else none))))
set_option maxRecDepth 100000 in
def f_X9_isNoisy (σ : zSt) (l0 : Nat) (l1 : Int32) : Option ((Nat ⊕ Int32) × zSt) :=
(zb (f_X9_isWithin σ l1 (0 : Int32) (1000000 : Int32)) (fun r2 => (if r2 = 0 then
(some (.inl 0, z_gr σ))
else
(if z_ob σ l0 8 then (zc (z_R σ l0 0) none (fun q4 => (if z_ob σ q4 2 then (zc (z_R σ q4 2) none (fun q7 => (if z_ob σ q7 4 then (zb (f_X4_touch σ q7 l1 l1) (fun r11 => (if z_bl r11 then (some (.inr r11, σ)) else none))) else none))) else none))) else none))))
set_option maxRecDepth 100000 in
def f_X9_visit (σ : zSt) (l0 : Nat) (l1 : Int32) (l2 : Int32) : Option ((Nat ⊕ Int32) × zSt) :=
(if z_ob σ l0 8 then (zc (z_R σ l0 0) none (fun q2 => (if z_ob σ q2 2 then (zb (f_X2_logLength σ q2) (fun r6 => (zb (f_X9_isWithin σ l1 (0 : Int32) (r6 - (1 : Int32))) (fun r8 => (if r8 = 0 then
(some (.inl 2, z_gr σ))
else
(zb (f_X9_isWithin σ l2 (0 : Int32) (3 : Int32)) (fun r10 => (if r10 = 0 then
(some (.inl 0, z_gr σ))
else
(zc (z_R σ l0 0) none (fun q11 => (if z_ob σ q11 2 then (zb (f_X2_logValue σ q11 l1 l2) (fun r15 => (some (.inr r15, σ)))) else none))))))))))) else none))) else none)
set_option maxRecDepth 100000 in
def f_X9_waitOf_50 (σ : zSt) : Option ((Nat ⊕ Int32) × zSt) :=
(some (.inl 1, z_gr σ))
set_option maxRecDepth 100000 in
def f_X9_waitOf_113 (σ : zSt) (l2 : Int32) : Option ((Nat ⊕ Int32) × zSt) :=
(some (.inr l2, σ))
set_option maxRecDepth 100000 in
def b_X9_waitOf_75 (l0 : Nat) (l1 : Int32) (σ : zSt) (l2 : Int32) (l3 : Int32) : Option ((zSt × Int32 × Int32) ⊕ ((Nat ⊕ Int32) × zSt)) :=
(if (300 : Int32) ≤ l3 then
(zex (f_X9_waitOf_113 σ l2))
else
(if l2 = (-1 : Int32) then
(if z_ob σ l0 8 then (zc (z_R σ l0 1) none (fun q4 => (zb (f_X8_makeVisit σ q4) (fun σ7 => (if z_ob σ7 l0 8 then (zc (z_R σ7 l0 1) none (fun q9 => (if z_ob σ7 q9 2 then (zc (z_R σ7 q9 1) none (fun q12 => (if z_ob σ7 q12 3 then (zb (f_X3_value σ7 q12 l1 (4 : Int32)) (fun r16 => (some (.inl (σ7, r16, (l3 + (1 : Int32))))))) else none))) else none))) else none))))) else none)
else
(zex (f_X9_waitOf_113 σ l2))))
set_option maxRecDepth 100000 in
def f_X9_waitOf_75 (l0 : Nat) (l1 : Int32) (σ : zSt) (l2 : Int32) (l3 : Int32) : Option ((Nat ⊕ Int32) × zSt) := zloop (fun (t : zSt × Int32 × Int32) => b_X9_waitOf_75 l0 l1 t.1 t.2.1 t.2.2) zN (σ, l2, l3)
set_option maxRecDepth 100000 in
def f_X9_waitOf (σ : zSt) (l0 : Nat) (l1 : Int32) : Option ((Nat ⊕ Int32) × zSt) :=
(if z_ob σ l0 8 then (zc (z_R σ l0 0) none (fun q2 => (if z_ob σ q2 2 then (zc (z_R σ q2 1) none (fun q5 => (if z_ob σ q5 3 then (zb (f_X3_has σ q5 l1) (fun r9 => (if r9 = 0 then
(some (.inl 2, z_gr σ))
else
(zc (z_R σ l0 0) none (fun q10 => (if z_ob σ q10 2 then (zc (z_R σ q10 1) none (fun q13 => (if z_ob σ q13 3 then (zb (f_X3_value σ q13 l1 (4 : Int32)) (fun r17 => (if r17 = (-1 : Int32) then
(zc (z_R σ l0 0) none (fun q18 => (if z_ob σ q18 2 then (zb (f_X2_isTooLate σ q18) (fun r22 => (if r22 = 0 then
(zc (z_R σ l0 1) none (fun q23 => (zc (z_R σ l0 0) none (fun q25 => (if z_ob σ q23 2 then (zb (f_X2_copyFrom σ q23 q25) (fun σ29 => (f_X9_waitOf_75 l0 l1 σ29 (-1 : Int32) (0 : Int32)))) else none)))))
else
(f_X9_waitOf_50 σ)))) else none)))
else
(f_X9_waitOf_50 σ)))) else none))) else none)))))) else none))) else none))) else none)
set_option maxRecDepth 100000 in
def f_X9_completeAfter_82 (σ : zSt) (s0 : Int32) : Option ((Nat ⊕ Int32) × zSt) :=
(some (.inr s0, σ))
set_option maxRecDepth 100000 in
def b_X9_completeAfter_33 (l0 : Nat) (σ : zSt) (l1 : Int32) : Option ((zSt × Int32) ⊕ ((Nat ⊕ Int32) × zSt)) :=
(if (300 : Int32) ≤ l1 then
(zex (if z_ob σ l0 8 then (zc (z_R σ l0 1) none (fun q2 => (if z_ob σ q2 2 then (zb (f_X2_isComplete σ q2) (fun r6 => (if r6 = 0 then
(f_X9_completeAfter_82 σ (-1 : Int32))
else
(f_X9_completeAfter_82 σ (300 : Int32))))) else none))) else none))
else
(if z_ob σ l0 8 then (zc (z_R σ l0 1) none (fun q9 => (if z_ob σ q9 2 then (zb (f_X2_isComplete σ q9) (fun r13 => (if r13 = 0 then
(zc (z_R σ l0 1) none (fun q14 => (zb (f_X8_makeVisit σ q14) (fun σ17 => (some (.inl (σ17, (l1 + (1 : Int32)))))))))
else
(zex (some (.inr l1, σ)))))) else none))) else none))
set_option maxRecDepth 100000 in
def f_X9_completeAfter_33 (l0 : Nat) (σ : zSt) (l1 : Int32) : Option ((Nat ⊕ Int32) × zSt) := zloop (fun (t : zSt × Int32) => b_X9_completeAfter_33 l0 t.1 t.2) zN (σ, l1)
set_option maxRecDepth 100000 in
def f_X9_completeAfter (σ : zSt) (l0 : Nat) : Option ((Nat ⊕ Int32) × zSt) :=
(if z_ob σ l0 8 then (zc (z_R σ l0 0) none (fun q2 => (if z_ob σ q2 2 then (zb (f_X2_isTooLate σ q2) (fun r6 => (if r6 = 0 then
(zc (z_R σ l0 1) none (fun q7 => (zc (z_R σ l0 0) none (fun q9 => (if z_ob σ q7 2 then (zb (f_X2_copyFrom σ q7 q9) (fun σ13 => (f_X9_completeAfter_33 l0 σ13 (0 : Int32)))) else none)))))
else
(some (.inl 1, z_gr σ))))) else none))) else none)
set_option maxRecDepth 100000 in
def b_X9_leastTarget_43 (l0 : Nat) (l1 : Int32) (σ : zSt) (l2 : Int32) : Option ((zSt × Int32) ⊕ ((Nat ⊕ Int32) × zSt)) :=
(if (400 : Int32) < l2 then
(zex (some (.inr (-1 : Int32), σ)))
else
(if z_ob σ l0 8 then (zb2 (f_X9_sendsAll σ l0 l2 l1) (fun r4 σ5 => (if r4 = 0 then
(some (.inl (σ5, (l2 + (20 : Int32)))))
else
(zex (some (.inr l2, σ5)))))) else none))
set_option maxRecDepth 100000 in
def f_X9_leastTarget_43 (l0 : Nat) (l1 : Int32) (σ : zSt) (l2 : Int32) : Option ((Nat ⊕ Int32) × zSt) := zloop (fun (t : zSt × Int32) => b_X9_leastTarget_43 l0 l1 t.1 t.2) zN (σ, l2)
set_option maxRecDepth 100000 in
def f_X9_leastTarget (σ : zSt) (l0 : Nat) (l1 : Int32) : Option ((Nat ⊕ Int32) × zSt) :=
(zb (f_X9_isWithin σ l1 (0 : Int32) (100 : Int32)) (fun r2 => (if r2 = 0 then
(some (.inl 0, z_gr σ))
else
(if z_ob σ l0 8 then (zc (z_R σ l0 0) none (fun q4 => (if z_ob σ q4 2 then (zb (f_X2_isTooLate σ q4) (fun r8 => (if r8 = 0 then
(f_X9_leastTarget_43 l0 l1 σ (20 : Int32))
else
(some (.inl 1, z_gr σ))))) else none))) else none))))
set_option maxRecDepth 100000 in
def f_X9_append (σ : zSt) (l0 : Nat) (l1 : Int32) : Option ((Nat ⊕ Int32) × zSt) :=
(zb (f_X9_isWithin σ l1 (0 : Int32) (127 : Int32)) (fun r2 => (if r2 = 0 then
(some (.inl 0, z_gr σ))
else
(if z_ob σ l0 8 then (zc (z_R σ l0 3) none (fun q4 => (if z_ar σ q4 1 then (zb (f_X9_isWithin σ (z_I σ l0 4) (0 : Int32) ((Int32.ofNat (z_ln σ q4)) - (1 : Int32))) (fun r8 => (if r8 = 0 then
(some (.inl 1, z_gr σ))
else
(zc (z_R σ l0 3) none (fun q9 => (if z_ar σ q9 1 then (if z_ix (z_I σ l0 4) (z_ln σ q9) then (zl (z_pI σ q9 (z_I σ l0 4).toNatClampNeg (vp_nar .byte l1.toInt8.toInt32)) (fun σ13 => (if z_ob σ13 l0 8 then (zl (z_pI σ13 l0 4 ((z_I σ13 l0 4) + (1 : Int32))) (fun σ16 => (if z_ob σ16 l0 8 then (some (.inr (z_I σ16 l0 4), σ16)) else none))) else none))) else none) else none)))))) else none))) else none))))
set_option maxRecDepth 100000 in
def f_X9_undo (σ : zSt) (l0 : Nat) : Option ((Nat ⊕ Int32) × zSt) :=
(if z_ob σ l0 8 then (zc (z_R σ l0 2) none (fun q2 => (if z_ob σ q2 1 then (if (z_I σ q2 1) = 0 then
(some (.inl 1, z_gr σ))
else
(zc (z_R σ l0 2) none (fun q5 => (zc (z_R σ l0 0) none (fun q7 => (if z_ob σ q5 1 then (zb (f_X1_restore σ q5 q7) (fun σ11 => (if z_ob σ11 l0 8 then (zc (z_R σ11 l0 2) none (fun q13 => (if z_ob σ11 q13 1 then (some (.inr (z_I σ11 q13 1), σ11)) else none))) else none))) else none)))))) else none))) else none)
set_option maxRecDepth 100000 in
def f_L_addStation (σ : zSt) (l0 : Nat) (l1 : Int32) (l2 : Nat) : Option (Int32 × zSt) :=
(if z_ob σ l0 8 then (zb2 (f_X9_addStation σ l0 l1) (fun r2 σ3 => (zx r2 (fun k => (if k = 0 then (some ((1 : Int32), σ3)) else (if k = 1 then (some ((2 : Int32), σ3)) else none))) (fun r9 => (if z_ar σ3 l2 2 then (if z_ix (0 : Int32) (z_ln σ3 l2) then (zl (z_pJ σ3 l2 (0 : Int32).toNatClampNeg r9.toInt64) (fun σ7 => (some ((0 : Int32), σ7)))) else none) else none))))) else none)
set_option maxRecDepth 100000 in
def f_L_setOn_16 (σ : zSt) (s0 : Int64) (s1 : Int32) (s2 : Option Nat) : Option (Int32 × zSt) :=
(zc s2 none (fun a1 => (if z_ar σ a1 2 then (if z_ix s1 (z_ln σ a1) then (zl (z_pJ σ a1 s1.toNatClampNeg s0) (fun σ5 => (some ((0 : Int32), σ5)))) else none) else none)))
set_option maxRecDepth 100000 in
def f_L_setOn (σ : zSt) (l0 : Nat) (l1 : Int32) (l2 : Int32) (l3 : Nat) : Option (Int32 × zSt) :=
(if z_ob σ l0 8 then (zb2 (f_X9_setOn σ l0 l1 l2) (fun r2 σ3 => (zx r2 (fun k => (if k = 3 then (some ((1 : Int32), σ3)) else none)) (fun r9 => (if r9 = 0 then
(f_L_setOn_16 σ3 (0 : Int64) (0 : Int32) (some l3))
else
(f_L_setOn_16 σ3 (1 : Int64) (0 : Int32) (some l3))))))) else none)
set_option maxRecDepth 100000 in
def f_L_setTimes (σ : zSt) (l0 : Nat) (l1 : Int32) (l2 : Int32) (l3 : Int32) (l4 : Nat) : Option (Int32 × zSt) :=
(if z_ob σ l0 8 then (zb2 (f_X9_setTimes σ l0 l1 l2 l3) (fun r2 σ3 => (zx r2 (fun k => (if k = 0 then (some ((1 : Int32), σ3)) else none)) (fun r9 => (if z_ar σ3 l4 2 then (if z_ix (0 : Int32) (z_ln σ3 l4) then (zl (z_pJ σ3 l4 (0 : Int32).toNatClampNeg r9.toInt64) (fun σ7 => (some ((0 : Int32), σ7)))) else none) else none))))) else none)
set_option maxRecDepth 100000 in
def f_L_give (σ : zSt) (l0 : Nat) (l1 : Int32) (l2 : Int32) (l3 : Int32) (l4 : Nat) : Option (Int32 × zSt) :=
(if z_ob σ l0 8 then (zb2 (f_X9_give σ l0 l1 l2 l3) (fun r2 σ3 => (zx r2 (fun k => (if k = 3 then (some ((1 : Int32), σ3)) else (if k = 0 then (some ((2 : Int32), σ3)) else (if k = 1 then (some ((3 : Int32), σ3)) else none)))) (fun r9 => (if z_ar σ3 l4 2 then (if z_ix (0 : Int32) (z_ln σ3 l4) then (zl (z_pJ σ3 l4 (0 : Int32).toNatClampNeg r9.toInt64) (fun σ7 => (some ((0 : Int32), σ7)))) else none) else none))))) else none)
set_option maxRecDepth 100000 in
def f_L_addNoise (σ : zSt) (l0 : Nat) (l1 : Int32) (l2 : Int32) (l3 : Nat) : Option (Int32 × zSt) :=
(if z_ob σ l0 8 then (zb2 (f_X9_addNoise σ l0 l1 l2) (fun r2 σ3 => (zx r2 (fun k => (if k = 0 then (some ((1 : Int32), σ3)) else (if k = 1 then (some ((2 : Int32), σ3)) else none))) (fun r9 => (if z_ar σ3 l3 2 then (if z_ix (0 : Int32) (z_ln σ3 l3) then (zl (z_pJ σ3 l3 (0 : Int32).toNatClampNeg r9.toInt64) (fun σ7 => (some ((0 : Int32), σ7)))) else none) else none))))) else none)
set_option maxRecDepth 100000 in
def f_L_run (σ : zSt) (l0 : Nat) (l1 : Int32) (l2 : Nat) : Option (Int32 × zSt) :=
(if z_ob σ l0 8 then (zb2 (f_X9_run σ l0 l1) (fun r2 σ3 => (zx r2 (fun k => (if k = 0 then (some ((1 : Int32), σ3)) else (if k = 1 then (some ((2 : Int32), σ3)) else none))) (fun r9 => (if z_ar σ3 l2 2 then (if z_ix (0 : Int32) (z_ln σ3 l2) then (zl (z_pJ σ3 l2 (0 : Int32).toNatClampNeg r9.toInt64) (fun σ7 => (some ((0 : Int32), σ7)))) else none) else none))))) else none)
set_option maxRecDepth 100000 in
def f_L_setting (σ : zSt) (l0 : Nat) (l1 : Int32) (l2 : Nat) : Option (Int32 × zSt) :=
(if z_ob σ l0 8 then (zb2 (f_X9_setting σ l0 l1) (fun r2 σ3 => (zx r2 (fun k => (if k = 0 then (some ((1 : Int32), σ3)) else none)) (fun r9 => (if z_ar σ3 l2 2 then (if z_ix (0 : Int32) (z_ln σ3 l2) then (zl (z_pJ σ3 l2 (0 : Int32).toNatClampNeg r9.toInt64) (fun σ7 => (some ((0 : Int32), σ7)))) else none) else none))))) else none)
set_option maxRecDepth 100000 in
def f_L_station (σ : zSt) (l0 : Nat) (l1 : Int32) (l2 : Int32) (l3 : Nat) : Option (Int32 × zSt) :=
(if z_ob σ l0 8 then (zb2 (f_X9_station σ l0 l1 l2) (fun r2 σ3 => (zx r2 (fun k => (if k = 3 then (some ((1 : Int32), σ3)) else (if k = 0 then (some ((2 : Int32), σ3)) else none))) (fun r9 => (if z_ar σ3 l3 2 then (if z_ix (0 : Int32) (z_ln σ3 l3) then (zl (z_pJ σ3 l3 (0 : Int32).toNatClampNeg r9.toInt64) (fun σ7 => (some ((0 : Int32), σ7)))) else none) else none))))) else none)
set_option maxRecDepth 100000 in
def f_L_addressAt (σ : zSt) (l0 : Nat) (l1 : Int32) (l2 : Nat) : Option (Int32 × zSt) :=
(if z_ob σ l0 8 then (zb2 (f_X9_addressAt σ l0 l1) (fun r2 σ3 => (zx r2 (fun k => (if k = 2 then (some ((1 : Int32), σ3)) else none)) (fun r9 => (if z_ar σ3 l2 2 then (if z_ix (0 : Int32) (z_ln σ3 l2) then (zl (z_pJ σ3 l2 (0 : Int32).toNatClampNeg r9.toInt64) (fun σ7 => (some ((0 : Int32), σ7)))) else none) else none))))) else none)
set_option maxRecDepth 100000 in
def f_L_queued (σ : zSt) (l0 : Nat) (l1 : Int32) (l2 : Int32) (l3 : Nat) : Option (Int32 × zSt) :=
(if z_ob σ l0 8 then (zb2 (f_X9_queued σ l0 l1 l2) (fun r2 σ3 => (zx r2 (fun k => (if k = 3 then (some ((1 : Int32), σ3)) else (if k = 2 then (some ((2 : Int32), σ3)) else none))) (fun r9 => (if z_ar σ3 l3 2 then (if z_ix (0 : Int32) (z_ln σ3 l3) then (zl (z_pJ σ3 l3 (0 : Int32).toNatClampNeg r9.toInt64) (fun σ7 => (some ((0 : Int32), σ7)))) else none) else none))))) else none)
set_option maxRecDepth 100000 in
def f_L_message (σ : zSt) (l0 : Nat) (l1 : Int32) (l2 : Int32) (l3 : Nat) : Option (Int32 × zSt) :=
(if z_ob σ l0 8 then (zb2 (f_X9_message σ l0 l1 l2) (fun r2 σ3 => (zx r2 (fun k => (if k = 2 then (some ((1 : Int32), σ3)) else (if k = 0 then (some ((2 : Int32), σ3)) else none))) (fun r9 => (if z_ar σ3 l3 2 then (if z_ix (0 : Int32) (z_ln σ3 l3) then (zl (z_pJ σ3 l3 (0 : Int32).toNatClampNeg r9.toInt64) (fun σ7 => (some ((0 : Int32), σ7)))) else none) else none))))) else none)
set_option maxRecDepth 100000 in
def f_L_count (σ : zSt) (l0 : Nat) (l1 : Int32) (l2 : Nat) : Option (Int32 × zSt) :=
(if z_ob σ l0 8 then (zb2 (f_X9_count σ l0 l1) (fun r2 σ3 => (zx r2 (fun k => (if k = 0 then (some ((1 : Int32), σ3)) else none)) (fun r9 => (if z_ar σ3 l2 2 then (if z_ix (0 : Int32) (z_ln σ3 l2) then (zl (z_pJ σ3 l2 (0 : Int32).toNatClampNeg r9.toInt64) (fun σ7 => (some ((0 : Int32), σ7)))) else none) else none))))) else none)
set_option maxRecDepth 100000 in
def f_L_isNoisy_15 (σ : zSt) (s0 : Int64) (s1 : Int32) (s2 : Option Nat) : Option (Int32 × zSt) :=
(zc s2 none (fun a1 => (if z_ar σ a1 2 then (if z_ix s1 (z_ln σ a1) then (zl (z_pJ σ a1 s1.toNatClampNeg s0) (fun σ5 => (some ((0 : Int32), σ5)))) else none) else none)))
set_option maxRecDepth 100000 in
def f_L_isNoisy (σ : zSt) (l0 : Nat) (l1 : Int32) (l2 : Nat) : Option (Int32 × zSt) :=
(if z_ob σ l0 8 then (zb2 (f_X9_isNoisy σ l0 l1) (fun r2 σ3 => (zx r2 (fun k => (if k = 0 then (some ((1 : Int32), σ3)) else none)) (fun r9 => (if r9 = 0 then
(f_L_isNoisy_15 σ3 (0 : Int64) (0 : Int32) (some l2))
else
(f_L_isNoisy_15 σ3 (1 : Int64) (0 : Int32) (some l2))))))) else none)
set_option maxRecDepth 100000 in
def f_L_visit (σ : zSt) (l0 : Nat) (l1 : Int32) (l2 : Int32) (l3 : Nat) : Option (Int32 × zSt) :=
(if z_ob σ l0 8 then (zb2 (f_X9_visit σ l0 l1 l2) (fun r2 σ3 => (zx r2 (fun k => (if k = 2 then (some ((1 : Int32), σ3)) else (if k = 0 then (some ((2 : Int32), σ3)) else none))) (fun r9 => (if z_ar σ3 l3 2 then (if z_ix (0 : Int32) (z_ln σ3 l3) then (zl (z_pJ σ3 l3 (0 : Int32).toNatClampNeg r9.toInt64) (fun σ7 => (some ((0 : Int32), σ7)))) else none) else none))))) else none)
set_option maxRecDepth 100000 in
def f_L_waitOf (σ : zSt) (l0 : Nat) (l1 : Int32) (l2 : Nat) : Option (Int32 × zSt) :=
(if z_ob σ l0 8 then (zb2 (f_X9_waitOf σ l0 l1) (fun r2 σ3 => (zx r2 (fun k => (if k = 2 then (some ((1 : Int32), σ3)) else (if k = 1 then (some ((2 : Int32), σ3)) else none))) (fun r9 => (if z_ar σ3 l2 2 then (if z_ix (0 : Int32) (z_ln σ3 l2) then (zl (z_pJ σ3 l2 (0 : Int32).toNatClampNeg r9.toInt64) (fun σ7 => (some ((0 : Int32), σ7)))) else none) else none))))) else none)
set_option maxRecDepth 100000 in
def f_L_completeAfter (σ : zSt) (l0 : Nat) (l1 : Nat) : Option (Int32 × zSt) :=
(if z_ob σ l0 8 then (zb2 (f_X9_completeAfter σ l0) (fun r2 σ3 => (zx r2 (fun k => (if k = 1 then (some ((1 : Int32), σ3)) else none)) (fun r9 => (if z_ar σ3 l1 2 then (if z_ix (0 : Int32) (z_ln σ3 l1) then (zl (z_pJ σ3 l1 (0 : Int32).toNatClampNeg r9.toInt64) (fun σ7 => (some ((0 : Int32), σ7)))) else none) else none))))) else none)
set_option maxRecDepth 100000 in
def f_L_leastTarget (σ : zSt) (l0 : Nat) (l1 : Int32) (l2 : Nat) : Option (Int32 × zSt) :=
(if z_ob σ l0 8 then (zb2 (f_X9_leastTarget σ l0 l1) (fun r2 σ3 => (zx r2 (fun k => (if k = 0 then (some ((1 : Int32), σ3)) else (if k = 1 then (some ((2 : Int32), σ3)) else none))) (fun r9 => (if z_ar σ3 l2 2 then (if z_ix (0 : Int32) (z_ln σ3 l2) then (zl (z_pJ σ3 l2 (0 : Int32).toNatClampNeg r9.toInt64) (fun σ7 => (some ((0 : Int32), σ7)))) else none) else none))))) else none)
set_option maxRecDepth 100000 in
def f_L_append (σ : zSt) (l0 : Nat) (l1 : Int32) (l2 : Nat) : Option (Int32 × zSt) :=
(if z_ob σ l0 8 then (zb2 (f_X9_append σ l0 l1) (fun r2 σ3 => (zx r2 (fun k => (if k = 0 then (some ((1 : Int32), σ3)) else (if k = 1 then (some ((2 : Int32), σ3)) else none))) (fun r9 => (if z_ar σ3 l2 2 then (if z_ix (0 : Int32) (z_ln σ3 l2) then (zl (z_pJ σ3 l2 (0 : Int32).toNatClampNeg r9.toInt64) (fun σ7 => (some ((0 : Int32), σ7)))) else none) else none))))) else none)
set_option maxRecDepth 100000 in
def f_L_undo (σ : zSt) (l0 : Nat) (l1 : Nat) : Option (Int32 × zSt) :=
(if z_ob σ l0 8 then (zb2 (f_X9_undo σ l0) (fun r2 σ3 => (zx r2 (fun k => (if k = 1 then (some ((1 : Int32), σ3)) else none)) (fun r9 => (if z_ar σ3 l1 2 then (if z_ix (0 : Int32) (z_ln σ3 l1) then (zl (z_pJ σ3 l1 (0 : Int32).toNatClampNeg r9.toInt64) (fun σ7 => (some ((0 : Int32), σ7)))) else none) else none))))) else none)
set_option maxRecDepth 100000 in
def f_L_law_1539 (xs : Nat → Int32) (L : Nat) (σ : zSt) (l1 : Nat) (l2 : Nat) (l3 : Nat) (l4 : Int32) : Option ((zSt × Int32) ⊕ (Int32)) :=
(some (.inl (σ, (l4 + (4 : Int32)))))
set_option maxRecDepth 100000 in
def f_L_law_213 (xs : Nat → Int32) (L : Nat) (σ : zSt) (l1 : Nat) (l2 : Nat) (l3 : Nat) (l4 : Int32) : Option ((zSt × Int32) ⊕ (Int32)) :=
(f_L_law_1539 xs L σ l1 l2 l3 l4)
set_option maxRecDepth 100000 in
def f_L_law_160 (xs : Nat → Int32) (L : Nat) (σ : zSt) (l1 : Nat) (l2 : Nat) (l3 : Nat) (l4 : Int32) : Option ((zSt × Int32) ⊕ (Int32)) :=
(if z_ix (l4 + (1 : Int32)) L then (zb2 (f_L_addStation σ l1 (xs (l4 + (1 : Int32)).toNatClampNeg) l3) (fun r3 σ4 => (if z_ix (l4 + (1 : Int32)) L then (if z_ob σ4 l2 9 then (zb2 (f_X10_addStation σ4 l2 (xs (l4 + (1 : Int32)).toNatClampNeg)) (fun r8 σ9 => (if z_ob σ9 l2 9 then (zb (f_X10_thrown σ9 l2) (fun r12 => (if r12 = r3 then
(if r3 = 0 then
(if z_ar σ9 l3 2 then (if z_ix (0 : Int32) (z_ln σ9 l3) then (if (lg_cmp (z_J σ9 l3 (0 : Int32).toNatClampNeg) r8.toInt64) = 0 then
(f_L_law_213 xs L σ9 l1 l2 l3 l4)
else
(zex (some (0 : Int32)))) else none) else none)
else
(f_L_law_213 xs L σ9 l1 l2 l3 l4))
else
(zex (some (0 : Int32)))))) else none))) else none) else none))) else none)
set_option maxRecDepth 100000 in
def f_L_law_304 (xs : Nat → Int32) (L : Nat) (σ : zSt) (l1 : Nat) (l2 : Nat) (l3 : Nat) (l4 : Int32) : Option ((zSt × Int32) ⊕ (Int32)) :=
(f_L_law_1539 xs L σ l1 l2 l3 l4)
set_option maxRecDepth 100000 in
def f_L_law_298 (xs : Nat → Int32) (L : Nat) (σ : zSt) (l1 : Nat) (l2 : Nat) (l3 : Nat) (l4 : Int32) (s0 : Int64) (s1 : Int64) : Option ((zSt × Int32) ⊕ (Int32)) :=
(if (lg_cmp s1 s0) = 0 then
(f_L_law_304 xs L σ l1 l2 l3 l4)
else
(zex (some (0 : Int32))))
set_option maxRecDepth 100000 in
def f_L_law_264 (xs : Nat → Int32) (L : Nat) (σ : zSt) (l1 : Nat) (l2 : Nat) (l3 : Nat) (l4 : Int32) (l5 : Int32) (s0 : Int32) (s1 : Int32) (s2 : Option Nat) : Option ((zSt × Int32) ⊕ (Int32)) :=
(zc s2 none (fun a1 => (if z_ob σ a1 9 then (zb2 (f_X10_setOn σ a1 s1 s0) (fun r5 σ6 => (if z_ob σ6 l2 9 then (zb (f_X10_thrown σ6 l2) (fun r9 => (if r9 = l5 then
(if l5 = 0 then
(if z_ar σ6 l3 2 then (if z_ix (0 : Int32) (z_ln σ6 l3) then (if r5 = 0 then
(f_L_law_298 xs L σ6 l1 l2 l3 l4 (0 : Int64) (z_J σ6 l3 (0 : Int32).toNatClampNeg))
else
(f_L_law_298 xs L σ6 l1 l2 l3 l4 (1 : Int64) (z_J σ6 l3 (0 : Int32).toNatClampNeg))) else none) else none)
else
(f_L_law_304 xs L σ6 l1 l2 l3 l4))
else
(zex (some (0 : Int32)))))) else none))) else none)))
set_option maxRecDepth 100000 in
def f_L_law_237 (xs : Nat → Int32) (L : Nat) (σ : zSt) (l1 : Nat) (l2 : Nat) (l3 : Nat) (l4 : Int32) (s0 : Int32) (s1 : Int32) (s2 : Option Nat) : Option ((zSt × Int32) ⊕ (Int32)) :=
(zc s2 none (fun a1 => (zb2 (f_L_setOn σ a1 s1 s0 l3) (fun r4 σ5 => (if z_ix (l4 + (1 : Int32)) L then (if z_ix (l4 + (2 : Int32)) L then (if (xs (l4 + (2 : Int32)).toNatClampNeg) = 0 then
(f_L_law_264 xs L σ5 l1 l2 l3 l4 r4 (0 : Int32) (xs (l4 + (1 : Int32)).toNatClampNeg) (some l2))
else
(f_L_law_264 xs L σ5 l1 l2 l3 l4 r4 (1 : Int32) (xs (l4 + (1 : Int32)).toNatClampNeg) (some l2))) else none) else none)))))
set_option maxRecDepth 100000 in
def f_L_law_216 (xs : Nat → Int32) (L : Nat) (σ : zSt) (l1 : Nat) (l2 : Nat) (l3 : Nat) (l4 : Int32) : Option ((zSt × Int32) ⊕ (Int32)) :=
(if z_ix (l4 + (1 : Int32)) L then (if z_ix (l4 + (2 : Int32)) L then (if (xs (l4 + (2 : Int32)).toNatClampNeg) = 0 then
(f_L_law_237 xs L σ l1 l2 l3 l4 (0 : Int32) (xs (l4 + (1 : Int32)).toNatClampNeg) (some l1))
else
(f_L_law_237 xs L σ l1 l2 l3 l4 (1 : Int32) (xs (l4 + (1 : Int32)).toNatClampNeg) (some l1))) else none) else none)
set_option maxRecDepth 100000 in
def f_L_law_384 (xs : Nat → Int32) (L : Nat) (σ : zSt) (l1 : Nat) (l2 : Nat) (l3 : Nat) (l4 : Int32) : Option ((zSt × Int32) ⊕ (Int32)) :=
(f_L_law_1539 xs L σ l1 l2 l3 l4)
set_option maxRecDepth 100000 in
def f_L_law_307 (xs : Nat → Int32) (L : Nat) (σ : zSt) (l1 : Nat) (l2 : Nat) (l3 : Nat) (l4 : Int32) : Option ((zSt × Int32) ⊕ (Int32)) :=
(if z_ix (l4 + (1 : Int32)) L then (if z_ix (l4 + (2 : Int32)) L then (if z_ix (l4 + (3 : Int32)) L then (zb2 (f_L_setTimes σ l1 (xs (l4 + (1 : Int32)).toNatClampNeg) (xs (l4 + (2 : Int32)).toNatClampNeg) (xs (l4 + (3 : Int32)).toNatClampNeg) l3) (fun r5 σ6 => (if z_ix (l4 + (1 : Int32)) L then (if z_ix (l4 + (2 : Int32)) L then (if z_ix (l4 + (3 : Int32)) L then (if z_ob σ6 l2 9 then (zb2 (f_X10_setTimes σ6 l2 (xs (l4 + (1 : Int32)).toNatClampNeg) (xs (l4 + (2 : Int32)).toNatClampNeg) (xs (l4 + (3 : Int32)).toNatClampNeg)) (fun r12 σ13 => (if z_ob σ13 l2 9 then (zb (f_X10_thrown σ13 l2) (fun r16 => (if r16 = r5 then
(if r5 = 0 then
(if z_ar σ13 l3 2 then (if z_ix (0 : Int32) (z_ln σ13 l3) then (if (lg_cmp (z_J σ13 l3 (0 : Int32).toNatClampNeg) r12.toInt64) = 0 then
(f_L_law_384 xs L σ13 l1 l2 l3 l4)
else
(zex (some (0 : Int32)))) else none) else none)
else
(f_L_law_384 xs L σ13 l1 l2 l3 l4))
else
(zex (some (0 : Int32)))))) else none))) else none) else none) else none) else none))) else none) else none) else none)
set_option maxRecDepth 100000 in
def f_L_law_464 (xs : Nat → Int32) (L : Nat) (σ : zSt) (l1 : Nat) (l2 : Nat) (l3 : Nat) (l4 : Int32) : Option ((zSt × Int32) ⊕ (Int32)) :=
(f_L_law_1539 xs L σ l1 l2 l3 l4)
set_option maxRecDepth 100000 in
def f_L_law_387 (xs : Nat → Int32) (L : Nat) (σ : zSt) (l1 : Nat) (l2 : Nat) (l3 : Nat) (l4 : Int32) : Option ((zSt × Int32) ⊕ (Int32)) :=
(if z_ix (l4 + (1 : Int32)) L then (if z_ix (l4 + (2 : Int32)) L then (if z_ix (l4 + (3 : Int32)) L then (zb2 (f_L_give σ l1 (xs (l4 + (1 : Int32)).toNatClampNeg) (xs (l4 + (2 : Int32)).toNatClampNeg) (xs (l4 + (3 : Int32)).toNatClampNeg) l3) (fun r5 σ6 => (if z_ix (l4 + (1 : Int32)) L then (if z_ix (l4 + (2 : Int32)) L then (if z_ix (l4 + (3 : Int32)) L then (if z_ob σ6 l2 9 then (zb2 (f_X10_give σ6 l2 (xs (l4 + (1 : Int32)).toNatClampNeg) (xs (l4 + (2 : Int32)).toNatClampNeg) (xs (l4 + (3 : Int32)).toNatClampNeg)) (fun r12 σ13 => (if z_ob σ13 l2 9 then (zb (f_X10_thrown σ13 l2) (fun r16 => (if r16 = r5 then
(if r5 = 0 then
(if z_ar σ13 l3 2 then (if z_ix (0 : Int32) (z_ln σ13 l3) then (if (lg_cmp (z_J σ13 l3 (0 : Int32).toNatClampNeg) r12.toInt64) = 0 then
(f_L_law_464 xs L σ13 l1 l2 l3 l4)
else
(zex (some (0 : Int32)))) else none) else none)
else
(f_L_law_464 xs L σ13 l1 l2 l3 l4))
else
(zex (some (0 : Int32)))))) else none))) else none) else none) else none) else none))) else none) else none) else none)
set_option maxRecDepth 100000 in
def f_L_law_532 (xs : Nat → Int32) (L : Nat) (σ : zSt) (l1 : Nat) (l2 : Nat) (l3 : Nat) (l4 : Int32) : Option ((zSt × Int32) ⊕ (Int32)) :=
(f_L_law_1539 xs L σ l1 l2 l3 l4)
set_option maxRecDepth 100000 in
def f_L_law_467 (xs : Nat → Int32) (L : Nat) (σ : zSt) (l1 : Nat) (l2 : Nat) (l3 : Nat) (l4 : Int32) : Option ((zSt × Int32) ⊕ (Int32)) :=
(if z_ix (l4 + (1 : Int32)) L then (if z_ix (l4 + (2 : Int32)) L then (zb2 (f_L_addNoise σ l1 (xs (l4 + (1 : Int32)).toNatClampNeg) (xs (l4 + (2 : Int32)).toNatClampNeg) l3) (fun r4 σ5 => (if z_ix (l4 + (1 : Int32)) L then (if z_ix (l4 + (2 : Int32)) L then (if z_ob σ5 l2 9 then (zb2 (f_X10_addNoise σ5 l2 (xs (l4 + (1 : Int32)).toNatClampNeg) (xs (l4 + (2 : Int32)).toNatClampNeg)) (fun r10 σ11 => (if z_ob σ11 l2 9 then (zb (f_X10_thrown σ11 l2) (fun r14 => (if r14 = r4 then
(if r4 = 0 then
(if z_ar σ11 l3 2 then (if z_ix (0 : Int32) (z_ln σ11 l3) then (if (lg_cmp (z_J σ11 l3 (0 : Int32).toNatClampNeg) r10.toInt64) = 0 then
(f_L_law_532 xs L σ11 l1 l2 l3 l4)
else
(zex (some (0 : Int32)))) else none) else none)
else
(f_L_law_532 xs L σ11 l1 l2 l3 l4))
else
(zex (some (0 : Int32)))))) else none))) else none) else none) else none))) else none) else none)
set_option maxRecDepth 100000 in
def f_L_law_588 (xs : Nat → Int32) (L : Nat) (σ : zSt) (l1 : Nat) (l2 : Nat) (l3 : Nat) (l4 : Int32) : Option ((zSt × Int32) ⊕ (Int32)) :=
(f_L_law_1539 xs L σ l1 l2 l3 l4)
set_option maxRecDepth 100000 in
def f_L_law_535 (xs : Nat → Int32) (L : Nat) (σ : zSt) (l1 : Nat) (l2 : Nat) (l3 : Nat) (l4 : Int32) : Option ((zSt × Int32) ⊕ (Int32)) :=
(if z_ix (l4 + (1 : Int32)) L then (zb2 (f_L_run σ l1 (xs (l4 + (1 : Int32)).toNatClampNeg) l3) (fun r3 σ4 => (if z_ix (l4 + (1 : Int32)) L then (if z_ob σ4 l2 9 then (zb2 (f_X10_run σ4 l2 (xs (l4 + (1 : Int32)).toNatClampNeg)) (fun r8 σ9 => (if z_ob σ9 l2 9 then (zb (f_X10_thrown σ9 l2) (fun r12 => (if r12 = r3 then
(if r3 = 0 then
(if z_ar σ9 l3 2 then (if z_ix (0 : Int32) (z_ln σ9 l3) then (if (lg_cmp (z_J σ9 l3 (0 : Int32).toNatClampNeg) r8.toInt64) = 0 then
(f_L_law_588 xs L σ9 l1 l2 l3 l4)
else
(zex (some (0 : Int32)))) else none) else none)
else
(f_L_law_588 xs L σ9 l1 l2 l3 l4))
else
(zex (some (0 : Int32)))))) else none))) else none) else none))) else none)
set_option maxRecDepth 100000 in
def f_L_law_591 (xs : Nat → Int32) (L : Nat) (σ : zSt) (l1 : Nat) (l2 : Nat) (l3 : Nat) (l4 : Int32) : Option ((zSt × Int32) ⊕ (Int32)) :=
(if z_ob σ l1 8 then (zb2 (f_X9_loseToken σ l1) (fun r3 σ4 => (if z_ob σ4 l2 9 then (zb2 (f_X10_loseToken σ4 l2) (fun r7 σ8 => (if r3 = r7 then
(f_L_law_1539 xs L σ8 l1 l2 l3 l4)
else
(zex (some (0 : Int32)))))) else none))) else none)
set_option maxRecDepth 100000 in
def f_L_law_657 (xs : Nat → Int32) (L : Nat) (σ : zSt) (l1 : Nat) (l2 : Nat) (l3 : Nat) (l4 : Int32) : Option ((zSt × Int32) ⊕ (Int32)) :=
(f_L_law_1539 xs L σ l1 l2 l3 l4)
set_option maxRecDepth 100000 in
def f_L_law_604 (xs : Nat → Int32) (L : Nat) (σ : zSt) (l1 : Nat) (l2 : Nat) (l3 : Nat) (l4 : Int32) : Option ((zSt × Int32) ⊕ (Int32)) :=
(if z_ix (l4 + (1 : Int32)) L then (zb2 (f_L_setting σ l1 (xs (l4 + (1 : Int32)).toNatClampNeg) l3) (fun r3 σ4 => (if z_ix (l4 + (1 : Int32)) L then (if z_ob σ4 l2 9 then (zb2 (f_X10_setting σ4 l2 (xs (l4 + (1 : Int32)).toNatClampNeg)) (fun r8 σ9 => (if z_ob σ9 l2 9 then (zb (f_X10_thrown σ9 l2) (fun r12 => (if r12 = r3 then
(if r3 = 0 then
(if z_ar σ9 l3 2 then (if z_ix (0 : Int32) (z_ln σ9 l3) then (if (lg_cmp (z_J σ9 l3 (0 : Int32).toNatClampNeg) r8.toInt64) = 0 then
(f_L_law_657 xs L σ9 l1 l2 l3 l4)
else
(zex (some (0 : Int32)))) else none) else none)
else
(f_L_law_657 xs L σ9 l1 l2 l3 l4))
else
(zex (some (0 : Int32)))))) else none))) else none) else none))) else none)
set_option maxRecDepth 100000 in
def f_L_law_725 (xs : Nat → Int32) (L : Nat) (σ : zSt) (l1 : Nat) (l2 : Nat) (l3 : Nat) (l4 : Int32) : Option ((zSt × Int32) ⊕ (Int32)) :=
(f_L_law_1539 xs L σ l1 l2 l3 l4)
set_option maxRecDepth 100000 in
def f_L_law_660 (xs : Nat → Int32) (L : Nat) (σ : zSt) (l1 : Nat) (l2 : Nat) (l3 : Nat) (l4 : Int32) : Option ((zSt × Int32) ⊕ (Int32)) :=
(if z_ix (l4 + (1 : Int32)) L then (if z_ix (l4 + (2 : Int32)) L then (zb2 (f_L_station σ l1 (xs (l4 + (1 : Int32)).toNatClampNeg) (xs (l4 + (2 : Int32)).toNatClampNeg) l3) (fun r4 σ5 => (if z_ix (l4 + (1 : Int32)) L then (if z_ix (l4 + (2 : Int32)) L then (if z_ob σ5 l2 9 then (zb2 (f_X10_station σ5 l2 (xs (l4 + (1 : Int32)).toNatClampNeg) (xs (l4 + (2 : Int32)).toNatClampNeg)) (fun r10 σ11 => (if z_ob σ11 l2 9 then (zb (f_X10_thrown σ11 l2) (fun r14 => (if r14 = r4 then
(if r4 = 0 then
(if z_ar σ11 l3 2 then (if z_ix (0 : Int32) (z_ln σ11 l3) then (if (lg_cmp (z_J σ11 l3 (0 : Int32).toNatClampNeg) r10.toInt64) = 0 then
(f_L_law_725 xs L σ11 l1 l2 l3 l4)
else
(zex (some (0 : Int32)))) else none) else none)
else
(f_L_law_725 xs L σ11 l1 l2 l3 l4))
else
(zex (some (0 : Int32)))))) else none))) else none) else none) else none))) else none) else none)
set_option maxRecDepth 100000 in
def f_L_law_781 (xs : Nat → Int32) (L : Nat) (σ : zSt) (l1 : Nat) (l2 : Nat) (l3 : Nat) (l4 : Int32) : Option ((zSt × Int32) ⊕ (Int32)) :=
(f_L_law_1539 xs L σ l1 l2 l3 l4)
set_option maxRecDepth 100000 in
def f_L_law_728 (xs : Nat → Int32) (L : Nat) (σ : zSt) (l1 : Nat) (l2 : Nat) (l3 : Nat) (l4 : Int32) : Option ((zSt × Int32) ⊕ (Int32)) :=
(if z_ix (l4 + (1 : Int32)) L then (zb2 (f_L_addressAt σ l1 (xs (l4 + (1 : Int32)).toNatClampNeg) l3) (fun r3 σ4 => (if z_ix (l4 + (1 : Int32)) L then (if z_ob σ4 l2 9 then (zb2 (f_X10_addressAt σ4 l2 (xs (l4 + (1 : Int32)).toNatClampNeg)) (fun r8 σ9 => (if z_ob σ9 l2 9 then (zb (f_X10_thrown σ9 l2) (fun r12 => (if r12 = r3 then
(if r3 = 0 then
(if z_ar σ9 l3 2 then (if z_ix (0 : Int32) (z_ln σ9 l3) then (if (lg_cmp (z_J σ9 l3 (0 : Int32).toNatClampNeg) r8.toInt64) = 0 then
(f_L_law_781 xs L σ9 l1 l2 l3 l4)
else
(zex (some (0 : Int32)))) else none) else none)
else
(f_L_law_781 xs L σ9 l1 l2 l3 l4))
else
(zex (some (0 : Int32)))))) else none))) else none) else none))) else none)
set_option maxRecDepth 100000 in
def f_L_law_849 (xs : Nat → Int32) (L : Nat) (σ : zSt) (l1 : Nat) (l2 : Nat) (l3 : Nat) (l4 : Int32) : Option ((zSt × Int32) ⊕ (Int32)) :=
(f_L_law_1539 xs L σ l1 l2 l3 l4)
set_option maxRecDepth 100000 in
def f_L_law_784 (xs : Nat → Int32) (L : Nat) (σ : zSt) (l1 : Nat) (l2 : Nat) (l3 : Nat) (l4 : Int32) : Option ((zSt × Int32) ⊕ (Int32)) :=
(if z_ix (l4 + (1 : Int32)) L then (if z_ix (l4 + (2 : Int32)) L then (zb2 (f_L_queued σ l1 (xs (l4 + (1 : Int32)).toNatClampNeg) (xs (l4 + (2 : Int32)).toNatClampNeg) l3) (fun r4 σ5 => (if z_ix (l4 + (1 : Int32)) L then (if z_ix (l4 + (2 : Int32)) L then (if z_ob σ5 l2 9 then (zb2 (f_X10_queued σ5 l2 (xs (l4 + (1 : Int32)).toNatClampNeg) (xs (l4 + (2 : Int32)).toNatClampNeg)) (fun r10 σ11 => (if z_ob σ11 l2 9 then (zb (f_X10_thrown σ11 l2) (fun r14 => (if r14 = r4 then
(if r4 = 0 then
(if z_ar σ11 l3 2 then (if z_ix (0 : Int32) (z_ln σ11 l3) then (if (lg_cmp (z_J σ11 l3 (0 : Int32).toNatClampNeg) r10.toInt64) = 0 then
(f_L_law_849 xs L σ11 l1 l2 l3 l4)
else
(zex (some (0 : Int32)))) else none) else none)
else
(f_L_law_849 xs L σ11 l1 l2 l3 l4))
else
(zex (some (0 : Int32)))))) else none))) else none) else none) else none))) else none) else none)
set_option maxRecDepth 100000 in
def f_L_law_917 (xs : Nat → Int32) (L : Nat) (σ : zSt) (l1 : Nat) (l2 : Nat) (l3 : Nat) (l4 : Int32) : Option ((zSt × Int32) ⊕ (Int32)) :=
(f_L_law_1539 xs L σ l1 l2 l3 l4)
set_option maxRecDepth 100000 in
def f_L_law_852 (xs : Nat → Int32) (L : Nat) (σ : zSt) (l1 : Nat) (l2 : Nat) (l3 : Nat) (l4 : Int32) : Option ((zSt × Int32) ⊕ (Int32)) :=
(if z_ix (l4 + (1 : Int32)) L then (if z_ix (l4 + (2 : Int32)) L then (zb2 (f_L_message σ l1 (xs (l4 + (1 : Int32)).toNatClampNeg) (xs (l4 + (2 : Int32)).toNatClampNeg) l3) (fun r4 σ5 => (if z_ix (l4 + (1 : Int32)) L then (if z_ix (l4 + (2 : Int32)) L then (if z_ob σ5 l2 9 then (zb2 (f_X10_message σ5 l2 (xs (l4 + (1 : Int32)).toNatClampNeg) (xs (l4 + (2 : Int32)).toNatClampNeg)) (fun r10 σ11 => (if z_ob σ11 l2 9 then (zb (f_X10_thrown σ11 l2) (fun r14 => (if r14 = r4 then
(if r4 = 0 then
(if z_ar σ11 l3 2 then (if z_ix (0 : Int32) (z_ln σ11 l3) then (if (lg_cmp (z_J σ11 l3 (0 : Int32).toNatClampNeg) r10.toInt64) = 0 then
(f_L_law_917 xs L σ11 l1 l2 l3 l4)
else
(zex (some (0 : Int32)))) else none) else none)
else
(f_L_law_917 xs L σ11 l1 l2 l3 l4))
else
(zex (some (0 : Int32)))))) else none))) else none) else none) else none))) else none) else none)
set_option maxRecDepth 100000 in
def f_L_law_973 (xs : Nat → Int32) (L : Nat) (σ : zSt) (l1 : Nat) (l2 : Nat) (l3 : Nat) (l4 : Int32) : Option ((zSt × Int32) ⊕ (Int32)) :=
(f_L_law_1539 xs L σ l1 l2 l3 l4)
set_option maxRecDepth 100000 in
def f_L_law_920 (xs : Nat → Int32) (L : Nat) (σ : zSt) (l1 : Nat) (l2 : Nat) (l3 : Nat) (l4 : Int32) : Option ((zSt × Int32) ⊕ (Int32)) :=
(if z_ix (l4 + (1 : Int32)) L then (zb2 (f_L_count σ l1 (xs (l4 + (1 : Int32)).toNatClampNeg) l3) (fun r3 σ4 => (if z_ix (l4 + (1 : Int32)) L then (if z_ob σ4 l2 9 then (zb2 (f_X10_count σ4 l2 (xs (l4 + (1 : Int32)).toNatClampNeg)) (fun r8 σ9 => (if z_ob σ9 l2 9 then (zb (f_X10_thrown σ9 l2) (fun r12 => (if r12 = r3 then
(if r3 = 0 then
(if z_ar σ9 l3 2 then (if z_ix (0 : Int32) (z_ln σ9 l3) then (if (lg_cmp (z_J σ9 l3 (0 : Int32).toNatClampNeg) r8.toInt64) = 0 then
(f_L_law_973 xs L σ9 l1 l2 l3 l4)
else
(zex (some (0 : Int32)))) else none) else none)
else
(f_L_law_973 xs L σ9 l1 l2 l3 l4))
else
(zex (some (0 : Int32)))))) else none))) else none) else none))) else none)
set_option maxRecDepth 100000 in
def f_L_law_1036 (xs : Nat → Int32) (L : Nat) (σ : zSt) (l1 : Nat) (l2 : Nat) (l3 : Nat) (l4 : Int32) : Option ((zSt × Int32) ⊕ (Int32)) :=
(f_L_law_1539 xs L σ l1 l2 l3 l4)
set_option maxRecDepth 100000 in
def f_L_law_1030 (xs : Nat → Int32) (L : Nat) (σ : zSt) (l1 : Nat) (l2 : Nat) (l3 : Nat) (l4 : Int32) (s0 : Int64) (s1 : Int64) : Option ((zSt × Int32) ⊕ (Int32)) :=
(if (lg_cmp s1 s0) = 0 then
(f_L_law_1036 xs L σ l1 l2 l3 l4)
else
(zex (some (0 : Int32))))
set_option maxRecDepth 100000 in
def f_L_law_976 (xs : Nat → Int32) (L : Nat) (σ : zSt) (l1 : Nat) (l2 : Nat) (l3 : Nat) (l4 : Int32) : Option ((zSt × Int32) ⊕ (Int32)) :=
(if z_ix (l4 + (1 : Int32)) L then (zb2 (f_L_isNoisy σ l1 (xs (l4 + (1 : Int32)).toNatClampNeg) l3) (fun r3 σ4 => (if z_ix (l4 + (1 : Int32)) L then (if z_ob σ4 l2 9 then (zb2 (f_X10_isNoisy σ4 l2 (xs (l4 + (1 : Int32)).toNatClampNeg)) (fun r8 σ9 => (if z_ob σ9 l2 9 then (zb (f_X10_thrown σ9 l2) (fun r12 => (if r12 = r3 then
(if r3 = 0 then
(if z_ar σ9 l3 2 then (if z_ix (0 : Int32) (z_ln σ9 l3) then (if r8 = 0 then
(f_L_law_1030 xs L σ9 l1 l2 l3 l4 (0 : Int64) (z_J σ9 l3 (0 : Int32).toNatClampNeg))
else
(f_L_law_1030 xs L σ9 l1 l2 l3 l4 (1 : Int64) (z_J σ9 l3 (0 : Int32).toNatClampNeg))) else none) else none)
else
(f_L_law_1036 xs L σ9 l1 l2 l3 l4))
else
(zex (some (0 : Int32)))))) else none))) else none) else none))) else none)
set_option maxRecDepth 100000 in
def f_L_law_1039 (xs : Nat → Int32) (L : Nat) (σ : zSt) (l1 : Nat) (l2 : Nat) (l3 : Nat) (l4 : Int32) : Option ((zSt × Int32) ⊕ (Int32)) :=
(if z_ob σ l1 8 then (zb (f_X9_logged σ l1) (fun r3 => (if z_ob σ l2 9 then (zb2 (f_X10_logged σ l2) (fun r6 σ7 => (if r3 = r6 then
(f_L_law_1539 xs L σ7 l1 l2 l3 l4)
else
(zex (some (0 : Int32)))))) else none))) else none)
set_option maxRecDepth 100000 in
def f_L_law_1117 (xs : Nat → Int32) (L : Nat) (σ : zSt) (l1 : Nat) (l2 : Nat) (l3 : Nat) (l4 : Int32) : Option ((zSt × Int32) ⊕ (Int32)) :=
(f_L_law_1539 xs L σ l1 l2 l3 l4)
set_option maxRecDepth 100000 in
def f_L_law_1052 (xs : Nat → Int32) (L : Nat) (σ : zSt) (l1 : Nat) (l2 : Nat) (l3 : Nat) (l4 : Int32) : Option ((zSt × Int32) ⊕ (Int32)) :=
(if z_ix (l4 + (1 : Int32)) L then (if z_ix (l4 + (2 : Int32)) L then (zb2 (f_L_visit σ l1 (xs (l4 + (1 : Int32)).toNatClampNeg) (xs (l4 + (2 : Int32)).toNatClampNeg) l3) (fun r4 σ5 => (if z_ix (l4 + (1 : Int32)) L then (if z_ix (l4 + (2 : Int32)) L then (if z_ob σ5 l2 9 then (zb2 (f_X10_visit σ5 l2 (xs (l4 + (1 : Int32)).toNatClampNeg) (xs (l4 + (2 : Int32)).toNatClampNeg)) (fun r10 σ11 => (if z_ob σ11 l2 9 then (zb (f_X10_thrown σ11 l2) (fun r14 => (if r14 = r4 then
(if r4 = 0 then
(if z_ar σ11 l3 2 then (if z_ix (0 : Int32) (z_ln σ11 l3) then (if (lg_cmp (z_J σ11 l3 (0 : Int32).toNatClampNeg) r10.toInt64) = 0 then
(f_L_law_1117 xs L σ11 l1 l2 l3 l4)
else
(zex (some (0 : Int32)))) else none) else none)
else
(f_L_law_1117 xs L σ11 l1 l2 l3 l4))
else
(zex (some (0 : Int32)))))) else none))) else none) else none) else none))) else none) else none)
set_option maxRecDepth 100000 in
def f_L_law_1120 (xs : Nat → Int32) (L : Nat) (σ : zSt) (l1 : Nat) (l2 : Nat) (l3 : Nat) (l4 : Int32) : Option ((zSt × Int32) ⊕ (Int32)) :=
(if z_ob σ l1 8 then (zb (f_X9_greatestRotation σ l1) (fun r3 => (if z_ob σ l2 9 then (zb2 (f_X10_greatestRotation σ l2) (fun r6 σ7 => (if r3 = r6 then
(f_L_law_1539 xs L σ7 l1 l2 l3 l4)
else
(zex (some (0 : Int32)))))) else none))) else none)
set_option maxRecDepth 100000 in
def f_L_law_1199 (xs : Nat → Int32) (L : Nat) (σ : zSt) (l1 : Nat) (l2 : Nat) (l3 : Nat) (l4 : Int32) : Option ((zSt × Int32) ⊕ (Int32)) :=
(f_L_law_1539 xs L σ l1 l2 l3 l4)
set_option maxRecDepth 100000 in
def f_L_law_1197 (xs : Nat → Int32) (L : Nat) (σ : zSt) : Option (Int32) :=
(some (0 : Int32))
set_option maxRecDepth 100000 in
def f_L_law_1168 (xs : Nat → Int32) (L : Nat) (σ : zSt) (l1 : Nat) (l2 : Nat) (l3 : Nat) (l4 : Int32) (l5 : UInt64) (s0 : Int32) (s1 : Option Nat) : Option ((zSt × Int32) ⊕ (Int32)) :=
(zc s1 none (fun a1 => (if z_ob σ a1 9 then (zb2 (f_X10_waits σ a1 s0) (fun r5 σ6 => (if (Op.cmpValue (FP.dcmp l5 r5) .l) = 0 then
(f_L_law_1199 xs L σ6 l1 l2 l3 l4)
else
(if (Op.cmpValue (FP.dcmp l5 l5) .l) = 0 then
(zex (f_L_law_1197 xs L σ6))
else
(if (Op.cmpValue (FP.dcmp r5 r5) .l) = 0 then
(zex (f_L_law_1197 xs L σ6))
else
(f_L_law_1199 xs L σ6 l1 l2 l3 l4)))))) else none)))
set_option maxRecDepth 100000 in
def f_L_law_1148 (xs : Nat → Int32) (L : Nat) (σ : zSt) (l1 : Nat) (l2 : Nat) (l3 : Nat) (l4 : Int32) (s0 : Int32) (s1 : Option Nat) : Option ((zSt × Int32) ⊕ (Int32)) :=
(zc s1 none (fun a1 => (if z_ob σ a1 8 then (zb (f_X9_waits σ a1 s0) (fun r5 => (if z_ix (l4 + (1 : Int32)) L then (if (xs (l4 + (1 : Int32)).toNatClampNeg) = 0 then
(f_L_law_1168 xs L σ l1 l2 l3 l4 r5 (0 : Int32) (some l2))
else
(f_L_law_1168 xs L σ l1 l2 l3 l4 r5 (1 : Int32) (some l2))) else none))) else none)))
set_option maxRecDepth 100000 in
def f_L_law_1133 (xs : Nat → Int32) (L : Nat) (σ : zSt) (l1 : Nat) (l2 : Nat) (l3 : Nat) (l4 : Int32) : Option ((zSt × Int32) ⊕ (Int32)) :=
(if z_ix (l4 + (1 : Int32)) L then (if (xs (l4 + (1 : Int32)).toNatClampNeg) = 0 then
(f_L_law_1148 xs L σ l1 l2 l3 l4 (0 : Int32) (some l1))
else
(f_L_law_1148 xs L σ l1 l2 l3 l4 (1 : Int32) (some l1))) else none)
set_option maxRecDepth 100000 in
def f_L_law_1240 (xs : Nat → Int32) (L : Nat) (σ : zSt) (l1 : Nat) (l2 : Nat) (l3 : Nat) (l4 : Int32) : Option ((zSt × Int32) ⊕ (Int32)) :=
(f_L_law_1539 xs L σ l1 l2 l3 l4)
set_option maxRecDepth 100000 in
def f_L_law_1238 (xs : Nat → Int32) (L : Nat) (σ : zSt) : Option (Int32) :=
(some (0 : Int32))
set_option maxRecDepth 100000 in
def f_L_law_1202 (xs : Nat → Int32) (L : Nat) (σ : zSt) (l1 : Nat) (l2 : Nat) (l3 : Nat) (l4 : Int32) : Option ((zSt × Int32) ⊕ (Int32)) :=
(if z_ob σ l1 8 then (zb (f_X9_use σ l1) (fun r3 => (if z_ob σ l2 9 then (zb2 (f_X10_use σ l2) (fun r6 σ7 => (if (Op.cmpValue (FP.dcmp r3 r6) .l) = 0 then
(f_L_law_1240 xs L σ7 l1 l2 l3 l4)
else
(if (Op.cmpValue (FP.dcmp r3 r3) .l) = 0 then
(zex (f_L_law_1238 xs L σ7))
else
(if (Op.cmpValue (FP.dcmp r6 r6) .l) = 0 then
(zex (f_L_law_1238 xs L σ7))
else
(f_L_law_1240 xs L σ7 l1 l2 l3 l4)))))) else none))) else none)
set_option maxRecDepth 100000 in
def f_L_law_1296 (xs : Nat → Int32) (L : Nat) (σ : zSt) (l1 : Nat) (l2 : Nat) (l3 : Nat) (l4 : Int32) : Option ((zSt × Int32) ⊕ (Int32)) :=
(f_L_law_1539 xs L σ l1 l2 l3 l4)
set_option maxRecDepth 100000 in
def f_L_law_1243 (xs : Nat → Int32) (L : Nat) (σ : zSt) (l1 : Nat) (l2 : Nat) (l3 : Nat) (l4 : Int32) : Option ((zSt × Int32) ⊕ (Int32)) :=
(if z_ix (l4 + (1 : Int32)) L then (zb2 (f_L_waitOf σ l1 (xs (l4 + (1 : Int32)).toNatClampNeg) l3) (fun r3 σ4 => (if z_ix (l4 + (1 : Int32)) L then (if z_ob σ4 l2 9 then (zb2 (f_X10_waitOf σ4 l2 (xs (l4 + (1 : Int32)).toNatClampNeg)) (fun r8 σ9 => (if z_ob σ9 l2 9 then (zb (f_X10_thrown σ9 l2) (fun r12 => (if r12 = r3 then
(if r3 = 0 then
(if z_ar σ9 l3 2 then (if z_ix (0 : Int32) (z_ln σ9 l3) then (if (lg_cmp (z_J σ9 l3 (0 : Int32).toNatClampNeg) r8.toInt64) = 0 then
(f_L_law_1296 xs L σ9 l1 l2 l3 l4)
else
(zex (some (0 : Int32)))) else none) else none)
else
(f_L_law_1296 xs L σ9 l1 l2 l3 l4))
else
(zex (some (0 : Int32)))))) else none))) else none) else none))) else none)
set_option maxRecDepth 100000 in
def f_L_law_1340 (xs : Nat → Int32) (L : Nat) (σ : zSt) (l1 : Nat) (l2 : Nat) (l3 : Nat) (l4 : Int32) : Option ((zSt × Int32) ⊕ (Int32)) :=
(f_L_law_1539 xs L σ l1 l2 l3 l4)
set_option maxRecDepth 100000 in
def f_L_law_1299 (xs : Nat → Int32) (L : Nat) (σ : zSt) (l1 : Nat) (l2 : Nat) (l3 : Nat) (l4 : Int32) : Option ((zSt × Int32) ⊕ (Int32)) :=
(zb2 (f_L_completeAfter σ l1 l3) (fun r2 σ3 => (if z_ob σ3 l2 9 then (zb2 (f_X10_completeAfter σ3 l2) (fun r6 σ7 => (if z_ob σ7 l2 9 then (zb (f_X10_thrown σ7 l2) (fun r10 => (if r10 = r2 then
(if r2 = 0 then
(if z_ar σ7 l3 2 then (if z_ix (0 : Int32) (z_ln σ7 l3) then (if (lg_cmp (z_J σ7 l3 (0 : Int32).toNatClampNeg) r6.toInt64) = 0 then
(f_L_law_1340 xs L σ7 l1 l2 l3 l4)
else
(zex (some (0 : Int32)))) else none) else none)
else
(f_L_law_1340 xs L σ7 l1 l2 l3 l4))
else
(zex (some (0 : Int32)))))) else none))) else none)))
set_option maxRecDepth 100000 in
def f_L_law_1396 (xs : Nat → Int32) (L : Nat) (σ : zSt) (l1 : Nat) (l2 : Nat) (l3 : Nat) (l4 : Int32) : Option ((zSt × Int32) ⊕ (Int32)) :=
(f_L_law_1539 xs L σ l1 l2 l3 l4)
set_option maxRecDepth 100000 in
def f_L_law_1343 (xs : Nat → Int32) (L : Nat) (σ : zSt) (l1 : Nat) (l2 : Nat) (l3 : Nat) (l4 : Int32) : Option ((zSt × Int32) ⊕ (Int32)) :=
(if z_ix (l4 + (1 : Int32)) L then (zb2 (f_L_leastTarget σ l1 (xs (l4 + (1 : Int32)).toNatClampNeg) l3) (fun r3 σ4 => (if z_ix (l4 + (1 : Int32)) L then (if z_ob σ4 l2 9 then (zb2 (f_X10_leastTarget σ4 l2 (xs (l4 + (1 : Int32)).toNatClampNeg)) (fun r8 σ9 => (if z_ob σ9 l2 9 then (zb (f_X10_thrown σ9 l2) (fun r12 => (if r12 = r3 then
(if r3 = 0 then
(if z_ar σ9 l3 2 then (if z_ix (0 : Int32) (z_ln σ9 l3) then (if (lg_cmp (z_J σ9 l3 (0 : Int32).toNatClampNeg) r8.toInt64) = 0 then
(f_L_law_1396 xs L σ9 l1 l2 l3 l4)
else
(zex (some (0 : Int32)))) else none) else none)
else
(f_L_law_1396 xs L σ9 l1 l2 l3 l4))
else
(zex (some (0 : Int32)))))) else none))) else none) else none))) else none)
set_option maxRecDepth 100000 in
def f_L_law_1452 (xs : Nat → Int32) (L : Nat) (σ : zSt) (l1 : Nat) (l2 : Nat) (l3 : Nat) (l4 : Int32) : Option ((zSt × Int32) ⊕ (Int32)) :=
(f_L_law_1539 xs L σ l1 l2 l3 l4)
set_option maxRecDepth 100000 in
def f_L_law_1399 (xs : Nat → Int32) (L : Nat) (σ : zSt) (l1 : Nat) (l2 : Nat) (l3 : Nat) (l4 : Int32) : Option ((zSt × Int32) ⊕ (Int32)) :=
(if z_ix (l4 + (1 : Int32)) L then (zb2 (f_L_append σ l1 (xs (l4 + (1 : Int32)).toNatClampNeg) l3) (fun r3 σ4 => (if z_ix (l4 + (1 : Int32)) L then (if z_ob σ4 l2 9 then (zb2 (f_X10_append σ4 l2 (xs (l4 + (1 : Int32)).toNatClampNeg)) (fun r8 σ9 => (if z_ob σ9 l2 9 then (zb (f_X10_thrown σ9 l2) (fun r12 => (if r12 = r3 then
(if r3 = 0 then
(if z_ar σ9 l3 2 then (if z_ix (0 : Int32) (z_ln σ9 l3) then (if (lg_cmp (z_J σ9 l3 (0 : Int32).toNatClampNeg) r8.toInt64) = 0 then
(f_L_law_1452 xs L σ9 l1 l2 l3 l4)
else
(zex (some (0 : Int32)))) else none) else none)
else
(f_L_law_1452 xs L σ9 l1 l2 l3 l4))
else
(zex (some (0 : Int32)))))) else none))) else none) else none))) else none)
set_option maxRecDepth 100000 in
def f_L_law_1455 (xs : Nat → Int32) (L : Nat) (σ : zSt) (l1 : Nat) (l2 : Nat) (l3 : Nat) (l4 : Int32) : Option ((zSt × Int32) ⊕ (Int32)) :=
(if z_ob σ l1 8 then (zb2 (f_X9_clearText σ l1) (fun r3 σ4 => (if z_ob σ4 l2 9 then (zb2 (f_X10_clearText σ4 l2) (fun r7 σ8 => (if r3 = r7 then
(f_L_law_1539 xs L σ8 l1 l2 l3 l4)
else
(zex (some (0 : Int32)))))) else none))) else none)
set_option maxRecDepth 100000 in
def f_L_law_1468 (xs : Nat → Int32) (L : Nat) (σ : zSt) (l1 : Nat) (l2 : Nat) (l3 : Nat) (l4 : Int32) : Option ((zSt × Int32) ⊕ (Int32)) :=
(if z_ob σ l1 8 then (zb2 (f_X9_parse σ l1) (fun r3 σ4 => (if z_ob σ4 l2 9 then (zb2 (f_X10_parse σ4 l2) (fun r7 σ8 => (if r3 = r7 then
(f_L_law_1539 xs L σ8 l1 l2 l3 l4)
else
(zex (some (0 : Int32)))))) else none))) else none)
set_option maxRecDepth 100000 in
def f_L_law_1522 (xs : Nat → Int32) (L : Nat) (σ : zSt) (l1 : Nat) (l2 : Nat) (l3 : Nat) (l4 : Int32) : Option ((zSt × Int32) ⊕ (Int32)) :=
(f_L_law_1539 xs L σ l1 l2 l3 l4)
set_option maxRecDepth 100000 in
def f_L_law_1481 (xs : Nat → Int32) (L : Nat) (σ : zSt) (l1 : Nat) (l2 : Nat) (l3 : Nat) (l4 : Int32) : Option ((zSt × Int32) ⊕ (Int32)) :=
(zb2 (f_L_undo σ l1 l3) (fun r2 σ3 => (if z_ob σ3 l2 9 then (zb2 (f_X10_undo σ3 l2) (fun r6 σ7 => (if z_ob σ7 l2 9 then (zb (f_X10_thrown σ7 l2) (fun r10 => (if r10 = r2 then
(if r2 = 0 then
(if z_ar σ7 l3 2 then (if z_ix (0 : Int32) (z_ln σ7 l3) then (if (lg_cmp (z_J σ7 l3 (0 : Int32).toNatClampNeg) r6.toInt64) = 0 then
(f_L_law_1522 xs L σ7 l1 l2 l3 l4)
else
(zex (some (0 : Int32)))) else none) else none)
else
(f_L_law_1522 xs L σ7 l1 l2 l3 l4))
else
(zex (some (0 : Int32)))))) else none))) else none)))
set_option maxRecDepth 100000 in
def f_L_law_1525 (xs : Nat → Int32) (L : Nat) (σ : zSt) (l1 : Nat) (l2 : Nat) (l3 : Nat) (l4 : Int32) : Option ((zSt × Int32) ⊕ (Int32)) :=
(if z_ob σ l1 8 then (zb (f_X9_digest σ l1) (fun r3 => (if z_ob σ l2 9 then (zb2 (f_X10_digest σ l2) (fun r6 σ7 => (if (lg_cmp r3 r6) = 0 then
(f_L_law_1539 xs L σ7 l1 l2 l3 l4)
else
(zex (some (0 : Int32)))))) else none))) else none)
set_option maxRecDepth 100000 in
def b_L_law_23 (xs : Nat → Int32) (L : Nat) (l1 : Nat) (l2 : Nat) (l3 : Nat) (σ : zSt) (l4 : Int32) : Option ((zSt × Int32) ⊕ (Int32)) :=
(if z_lim l4 then (if ((Int32.ofNat L) - (4 : Int32)) < l4 then
(zex (some (1 : Int32)))
else
(if z_ix l4 L then (if ((xs l4.toNatClampNeg) &&& (31 : Int32)) = (0 : Int32) then
(f_L_law_160 xs L σ l1 l2 l3 l4)
else
(if ((xs l4.toNatClampNeg) &&& (31 : Int32)) = (1 : Int32) then
(f_L_law_216 xs L σ l1 l2 l3 l4)
else
(if ((xs l4.toNatClampNeg) &&& (31 : Int32)) = (2 : Int32) then
(f_L_law_307 xs L σ l1 l2 l3 l4)
else
(if ((xs l4.toNatClampNeg) &&& (31 : Int32)) = (3 : Int32) then
(f_L_law_387 xs L σ l1 l2 l3 l4)
else
(if ((xs l4.toNatClampNeg) &&& (31 : Int32)) = (4 : Int32) then
(f_L_law_467 xs L σ l1 l2 l3 l4)
else
(if ((xs l4.toNatClampNeg) &&& (31 : Int32)) = (5 : Int32) then
(f_L_law_535 xs L σ l1 l2 l3 l4)
else
(if ((xs l4.toNatClampNeg) &&& (31 : Int32)) = (6 : Int32) then
(f_L_law_591 xs L σ l1 l2 l3 l4)
else
(if ((xs l4.toNatClampNeg) &&& (31 : Int32)) = (7 : Int32) then
(f_L_law_604 xs L σ l1 l2 l3 l4)
else
(if ((xs l4.toNatClampNeg) &&& (31 : Int32)) = (8 : Int32) then
(f_L_law_660 xs L σ l1 l2 l3 l4)
else
(if ((xs l4.toNatClampNeg) &&& (31 : Int32)) = (9 : Int32) then
(f_L_law_728 xs L σ l1 l2 l3 l4)
else
(if ((xs l4.toNatClampNeg) &&& (31 : Int32)) = (10 : Int32) then
(f_L_law_784 xs L σ l1 l2 l3 l4)
else
(if ((xs l4.toNatClampNeg) &&& (31 : Int32)) = (11 : Int32) then
(f_L_law_852 xs L σ l1 l2 l3 l4)
else
(if ((xs l4.toNatClampNeg) &&& (31 : Int32)) = (12 : Int32) then
(f_L_law_920 xs L σ l1 l2 l3 l4)
else
(if ((xs l4.toNatClampNeg) &&& (31 : Int32)) = (13 : Int32) then
(f_L_law_976 xs L σ l1 l2 l3 l4)
else
(if ((xs l4.toNatClampNeg) &&& (31 : Int32)) = (14 : Int32) then
(f_L_law_1039 xs L σ l1 l2 l3 l4)
else
(if ((xs l4.toNatClampNeg) &&& (31 : Int32)) = (15 : Int32) then
(f_L_law_1052 xs L σ l1 l2 l3 l4)
else
(if ((xs l4.toNatClampNeg) &&& (31 : Int32)) = (16 : Int32) then
(f_L_law_1120 xs L σ l1 l2 l3 l4)
else
(if ((xs l4.toNatClampNeg) &&& (31 : Int32)) = (17 : Int32) then
(f_L_law_1133 xs L σ l1 l2 l3 l4)
else
(if ((xs l4.toNatClampNeg) &&& (31 : Int32)) = (18 : Int32) then
(f_L_law_1202 xs L σ l1 l2 l3 l4)
else
(if ((xs l4.toNatClampNeg) &&& (31 : Int32)) = (19 : Int32) then
(f_L_law_1243 xs L σ l1 l2 l3 l4)
else
(if ((xs l4.toNatClampNeg) &&& (31 : Int32)) = (20 : Int32) then
(f_L_law_1299 xs L σ l1 l2 l3 l4)
else
(if ((xs l4.toNatClampNeg) &&& (31 : Int32)) = (21 : Int32) then
(f_L_law_1343 xs L σ l1 l2 l3 l4)
else
(if ((xs l4.toNatClampNeg) &&& (31 : Int32)) = (22 : Int32) then
(f_L_law_1399 xs L σ l1 l2 l3 l4)
else
(if ((xs l4.toNatClampNeg) &&& (31 : Int32)) = (23 : Int32) then
(f_L_law_1455 xs L σ l1 l2 l3 l4)
else
(if ((xs l4.toNatClampNeg) &&& (31 : Int32)) = (24 : Int32) then
(f_L_law_1468 xs L σ l1 l2 l3 l4)
else
(if ((xs l4.toNatClampNeg) &&& (31 : Int32)) = (25 : Int32) then
(f_L_law_1481 xs L σ l1 l2 l3 l4)
else
(if ((xs l4.toNatClampNeg) &&& (31 : Int32)) = (26 : Int32) then
(f_L_law_1525 xs L σ l1 l2 l3 l4)
else
(f_L_law_1539 xs L σ l1 l2 l3 l4)))))))))))))))))))))))))))) else none)) else none)
set_option maxRecDepth 100000 in
def f_L_law_23 (xs : Nat → Int32) (L : Nat) (l1 : Nat) (l2 : Nat) (l3 : Nat) (σ : zSt) (l4 : Int32) : Option (Int32) := zloop (fun (t : zSt × Int32) => b_L_law_23 xs L l1 l2 l3 t.1 t.2) zN (σ, l4)
set_option maxRecDepth 100000 in
def f_L_law (xs : Nat → Int32) (L : Nat) (σ : zSt) : Option (Int32) :=
(zl (z_nw σ (.inl 8)) (fun σ1 => (zb (f_X9_init σ1 (z_nx σ)) (fun σ4 => (zl (z_nw σ4 (.inl 9)) (fun σ5 => (zb (f_X10_init σ5 (z_nx σ4)) (fun σ8 => (zl (z_nw σ8 (.inr (2, 1))) (fun σ9 => (f_L_law_23 xs L (z_nx σ) (z_nx σ4) (z_nx σ8) σ9 (0 : Int32))))))))))))
end
section
/-! PHASE 2: numbers -/
def n32 (k : Nat) : Int32 := Int32.ofNat k
theorem n32_toInt {k : Nat} (h : k < 2147483648) : (n32 k).toInt = k := by
  unfold n32
  exact Int32.toInt_ofNat_of_lt (by simpa using h)
theorem n32_toNat {k : Nat} (h : k < 2147483648) : (n32 k).toNatClampNeg = k := by
  have := n32_toInt h
  unfold Int32.toNatClampNeg
  rw [this]
  rfl
theorem n32_add (a b : Nat) : n32 a + n32 b = n32 (a + b) := (Int32.ofNat_add a b).symm
theorem n32_mul (a b : Nat) : n32 a * n32 b = n32 (a * b) := (Int32.ofNat_mul a b).symm
theorem n32_lt {a b : Nat} (ha : a < 2147483648) (hb : b < 2147483648) : (n32 a < n32 b) ↔ a < b := by
  rw [Int32.lt_iff_toInt_lt, n32_toInt ha, n32_toInt hb]; omega
theorem n32_le {a b : Nat} (ha : a < 2147483648) (hb : b < 2147483648) : (n32 a ≤ n32 b) ↔ a ≤ b := by
  rw [Int32.le_iff_toInt_le, n32_toInt ha, n32_toInt hb]; omega
theorem n32_eq {a b : Nat} (ha : a < 2147483648) (hb : b < 2147483648) : (n32 a = n32 b) ↔ a = b := by
  rw [← Int32.toInt_inj, n32_toInt ha, n32_toInt hb]; omega
theorem n32_ix {k n : Nat} (h : k < n) (hk : k < 2147483648) : z_ix (n32 k) n = true := by
  unfold z_ix
  have e0 : (0 : Int32) = n32 0 := rfl
  have h1 : ¬ n32 k < 0 := by rw [e0, n32_lt hk (by omega)]; omega
  rw [n32_toNat hk]
  simp [h, h1]
theorem n32_sub {a b : Nat} (h : b ≤ a) : n32 a - n32 b = n32 (a - b) := by
  have e : n32 (a - b) + n32 b = n32 a := by rw [n32_add]; congr 1; omega
  rw [← e, Int32.add_sub_cancel]
/-- a number that is none below zero is one of ours -/
theorem n32_of {x : Int32} (h : ¬ x < 0) : x = n32 x.toNatClampNeg ∧ x.toNatClampNeg < 2147483648 := by
  have h1 : 0 ≤ x.toInt := by
    rw [Int32.lt_iff_toInt_lt] at h
    have e : (0 : Int32).toInt = 0 := rfl
    omega
  have h2 := Int32.toInt_lt x
  have h3 : x.toNatClampNeg < 2147483648 := by
    unfold Int32.toNatClampNeg; omega
  refine ⟨?_, h3⟩
  rw [← Int32.toInt_inj, n32_toInt h3]
  unfold Int32.toNatClampNeg
  omega
def bi (b : Bool) : Int32 := if b then 1 else 0
theorem bi_bl (b : Bool) : z_bl (bi b) = true := by cases b <;> rfl
theorem bi_0 (b : Bool) : (bi b = 0) ↔ b = false := by cases b <;> decide
/-! loops -/
section ZLOOP
variable {S R : Type}
/-- a loop that goes on while it holds an invariant that counts -/
theorem zloop_inv {body : S → Option (S ⊕ R)} {Inv : Nat → S → Prop} {Post : R → Prop} (n : Nat)
    (h : ∀ k s, k ≤ n → Inv k s → (∃ r, body s = some (.inr r) ∧ Post r) ∨ (k < n ∧ ∃ t, body s = some (.inl t) ∧ Inv (k + 1) t))
    {N : Nat} (hN : n < N) {s : S} (h0 : Inv 0 s) : ∃ r, zloop body N s = some r ∧ Post r := by
  have H : ∀ d k N s, d = n - k → k ≤ n → n - k < N → Inv k s → ∃ r, zloop body N s = some r ∧ Post r := by
    intro d
    induction d with
    | zero =>
      intro k N s hd hk hN hi
      obtain ⟨M, rfl⟩ : ∃ M, N = M + 1 := ⟨N - 1, by omega⟩
      rcases h k s hk hi with ⟨r, hr, hp⟩ | ⟨hlt, _⟩
      · exact ⟨r, by unfold zloop; rw [hr], hp⟩
      · omega
    | succ d ih =>
      intro k N s hd hk hN hi
      obtain ⟨M, rfl⟩ : ∃ M, N = M + 1 := ⟨N - 1, by omega⟩
      rcases h k s hk hi with ⟨r, hr, hp⟩ | ⟨hlt, t, ht, hi2⟩
      · exact ⟨r, by unfold zloop; rw [hr], hp⟩
      · obtain ⟨r, hr, hp⟩ := ih (k + 1) M t (by omega) hlt (by omega) hi2
        exact ⟨r, by unfold zloop; rw [ht]; exact hr, hp⟩
  exact H _ 0 N s rfl (by omega) (by omega) h0
/-- a loop that runs through known states -/
theorem zloop_go {body : S → Option (S ⊕ R)} (f : Nat → S) (r : R) (n : Nat)
    (h : ∀ k, k < n → body (f k) = some (.inl (f (k + 1)))) (hr : body (f n) = some (.inr r))
    {N : Nat} (hN : n < N) : zloop body N (f 0) = some r := by
  obtain ⟨r', h1, h2⟩ := zloop_inv (body := body) (Inv := fun k s => s = f k) (Post := fun x => x = r) n
    (fun k s hk hi => by
      subst hi
      by_cases hkn : k = n
      · subst hkn; exact Or.inl ⟨r, hr, rfl⟩
      · exact Or.inr ⟨by omega, f (k + 1), h k (by omega), rfl⟩) hN rfl
  rw [h1, h2]
end ZLOOP
/-! shapes behind writes -/
section ZS2
variable (σ : zSt) (q j : Nat)
theorem z_ob_pI (x : Int32) : z_ob (z_pI σ q j x) = z_ob σ := rfl
theorem z_ob_pJ (x : Int64) : z_ob (z_pJ σ q j x) = z_ob σ := rfl
theorem z_ob_pR (x : Option Nat) : z_ob (z_pR σ q j x) = z_ob σ := rfl
theorem z_ar_pI (x : Int32) : z_ar (z_pI σ q j x) = z_ar σ := rfl
theorem z_ar_pJ (x : Int64) : z_ar (z_pJ σ q j x) = z_ar σ := rfl
theorem z_ar_pR (x : Option Nat) : z_ar (z_pR σ q j x) = z_ar σ := rfl
theorem z_ln_pI (x : Int32) : z_ln (z_pI σ q j x) = z_ln σ := rfl
theorem z_ln_pJ (x : Int64) : z_ln (z_pJ σ q j x) = z_ln σ := rfl
theorem z_ln_pR (x : Option Nat) : z_ln (z_pR σ q j x) = z_ln σ := rfl
end ZS2
theorem zl_eq {α β : Type} (x : α) (k : α → Option β) : zl x k = k x := rfl
theorem zb_eq {α β : Type} (v : α) (k : α → Option β) : zb (some v) k = k v := rfl
theorem zb2_eq {α β : Type} (v : α) (s : zSt) (k : α → zSt → Option β) : zb2 (some (v, s)) k = k v s := rfl
theorem zc_some {β : Type} (v : Nat) (A : Option β) (B : Nat → Option β) : zc (some v) A B = B v := rfl
theorem zc_none {β : Type} (A : Option β) (B : Nat → Option β) : zc none A B = A := rfl
theorem zex_eq {α β : Type} (x : β) : (zex (some x) : Option (α ⊕ β)) = some (.inr x) := rfl
theorem zb_pre {α β : Type} [Inhabited α] (x : Option α) (k : α → Option β) : zb x k = if x.isSome = true then k (x.getD default) else none := by
  cases x <;> rfl
theorem zb2_pre {α β : Type} [Inhabited α] (x : Option (α × zSt)) (k : α → zSt → Option β) : zb2 x k = if x.isSome = true then k (x.getD default).1 (x.getD default).2 else none := by
  cases x <;> rfl
theorem zc_pre {β : Type} (x : Option Nat) (A : Option β) (B : Nat → Option β) : zc x A B = if x.isSome = true then B (x.getD 0) else A := by
  cases x <;> rfl
/-! the array of the reference as a whole -/
abbrev zG : Type := Nat → Int32
def gu (g : zG) (k : Nat) (v : Int32) : zG := fun j => if j = k then v else g j
def z_sA (σ : zSt) (A : Nat) (g : zG) : zSt := (σ.1, σ.2.1, fun a j => if a = A then g j else σ.2.2.1 a j, σ.2.2.2.1, σ.2.2.2.2)
theorem z_sA_id (σ : zSt) (A : Nat) : z_sA σ A (z_I σ A) = σ := by
  unfold z_sA z_I
  obtain ⟨a, b, c, d, e⟩ := σ
  congr 1; congr 1; congr 1
  funext x j
  show (if x = A then c A j else c x j) = c x j
  by_cases h : x = A
  · rw [if_pos h, h]
  · rw [if_neg h]
theorem z_sA_sA (σ : zSt) (A : Nat) (g g' : zG) : z_sA (z_sA σ A g) A g' = z_sA σ A g' := by
  unfold z_sA
  congr 1; congr 1; congr 1
  funext x j
  by_cases h : x = A
  · simp [h]
  · simp [h]
theorem z_pI_sA (σ : zSt) (A : Nat) (g : zG) (k : Nat) (v : Int32) : z_pI (z_sA σ A g) A k v = z_sA σ A (gu g k v) := by
  unfold z_sA z_pI z_u gu
  congr 1; congr 1; congr 1
  funext x j
  by_cases h : x = A
  · by_cases h2 : j = k <;> simp [h, h2]
  · simp [h]
section ZSA
variable (σ : zSt) (A : Nat) (g : zG)
theorem z_I_sA : z_I (z_sA σ A g) A = g := by funext j; simp [z_I, z_sA]
theorem z_I_sAn {q : Nat} (h : q ≠ A) : z_I (z_sA σ A g) q = z_I σ q := by funext j; simp [z_I, z_sA, h]
theorem z_J_sA : z_J (z_sA σ A g) = z_J σ := rfl
theorem z_R_sA : z_R (z_sA σ A g) = z_R σ := rfl
theorem z_sh_sA : z_sh (z_sA σ A g) = z_sh σ := rfl
theorem z_nx_sA : z_nx (z_sA σ A g) = z_nx σ := rfl
theorem z_ob_sA : z_ob (z_sA σ A g) = z_ob σ := rfl
theorem z_ar_sA : z_ar (z_sA σ A g) = z_ar σ := rfl
theorem z_ln_sA : z_ln (z_sA σ A g) = z_ln σ := rfl
theorem z_pI_eq (k : Nat) (v : Int32) : z_pI σ A k v = z_sA σ A (gu (z_I σ A) k v) := by
  rw [← z_pI_sA, z_sA_id]
end ZSA
theorem gu_same (g : zG) (k : Nat) (v : Int32) : gu g k v k = v := by simp [gu]
theorem gu_ne (g : zG) {k j : Nat} (v : Int32) (h : j ≠ k) : gu g k v j = g j := by simp [gu, h]
end
section
/-! THE REFERENCE, method by method, on its one array -/
theorem n32_lit (k : Nat) : (OfNat.ofNat k : Int32) = n32 (OfNat.ofNat k) := rfl
def nn : Int32 := -1
theorem n32_nn : (-1 : Int32) = nn := rfl
theorem n32_nn2 : -(n32 1) = nn := rfl
theorem n32_ne {k : Nat} (h : k < 2147483648) : (n32 k = nn) ↔ False := by
  rw [← Int32.toInt_inj, n32_toInt h]
  have e : nn.toInt = -1 := rfl
  rw [e]
  constructor
  · intro h; omega
  · intro h; cases h
theorem bi_0n (b : Bool) : (bi b = n32 0) ↔ b = false := by cases b <;> decide
theorem bi_t : n32 1 = bi true := rfl
theorem bi_f : n32 0 = bi false := rfl
def zMs (σ : zSt) (M : Nat) : Prop :=
  z_ob σ M 9 = true ∧ z_R σ M 0 = some (M + 1) ∧ z_R σ M 1 = some (M + 2) ∧ z_R σ M 2 = some (M + 3) ∧ z_R σ M 5 = some (M + 4) ∧
  z_ar σ (M + 1) 0 = true ∧ z_ar σ (M + 2) 0 = true ∧ z_ar σ (M + 3) 0 = true ∧ z_ar σ (M + 4) 0 = true ∧
  z_ln σ (M + 1) = 942 ∧ z_ln σ (M + 2) = 3768 ∧ z_ln σ (M + 3) = 942 ∧ z_ln σ (M + 4) = 120
theorem zMs_sA {σ : zSt} {M : Nat} (h : zMs σ M) (A : Nat) (g : zG) : zMs (z_sA σ A g) M := h
section MODEL
variable {σ : zSt} {M : Nat}
theorem m_of (hM : zMs σ M) {x w : Nat} (hx : x < 32) (hw : w < 7) : f_X10_of σ M (n32 x) (n32 w) = some (z_I σ (M + 1) (18 + 7 * x + w)) := by
  simp (disch := omega) only [f_X10_of, f_X10_at, ↓zl_eq, ↓zb_eq, ↓zb2_eq, ↓zc_some, ↓zc_none, ↓zb_pre, ↓zb2_pre, ↓zc_pre, ↓zex_eq, ↓reduceIte, Option.isSome_some, Option.isSome_none, Option.getD_some, n32_lit, n32_nn, n32_nn2, n32_add, n32_mul, n32_toNat, n32_ix, hM.1, hM.2.1, hM.2.2.1, hM.2.2.2.1, hM.2.2.2.2.1, hM.2.2.2.2.2.1, hM.2.2.2.2.2.2.1, hM.2.2.2.2.2.2.2.1, hM.2.2.2.2.2.2.2.2.1, hM.2.2.2.2.2.2.2.2.2.1, hM.2.2.2.2.2.2.2.2.2.2.1, hM.2.2.2.2.2.2.2.2.2.2.2.1, hM.2.2.2.2.2.2.2.2.2.2.2.2]
theorem m_ofM (hM : zMs σ M) {x w : Nat} (hx : x < 100) (hw : w < 5) : f_X10_ofMessage σ M (n32 x) (n32 w) = some (z_I σ (M + 1) (242 + 5 * x + w)) := by
  simp (disch := omega) only [f_X10_ofMessage, f_X10_inMessage, ↓zl_eq, ↓zb_eq, ↓zb2_eq, ↓zc_some, ↓zc_none, ↓zb_pre, ↓zb2_pre, ↓zc_pre, ↓zex_eq, ↓reduceIte, Option.isSome_some, Option.isSome_none, Option.getD_some, n32_lit, n32_nn, n32_nn2, n32_add, n32_mul, n32_toNat, n32_ix, hM.1, hM.2.1, hM.2.2.1, hM.2.2.2.1, hM.2.2.2.2.1, hM.2.2.2.2.2.1, hM.2.2.2.2.2.2.1, hM.2.2.2.2.2.2.2.1, hM.2.2.2.2.2.2.2.2.1, hM.2.2.2.2.2.2.2.2.2.1, hM.2.2.2.2.2.2.2.2.2.2.1, hM.2.2.2.2.2.2.2.2.2.2.2.1, hM.2.2.2.2.2.2.2.2.2.2.2.2]
theorem m_isInRing (hM : zMs σ M) {x : Nat} (hx : x < 32) : f_X10_isInRing σ M (n32 x) = some (bi (decide (z_I σ (M + 1) (18 + 7 * x + 0) = n32 1) && decide (z_I σ (M + 1) (18 + 7 * x + 1) = n32 1) && decide (z_I σ (M + 1) (18 + 7 * x + 2) = n32 1))) := by
  simp (disch := omega) only [f_X10_isInRing, f_X10_isInRing_34, f_X10_isInRing_35, ↓zl_eq, ↓zb_eq, ↓zb2_eq, ↓zc_some, ↓zc_none, ↓zb_pre, ↓zb2_pre, ↓zc_pre, ↓zex_eq, ↓reduceIte, Option.isSome_some, Option.isSome_none, Option.getD_some, n32_lit, n32_nn, n32_nn2, n32_add, n32_mul, n32_toNat, n32_ix, m_of hM, hM.1]
  by_cases h0 : z_I σ (M + 1) (18 + 7 * x + 0) = n32 1 <;> by_cases h1 : z_I σ (M + 1) (18 + 7 * x + 1) = n32 1 <;> by_cases h2 : z_I σ (M + 1) (18 + 7 * x + 2) = n32 1 <;> simp only [h0, h1, h2] <;> rfl
theorem m_adds (hM : zMs σ M) {x : Nat} (hx : x < 32) : f_X10_adds σ M (n32 x) = some (z_sA σ (M + 1) (gu (gu (gu (gu (gu (gu (gu (z_I σ (M + 1)) (18 + 7 * x + 0) (n32 1)) (18 + 7 * x + 1) (n32 1)) (18 + 7 * x + 2) (n32 0)) (18 + 7 * x + 3) (n32 x)) (18 + 7 * x + 4) (n32 x)) (18 + 7 * x + 5) (n32 0)) (18 + 7 * x + 6) nn)) := by
  simp (disch := omega) only [f_X10_adds, f_X10_at, ↓zl_eq, ↓zb_eq, ↓zb2_eq, ↓zc_some, ↓zc_none, ↓zb_pre, ↓zb2_pre, ↓zc_pre, ↓zex_eq, ↓reduceIte, Option.isSome_some, Option.isSome_none, Option.getD_some, n32_lit, n32_nn, n32_nn2, n32_add, n32_mul, n32_toNat, n32_ix, z_pI_eq, z_sA_sA, z_I_sA, z_J_sA, z_R_sA, z_ob_sA, z_ar_sA, z_ln_sA, z_nx_sA, hM.1, hM.2.1, hM.2.2.1, hM.2.2.2.1, hM.2.2.2.2.1, hM.2.2.2.2.2.1, hM.2.2.2.2.2.2.1, hM.2.2.2.2.2.2.2.1, hM.2.2.2.2.2.2.2.2.1, hM.2.2.2.2.2.2.2.2.2.1, hM.2.2.2.2.2.2.2.2.2.2.1, hM.2.2.2.2.2.2.2.2.2.2.2.1, hM.2.2.2.2.2.2.2.2.2.2.2.2]
end MODEL
end
section
/-! WHAT THE REFERENCE COMPUTES, as functions of its array -/
def s_any (P : Nat → Bool) : Nat → Bool
  | 0 => false
  | k + 1 => s_any P k || P k
def s_cnt (P : Nat → Bool) : Nat → Nat
  | 0 => 0
  | k + 1 => s_cnt P k + (if P k = true then 1 else 0)
theorem s_cnt_le (P : Nat → Bool) (k : Nat) : s_cnt P k ≤ k := by
  induction k with
  | zero => exact Nat.le_refl _
  | succ k ih => unfold s_cnt; split <;> omega
def s_loud (g : zG) (f t : Int32) : Bool := s_any (fun k => decide (g (742 + 2 * k) ≤ t) && decide (f ≤ g (742 + 2 * k + 1))) (g 6).toNatClampNeg
def s_ring (g : zG) (x : Nat) : Bool := decide (g (18 + 7 * x + 0) = n32 1) && decide (g (18 + 7 * x + 1) = n32 1) && decide (g (18 + 7 * x + 2) = n32 1)
def s_wt (g : zG) (x : Int32) (m : Nat) : Bool := decide (g (242 + 5 * m + 2) = x) && decide (g (242 + 5 * m + 4) = nn)
def s_bh (g : zG) (b : Int32) (m : Nat) : Bool := decide (b = nn) || decide (g (242 + 5 * m + 1) < g (242 + 5 * b.toNatClampNeg + 1)) || (decide (g (242 + 5 * m + 1) = g (242 + 5 * b.toNatClampNeg + 1)) && decide (b < n32 m))
def s_nx (g : zG) (x b : Int32) : Nat → Int32
  | 0 => nn
  | k + 1 => if (s_wt g x k && s_bh g b k && (decide (s_nx g x b k = nn) || decide (g (242 + 5 * (s_nx g x b k).toNatClampNeg + 1) < g (242 + 5 * k + 1)))) = true then n32 k else s_nx g x b k
theorem s_nx_rng (g : zG) (x b : Int32) (k : Nat) : s_nx g x b k = nn ∨ ∃ j, j < k ∧ s_nx g x b k = n32 j := by
  induction k with
  | zero => exact Or.inl rfl
  | succ k ih =>
    unfold s_nx
    split
    · exact Or.inr ⟨k, by omega, rfl⟩
    · rcases ih with h | ⟨j, h1, h2⟩
      · exact Or.inl h
      · exact Or.inr ⟨j, by omega, h2⟩
def s_next (g : zG) (x b : Int32) : Int32 := s_nx g x b (g 5).toNatClampNeg
def s_takes (g : zG) (t : Int32) : zG := gu (gu g 3 (g 3 + t)) 11 (g 11 + bi (s_loud g (g 3) (g 3 + t - n32 1)))
section MODEL
variable {σ : zSt} {M : Nat}
theorem m_isLoud (hM : zMs σ M) {n : Nat} (hn : z_I σ (M + 1) 6 = n32 n) (hn2 : n ≤ 20) (f t : Int32) : f_X10_isLoud σ M f t = some (bi (s_loud (z_I σ (M + 1)) f t)) := by
  have e : s_loud (z_I σ (M + 1)) f t = s_any (fun k => decide (z_I σ (M + 1) (742 + 2 * k) ≤ t) && decide (f ≤ z_I σ (M + 1) (742 + 2 * k + 1))) n := by
    unfold s_loud; rw [hn, n32_toNat (by omega)]
  rw [e]
  unfold f_X10_isLoud f_X10_isLoud_5
  refine zloop_go (fun k => (bi (s_any (fun k => decide (z_I σ (M + 1) (742 + 2 * k) ≤ t) && decide (f ≤ z_I σ (M + 1) (742 + 2 * k + 1))) k), n32 k)) _ n (fun k hk => ?_) ?_ (by unfold zN; omega)
  · show b_X10_isLoud_5 σ M f t _ _ = _
    simp (disch := omega) only [b_X10_isLoud_5, f_X10_isLoud_61, f_X10_isLoud_57, f_X10_isLoud_62, ↓zl_eq, ↓zb_eq, ↓zb2_eq, ↓zc_some, ↓zc_none, ↓zb_pre, ↓zb2_pre, ↓zc_pre, ↓zex_eq, ↓reduceIte, Option.isSome_some, Option.isSome_none, Option.getD_some, n32_lit, n32_nn, n32_nn2, n32_add, n32_mul, n32_toNat, n32_ix, hM.1, hM.2.1, hM.2.2.1, hM.2.2.2.1, hM.2.2.2.2.1, hM.2.2.2.2.2.1, hM.2.2.2.2.2.2.1, hM.2.2.2.2.2.2.2.1, hM.2.2.2.2.2.2.2.2.1, hM.2.2.2.2.2.2.2.2.2.1, hM.2.2.2.2.2.2.2.2.2.2.1, hM.2.2.2.2.2.2.2.2.2.2.2.1, hM.2.2.2.2.2.2.2.2.2.2.2.2, hn, n32_le, bi_0n]
    rw [if_neg (by omega)]
    generalize hA : s_any (fun k => decide (z_I σ (M + 1) (742 + 2 * k) ≤ t) && decide (f ≤ z_I σ (M + 1) (742 + 2 * k + 1))) k = A
    have e2 : s_any (fun k => decide (z_I σ (M + 1) (742 + 2 * k) ≤ t) && decide (f ≤ z_I σ (M + 1) (742 + 2 * k + 1))) (k + 1) = (A || (decide (z_I σ (M + 1) (742 + 2 * k) ≤ t) && decide (f ≤ z_I σ (M + 1) (742 + 2 * k + 1)))) := by
      rw [← hA]; rfl
    rw [e2]
    cases A with
    | true => simp only [Bool.true_or]; rfl
    | false =>
      simp only [Bool.false_or, if_true]
      by_cases h1 : t < z_I σ (M + 1) (742 + 2 * k)
      · rw [if_pos h1]
        have h2 : ¬ z_I σ (M + 1) (742 + 2 * k) ≤ t := by rw [Int32.not_le]; exact h1
        simp only [h2, decide_false, Bool.false_and]; rfl
      · rw [if_neg h1]
        have h2 : z_I σ (M + 1) (742 + 2 * k) ≤ t := by rw [Int32.not_lt] at h1; exact h1
        by_cases h3 : z_I σ (M + 1) (742 + 2 * k + 1) < f
        · rw [if_pos h3]
          have h4 : ¬ f ≤ z_I σ (M + 1) (742 + 2 * k + 1) := by rw [Int32.not_le]; exact h3
          simp only [h4, decide_false, Bool.and_false]; rfl
        · rw [if_neg h3]
          have h4 : f ≤ z_I σ (M + 1) (742 + 2 * k + 1) := by rw [Int32.not_lt] at h3; exact h3
          simp only [h2, h4, decide_true, Bool.and_self]; rfl
  · show b_X10_isLoud_5 σ M f t _ _ = _
    simp (disch := omega) only [b_X10_isLoud_5, ↓zl_eq, ↓zb_eq, ↓zb2_eq, ↓zc_some, ↓zc_none, ↓zb_pre, ↓zb2_pre, ↓zc_pre, ↓zex_eq, ↓reduceIte, Option.isSome_some, Option.isSome_none, Option.getD_some, n32_lit, n32_nn, n32_nn2, n32_add, n32_mul, n32_toNat, n32_ix, hM.1, hM.2.1, hM.2.2.1, hM.2.2.2.1, hM.2.2.2.2.1, hM.2.2.2.2.2.1, hM.2.2.2.2.2.2.1, hM.2.2.2.2.2.2.2.1, hM.2.2.2.2.2.2.2.2.1, hM.2.2.2.2.2.2.2.2.2.1, hM.2.2.2.2.2.2.2.2.2.2.1, hM.2.2.2.2.2.2.2.2.2.2.2.1, hM.2.2.2.2.2.2.2.2.2.2.2.2, hn, n32_le, Nat.le_refl, bi_bl]
theorem m_takes (hM : zMs σ M) {n : Nat} (hn : z_I σ (M + 1) 6 = n32 n) (hn2 : n ≤ 20) (t : Int32) : f_X10_takes σ M t = some (bi (s_loud (z_I σ (M + 1)) (z_I σ (M + 1) 3) (z_I σ (M + 1) 3 + t - n32 1)), z_sA σ (M + 1) (s_takes (z_I σ (M + 1)) t)) := by
  simp (disch := omega) only [f_X10_takes, f_X10_takes_48, ↓zl_eq, ↓zb_eq, ↓zb2_eq, ↓zc_some, ↓zc_none, ↓zb_pre, ↓zb2_pre, ↓zc_pre, ↓zex_eq, ↓reduceIte, Option.isSome_some, Option.isSome_none, Option.getD_some, n32_lit, n32_nn, n32_nn2, n32_add, n32_mul, n32_toNat, n32_ix, hM.1, hM.2.1, hM.2.2.1, hM.2.2.2.1, hM.2.2.2.2.1, hM.2.2.2.2.2.1, hM.2.2.2.2.2.2.1, hM.2.2.2.2.2.2.2.1, hM.2.2.2.2.2.2.2.2.1, hM.2.2.2.2.2.2.2.2.2.1, hM.2.2.2.2.2.2.2.2.2.2.1, hM.2.2.2.2.2.2.2.2.2.2.2.1, hM.2.2.2.2.2.2.2.2.2.2.2.2, z_pI_eq, z_sA_sA, z_I_sA, z_J_sA, z_R_sA, z_ob_sA, z_ar_sA, z_ln_sA, z_nx_sA, m_isLoud hM hn hn2, gu_ne, gu_same, bi_0n, bi_bl, s_takes]
  generalize s_loud (z_I σ (M + 1)) (z_I σ (M + 1) 3) (z_I σ (M + 1) 3 + t - n32 1) = A
  cases A <;> rfl
theorem m_queueOf (hM : zMs σ M) {n : Nat} (hn : z_I σ (M + 1) 5 = n32 n) (hn2 : n ≤ 100) (x : Int32) : f_X10_queueOf σ M x = some (n32 (s_cnt (s_wt (z_I σ (M + 1)) x) n)) := by
  unfold f_X10_queueOf f_X10_queueOf_4
  refine zloop_go (fun k => (n32 (s_cnt (s_wt (z_I σ (M + 1)) x) k), n32 k)) _ n (fun k hk => ?_) ?_ (by unfold zN; omega)
  · show b_X10_queueOf_4 σ M x _ _ = some (.inl (n32 (s_cnt (s_wt (z_I σ (M + 1)) x) k + if s_wt (z_I σ (M + 1)) x k = true then 1 else 0), n32 (k + 1)))
    simp (disch := omega) only [b_X10_queueOf_4, f_X10_queueOf_40, f_X10_queueOf_39, ↓zl_eq, ↓zb_eq, ↓zb2_eq, ↓zc_some, ↓zc_none, ↓zb_pre, ↓zb2_pre, ↓zc_pre, ↓zex_eq, ↓reduceIte, Option.isSome_some, Option.isSome_none, Option.getD_some, n32_lit, n32_nn, n32_nn2, n32_add, n32_mul, n32_toNat, n32_ix, hM.1, hM.2.1, hM.2.2.1, hM.2.2.2.1, hM.2.2.2.2.1, hM.2.2.2.2.2.1, hM.2.2.2.2.2.2.1, hM.2.2.2.2.2.2.2.1, hM.2.2.2.2.2.2.2.2.1, hM.2.2.2.2.2.2.2.2.2.1, hM.2.2.2.2.2.2.2.2.2.2.1, hM.2.2.2.2.2.2.2.2.2.2.2.1, hM.2.2.2.2.2.2.2.2.2.2.2.2, hn, n32_le, m_ofM hM]
    rw [if_neg (by omega)]
    unfold s_wt
    by_cases h1 : z_I σ (M + 1) (242 + 5 * k + 2) = x <;> by_cases h2 : z_I σ (M + 1) (242 + 5 * k + 4) = nn <;> simp [h1, h2]
  · show b_X10_queueOf_4 σ M x _ _ = _
    simp (disch := omega) only [b_X10_queueOf_4, ↓zl_eq, ↓zb_eq, ↓zb2_eq, ↓zc_some, ↓zc_none, ↓zb_pre, ↓zb2_pre, ↓zc_pre, ↓zex_eq, ↓reduceIte, Option.isSome_some, Option.isSome_none, Option.getD_some, n32_lit, n32_nn, n32_nn2, n32_add, n32_mul, n32_toNat, n32_ix, hM.1, hM.2.1, hM.2.2.1, hM.2.2.2.1, hM.2.2.2.2.1, hM.2.2.2.2.2.1, hM.2.2.2.2.2.2.1, hM.2.2.2.2.2.2.2.1, hM.2.2.2.2.2.2.2.2.1, hM.2.2.2.2.2.2.2.2.2.1, hM.2.2.2.2.2.2.2.2.2.2.1, hM.2.2.2.2.2.2.2.2.2.2.2.1, hM.2.2.2.2.2.2.2.2.2.2.2.2, hn, n32_le, Nat.le_refl]
end MODEL
end
section
section MODEL
variable {σ : zSt} {M : Nat}
theorem s_bh_nn (g : zG) (m : Nat) : s_bh g nn m = true := by simp [s_bh]
theorem s_bh_n (g : zG) {b : Nat} (hb : b < 100) (m : Nat) (hm : m < 100) : s_bh g (n32 b) m = (decide (g (242 + 5 * m + 1) < g (242 + 5 * b + 1)) || (decide (g (242 + 5 * m + 1) = g (242 + 5 * b + 1)) && decide (b < m))) := by
  unfold s_bh
  rw [n32_toNat (by omega)]
  have e1 : (n32 b = nn) = False := propext (n32_ne (by omega))
  have e2 : (n32 b < n32 m) = (b < m) := propext (n32_lt (by omega) (by omega))
  simp only [e1, e2, decide_false, Bool.false_or]
/-- the middle of a round: what stands behind `behind` -/
theorem m_nextOf_93 (hM : zMs σ M) {k : Nat} (hk : k < 100) (x b : Int32) (w v : Bool) {best : Int32} (hb : best = nn ∨ ∃ j, j < k ∧ best = n32 j) :
    f_X10_nextOf_93 σ M x b best (n32 k) (bi w) (bi v) = some (.inl ((if (w && v && (decide (best = nn) || decide (z_I σ (M + 1) (242 + 5 * best.toNatClampNeg + 1) < z_I σ (M + 1) (242 + 5 * k + 1)))) = true then n32 k else best), n32 (k + 1))) := by
  cases w with
  | false => simp only [f_X10_nextOf_93, f_X10_nextOf_131, f_X10_nextOf_132, ↓zl_eq, ↓zb_eq, ↓zb2_eq, ↓zc_some, ↓zc_none, ↓zb_pre, ↓zb2_pre, ↓zc_pre, ↓zex_eq, ↓reduceIte, Option.isSome_some, Option.isSome_none, Option.getD_some, n32_lit, n32_nn, n32_nn2, n32_add, n32_mul, n32_toNat, n32_ix, bi_0n, Bool.false_and, Bool.false_eq_true]
  | true =>
    cases v with
    | false => simp only [f_X10_nextOf_93, f_X10_nextOf_131, f_X10_nextOf_132, ↓zl_eq, ↓zb_eq, ↓zb2_eq, ↓zc_some, ↓zc_none, ↓zb_pre, ↓zb2_pre, ↓zc_pre, ↓zex_eq, ↓reduceIte, Option.isSome_some, Option.isSome_none, Option.getD_some, n32_lit, n32_nn, n32_nn2, n32_add, n32_mul, n32_toNat, n32_ix, bi_0n, Bool.false_and, Bool.and_false, Bool.false_eq_true, Bool.true_eq_false]
    | true =>
      rcases hb with hb | ⟨j, hj, hb⟩
      · subst hb
        simp only [f_X10_nextOf_93, f_X10_nextOf_126, f_X10_nextOf_132, ↓zl_eq, ↓zb_eq, ↓zb2_eq, ↓zc_some, ↓zc_none, ↓zb_pre, ↓zb2_pre, ↓zc_pre, ↓zex_eq, ↓reduceIte, Option.isSome_some, Option.isSome_none, Option.getD_some, n32_lit, n32_nn, n32_nn2, n32_add, n32_mul, n32_toNat, n32_ix, bi_0n, Bool.true_and, decide_true, Bool.true_or, Bool.true_eq_false]
      · subst hb
        simp (disch := omega) only [f_X10_nextOf_93, f_X10_nextOf_126, f_X10_nextOf_131, f_X10_nextOf_132, ↓zl_eq, ↓zb_eq, ↓zb2_eq, ↓zc_some, ↓zc_none, ↓zb_pre, ↓zb2_pre, ↓zc_pre, ↓zex_eq, ↓reduceIte, Option.isSome_some, Option.isSome_none, Option.getD_some, n32_lit, n32_nn, n32_nn2, n32_add, n32_mul, n32_toNat, n32_ix, bi_0n, Bool.true_and, Bool.true_eq_false, n32_ne, hM.1, m_ofM hM, decide_false, Bool.false_or, decide_eq_true_eq]
        by_cases h : z_I σ (M + 1) (242 + 5 * k + 1) ≤ z_I σ (M + 1) (242 + 5 * j + 1)
        · have h2 : ¬ z_I σ (M + 1) (242 + 5 * j + 1) < z_I σ (M + 1) (242 + 5 * k + 1) := by rw [Int32.not_lt]; exact h
          rw [if_pos h, if_neg h2]
        · have h2 : z_I σ (M + 1) (242 + 5 * j + 1) < z_I σ (M + 1) (242 + 5 * k + 1) := by rw [Int32.not_le] at h; exact h
          rw [if_neg h, if_pos h2]
theorem m_nextOf_43 (hM : zMs σ M) {k : Nat} (hk : k < 100) (x : Int32) {b : Int32} (hbb : b = nn ∨ ∃ j, j < 100 ∧ b = n32 j) (w : Bool) {best : Int32} (hb : best = nn ∨ ∃ j, j < k ∧ best = n32 j) :
    f_X10_nextOf_43 σ M x b best (n32 k) (bi w) = some (.inl ((if (w && s_bh (z_I σ (M + 1)) b k && (decide (best = nn) || decide (z_I σ (M + 1) (242 + 5 * best.toNatClampNeg + 1) < z_I σ (M + 1) (242 + 5 * k + 1)))) = true then n32 k else best), n32 (k + 1))) := by
  have A : ∀ v : Bool, f_X10_nextOf_93 σ M x b best (n32 k) (bi w) (bi v) = some (.inl ((if (w && v && (decide (best = nn) || decide (z_I σ (M + 1) (242 + 5 * best.toNatClampNeg + 1) < z_I σ (M + 1) (242 + 5 * k + 1)))) = true then n32 k else best), n32 (k + 1))) := fun v => m_nextOf_93 hM hk x b w v hb
  rcases hbb with hbb | ⟨j, hj, hbb⟩
  · subst hbb
    rw [s_bh_nn, ← A true]
    simp only [f_X10_nextOf_43, f_X10_nextOf_88, ↓zl_eq, ↓zb_eq, ↓zb2_eq, ↓zc_some, ↓zc_none, ↓zb_pre, ↓zb2_pre, ↓zc_pre, ↓zex_eq, ↓reduceIte, Option.isSome_some, Option.isSome_none, Option.getD_some, n32_nn]
    rfl
  · subst hbb
    rw [s_bh_n _ hj _ hk, ← A]
    simp (disch := omega) only [f_X10_nextOf_43, f_X10_nextOf_88, f_X10_nextOf_92, ↓zl_eq, ↓zb_eq, ↓zb2_eq, ↓zc_some, ↓zc_none, ↓zb_pre, ↓zb2_pre, ↓zc_pre, ↓zex_eq, ↓reduceIte, Option.isSome_some, Option.isSome_none, Option.getD_some, n32_lit, n32_nn, n32_nn2, n32_add, n32_mul, n32_toNat, n32_ix, n32_ne, hM.1, m_ofM hM, n32_le]
    by_cases h1 : z_I σ (M + 1) (242 + 5 * k + 1) < z_I σ (M + 1) (242 + 5 * j + 1)
    · rw [if_pos h1]; simp only [h1, decide_true, Bool.true_or]; rfl
    · rw [if_neg h1]
      by_cases h2 : z_I σ (M + 1) (242 + 5 * k + 1) = z_I σ (M + 1) (242 + 5 * j + 1)
      · rw [if_pos h2]
        by_cases h3 : k ≤ j
        · have h4 : ¬ j < k := by omega
          rw [if_pos h3]; simp only [h1, h4, decide_false, Bool.and_false, Bool.or_self]; rfl
        · have h4 : j < k := by omega
          rw [if_neg h3]; simp only [h2, h4, decide_true, Bool.and_self, Bool.or_true]; rfl
      · rw [if_neg h2]; simp only [h1, h2, decide_false, Bool.false_and, Bool.or_self]; rfl
theorem m_nextOf (hM : zMs σ M) {n : Nat} (hn : z_I σ (M + 1) 5 = n32 n) (hn2 : n ≤ 100) (x : Int32) {b : Int32} (hbb : b = nn ∨ ∃ j, j < 100 ∧ b = n32 j) : f_X10_nextOf σ M x b = some (s_next (z_I σ (M + 1)) x b) := by
  have e : s_next (z_I σ (M + 1)) x b = s_nx (z_I σ (M + 1)) x b n := by unfold s_next; rw [hn, n32_toNat (by omega)]
  rw [e]
  unfold f_X10_nextOf f_X10_nextOf_5
  refine zloop_go (fun k => (s_nx (z_I σ (M + 1)) x b k, n32 k)) _ n (fun k hk => ?_) ?_ (by unfold zN; omega)
  · have C : ∀ w : Bool, f_X10_nextOf_43 σ M x b (s_nx (z_I σ (M + 1)) x b k) (n32 k) (bi w) = _ := fun w => m_nextOf_43 hM (by omega) x hbb w (s_nx_rng (z_I σ (M + 1)) x b k)
    show b_X10_nextOf_5 σ M x b _ _ = some (.inl (if (s_wt (z_I σ (M + 1)) x k && s_bh (z_I σ (M + 1)) b k && (decide (s_nx (z_I σ (M + 1)) x b k = nn) || decide (z_I σ (M + 1) (242 + 5 * (s_nx (z_I σ (M + 1)) x b k).toNatClampNeg + 1) < z_I σ (M + 1) (242 + 5 * k + 1)))) = true then n32 k else s_nx (z_I σ (M + 1)) x b k, n32 (k + 1)))
    rw [← C]
    simp (disch := omega) only [b_X10_nextOf_5, f_X10_nextOf_42, ↓zl_eq, ↓zb_eq, ↓zb2_eq, ↓zc_some, ↓zc_none, ↓zb_pre, ↓zb2_pre, ↓zc_pre, ↓zex_eq, ↓reduceIte, Option.isSome_some, Option.isSome_none, Option.getD_some, n32_lit, n32_nn, n32_nn2, n32_add, n32_mul, n32_toNat, n32_ix, hM.1, hM.2.1, hM.2.2.1, hM.2.2.2.1, hM.2.2.2.2.1, hM.2.2.2.2.2.1, hM.2.2.2.2.2.2.1, hM.2.2.2.2.2.2.2.1, hM.2.2.2.2.2.2.2.2.1, hM.2.2.2.2.2.2.2.2.2.1, hM.2.2.2.2.2.2.2.2.2.2.1, hM.2.2.2.2.2.2.2.2.2.2.2.1, hM.2.2.2.2.2.2.2.2.2.2.2.2, hn, n32_le, m_ofM hM]
    rw [if_neg (by omega)]
    unfold s_wt
    by_cases h1 : z_I σ (M + 1) (242 + 5 * k + 2) = x
    · by_cases h2 : z_I σ (M + 1) (242 + 5 * k + 4) = nn
      · simp only [h1, h2, if_true, decide_true, Bool.and_self]; rfl
      · simp only [h1, h2, if_true, if_false, decide_true, decide_false, Bool.and_false]; rfl
    · simp only [h1, if_false, decide_false, Bool.false_and]; rfl
  · show b_X10_nextOf_5 σ M x b _ _ = _
    simp (disch := omega) only [b_X10_nextOf_5, ↓zl_eq, ↓zb_eq, ↓zb2_eq, ↓zc_some, ↓zc_none, ↓zb_pre, ↓zb2_pre, ↓zc_pre, ↓zex_eq, ↓reduceIte, Option.isSome_some, Option.isSome_none, Option.getD_some, n32_lit, n32_nn, n32_nn2, n32_add, n32_mul, n32_toNat, n32_ix, hM.1, hM.2.1, hM.2.2.1, hM.2.2.2.1, hM.2.2.2.2.1, hM.2.2.2.2.2.1, hM.2.2.2.2.2.2.1, hM.2.2.2.2.2.2.2.1, hM.2.2.2.2.2.2.2.2.1, hM.2.2.2.2.2.2.2.2.2.1, hM.2.2.2.2.2.2.2.2.2.2.1, hM.2.2.2.2.2.2.2.2.2.2.2.1, hM.2.2.2.2.2.2.2.2.2.2.2.2, hn, n32_le, Nat.le_refl]
theorem s_next_rng (g : zG) (x b : Int32) {n : Nat} (hn : g 5 = n32 n) (hn2 : n ≤ 100) : s_next g x b = nn ∨ ∃ j, j < n ∧ s_next g x b = n32 j := by
  unfold s_next
  rw [hn, n32_toNat (by omega)]
  exact s_nx_rng g x b n
def s_sum (F : Nat → Int32) : Nat → Int32
  | 0 => n32 0
  | k + 1 => s_sum F k + F k
theorem m_stations (hM : zMs σ M) : f_X10_stations σ M = some (s_sum (fun x => z_I σ (M + 1) (18 + 7 * x + 0)) 32) := by
  unfold f_X10_stations f_X10_stations_4
  refine zloop_go (fun k => (s_sum (fun x => z_I σ (M + 1) (18 + 7 * x + 0)) k, n32 k)) _ 32 (fun k hk => ?_) ?_ (by unfold zN; omega)
  · show b_X10_stations_4 σ M _ _ = some (.inl (s_sum (fun x => z_I σ (M + 1) (18 + 7 * x + 0)) k + z_I σ (M + 1) (18 + 7 * k + 0), n32 (k + 1)))
    simp (disch := omega) only [b_X10_stations_4, ↓zl_eq, ↓zb_eq, ↓zb2_eq, ↓zc_some, ↓zc_none, ↓zb_pre, ↓zb2_pre, ↓zc_pre, ↓zex_eq, ↓reduceIte, Option.isSome_some, Option.isSome_none, Option.getD_some, n32_lit, n32_nn, n32_nn2, n32_add, n32_mul, n32_toNat, n32_ix, hM.1, hM.2.1, hM.2.2.1, hM.2.2.2.1, hM.2.2.2.2.1, hM.2.2.2.2.2.1, hM.2.2.2.2.2.2.1, hM.2.2.2.2.2.2.2.1, hM.2.2.2.2.2.2.2.2.1, hM.2.2.2.2.2.2.2.2.2.1, hM.2.2.2.2.2.2.2.2.2.2.1, hM.2.2.2.2.2.2.2.2.2.2.2.1, hM.2.2.2.2.2.2.2.2.2.2.2.2, n32_le, m_of hM]
    rw [if_neg (by omega)]
  · show b_X10_stations_4 σ M _ _ = _
    simp (disch := omega) only [b_X10_stations_4, ↓zl_eq, ↓zb_eq, ↓zb2_eq, ↓zc_some, ↓zc_none, ↓zb_pre, ↓zb2_pre, ↓zc_pre, ↓zex_eq, ↓reduceIte, Option.isSome_some, Option.isSome_none, Option.getD_some, n32_lit, n32_nn, n32_nn2, n32_add, n32_mul, n32_toNat, n32_ix, n32_le, Nat.le_refl]
theorem m_ring (hM : zMs σ M) {x : Nat} (hx : x < 32) : f_X10_isInRing σ M (n32 x) = some (bi (s_ring (z_I σ (M + 1)) x)) := m_isInRing hM hx
theorem m_inRing (hM : zMs σ M) : f_X10_inRing σ M = some (n32 (s_cnt (s_ring (z_I σ (M + 1))) 32)) := by
  unfold f_X10_inRing f_X10_inRing_4
  refine zloop_go (fun k => (n32 (s_cnt (s_ring (z_I σ (M + 1))) k), n32 k)) _ 32 (fun k hk => ?_) ?_ (by unfold zN; omega)
  · show b_X10_inRing_4 σ M _ _ = some (.inl (n32 (s_cnt (s_ring (z_I σ (M + 1))) k + if s_ring (z_I σ (M + 1)) k = true then 1 else 0), n32 (k + 1)))
    simp (disch := omega) only [b_X10_inRing_4, f_X10_inRing_24, ↓zl_eq, ↓zb_eq, ↓zb2_eq, ↓zc_some, ↓zc_none, ↓zb_pre, ↓zb2_pre, ↓zc_pre, ↓zex_eq, ↓reduceIte, Option.isSome_some, Option.isSome_none, Option.getD_some, n32_lit, n32_nn, n32_nn2, n32_add, n32_mul, n32_toNat, n32_ix, hM.1, hM.2.1, hM.2.2.1, hM.2.2.2.1, hM.2.2.2.2.1, hM.2.2.2.2.2.1, hM.2.2.2.2.2.2.1, hM.2.2.2.2.2.2.2.1, hM.2.2.2.2.2.2.2.2.1, hM.2.2.2.2.2.2.2.2.2.1, hM.2.2.2.2.2.2.2.2.2.2.1, hM.2.2.2.2.2.2.2.2.2.2.2.1, hM.2.2.2.2.2.2.2.2.2.2.2.2, n32_le, m_ring hM, bi_0n]
    rw [if_neg (by omega)]
    cases s_ring (z_I σ (M + 1)) k <;> simp
  · show b_X10_inRing_4 σ M _ _ = _
    simp (disch := omega) only [b_X10_inRing_4, ↓zl_eq, ↓zb_eq, ↓zb2_eq, ↓zc_some, ↓zc_none, ↓zb_pre, ↓zb2_pre, ↓zc_pre, ↓zex_eq, ↓reduceIte, Option.isSome_some, Option.isSome_none, Option.getD_some, n32_lit, n32_nn, n32_nn2, n32_add, n32_mul, n32_toNat, n32_ix, n32_le, Nat.le_refl]
end MODEL
end
section
/-! a made token -/
def s_low (P : Nat → Bool) (h0 : Int32) : Nat → Int32
  | 0 => h0
  | k + 1 => if P (31 - k) = true then n32 (31 - k) else s_low P h0 k
def s_isOn (g : zG) (x : Nat) : Bool := decide (g (18 + 7 * x + 0) = n32 1) && decide (g (18 + 7 * x + 1) = n32 1)
def s_h1 (g : zG) : Int32 := s_low (s_isOn g) nn 32
def s_h2 (g : zG) : Int32 := s_low (s_ring g) (s_h1 g) 32
def s_dn (k : Nat) : Int32 := if k < 32 then n32 (31 - k) else n32 31 - n32 k
theorem s_low_rng (P : Nat → Bool) (h0 : Int32) (h : h0 = nn ∨ ∃ x, x < 32 ∧ h0 = n32 x) (k : Nat) : s_low P h0 k = nn ∨ ∃ x, x < 32 ∧ s_low P h0 k = n32 x := by
  induction k with
  | zero => exact h
  | succ k ih =>
    unfold s_low
    split
    · exact Or.inr ⟨31 - k, by omega, rfl⟩
    · exact ih
def s_tok (g : zG) (h : Nat) : zG :=
  let g1 := gu g 3 (g 3 + g 1 * n32 (6 + 2 * h))
  let g2 := if s_ring g h = true then g1 else gu (gu g1 (18 + 7 * h + 2) (n32 1)) (18 + 7 * h + 3) (n32 h)
  gu (gu g2 4 (n32 h)) 12 (g 12 + n32 1)
section MODEL
variable {σ : zSt} {M : Nat}
theorem n32_dn {k : Nat} (h : k < 32) : n32 (31 - k) + nn = s_dn (k + 1) := by
  unfold s_dn
  have e0 : nn = n32 0 - n32 1 := rfl
  by_cases h1 : k + 1 < 32
  · rw [if_pos h1]
    have e : n32 (31 - (k + 1)) + n32 1 = n32 (31 - k) := by rw [n32_add]; congr 1; omega
    rw [← e, Int32.add_assoc]
    have e2 : n32 1 + nn = n32 0 := rfl
    rw [e2, n32_add]; rfl
  · have : k = 31 := by omega
    subst this
    rfl
theorem m_low1 (hM : zMs σ M) {h0 : Int32} : ∀ r, f_X10_makesToken_44 σ M (s_low (s_isOn (z_I σ (M + 1))) h0 32) (n32 31) = some r → f_X10_makesToken_5 σ M h0 (n32 31) = some r := by
  intro r hr
  unfold f_X10_makesToken_5
  refine zloop_go (fun k => (s_low (s_isOn (z_I σ (M + 1))) h0 k, s_dn k)) _ 32 (fun k hk => ?_) ?_ (by unfold zN; omega)
  · show b_X10_makesToken_5 σ M _ (s_dn k) = some (.inl (if s_isOn (z_I σ (M + 1)) (31 - k) = true then n32 (31 - k) else s_low (s_isOn (z_I σ (M + 1))) h0 k, s_dn (k + 1)))
    have e : s_dn k = n32 (31 - k) := if_pos hk
    rw [e, ← n32_dn hk]
    simp (disch := omega) only [b_X10_makesToken_5, f_X10_makesToken_33, f_X10_makesToken_34, ↓zl_eq, ↓zb_eq, ↓zb2_eq, ↓zc_some, ↓zc_none, ↓zb_pre, ↓zb2_pre, ↓zc_pre, ↓zex_eq, ↓reduceIte, Option.isSome_some, Option.isSome_none, Option.getD_some, n32_lit, n32_nn, n32_nn2, n32_add, n32_mul, n32_toNat, n32_ix, hM.1, hM.2.1, hM.2.2.1, hM.2.2.2.1, hM.2.2.2.2.1, hM.2.2.2.2.2.1, hM.2.2.2.2.2.2.1, hM.2.2.2.2.2.2.2.1, hM.2.2.2.2.2.2.2.2.1, hM.2.2.2.2.2.2.2.2.2.1, hM.2.2.2.2.2.2.2.2.2.2.1, hM.2.2.2.2.2.2.2.2.2.2.2.1, hM.2.2.2.2.2.2.2.2.2.2.2.2, n32_lt, m_of hM]
    rw [if_neg (by omega)]
    have e9 : s_isOn (z_I σ (M + 1)) (31 - k) = (decide (z_I σ (M + 1) (18 + 7 * (31 - k) + 0) = n32 1) && decide (z_I σ (M + 1) (18 + 7 * (31 - k) + 1) = n32 1)) := rfl
    rw [e9]
    by_cases h1 : z_I σ (M + 1) (18 + 7 * (31 - k) + 0) = n32 1 <;> by_cases h2 : z_I σ (M + 1) (18 + 7 * (31 - k) + 1) = n32 1 <;> simp only [h1, h2, ↓reduceIte, decide_true, decide_false, Bool.and_false, Bool.false_and, Bool.and_self, Bool.false_eq_true]
  · show b_X10_makesToken_5 σ M _ (s_dn 32) = _
    unfold b_X10_makesToken_5
    rw [if_pos (by decide)]
    have e2 : (31 : Int32) = n32 31 := rfl
    rw [e2, hr]
    rfl
theorem m_low2 (hM : zMs σ M) {h0 : Int32} : ∀ r, b_X10_makesToken_44 σ M (s_low (s_ring (z_I σ (M + 1))) h0 32) (s_dn 32) = some (.inr r) → f_X10_makesToken_44 σ M h0 (n32 31) = some r := by
  intro r hr
  unfold f_X10_makesToken_44
  refine zloop_go (fun k => (s_low (s_ring (z_I σ (M + 1))) h0 k, s_dn k)) _ 32 (fun k hk => ?_) hr (by unfold zN; omega)
  show b_X10_makesToken_44 σ M _ (s_dn k) = some (.inl (if s_ring (z_I σ (M + 1)) (31 - k) = true then n32 (31 - k) else s_low (s_ring (z_I σ (M + 1))) h0 k, s_dn (k + 1)))
  have e : s_dn k = n32 (31 - k) := if_pos hk
  rw [e, ← n32_dn hk]
  unfold b_X10_makesToken_44
  have e3 : (0 : Int32) = n32 0 := rfl
  have e4 : ¬ n32 (31 - k) < 0 := by rw [e3, n32_lt (by omega) (by omega)]; omega
  rw [if_neg e4]
  simp (disch := omega) only [f_X10_makesToken_61, ↓zl_eq, ↓zb_eq, ↓zb2_eq, ↓zc_some, ↓zc_none, ↓zb_pre, ↓zb2_pre, ↓zc_pre, ↓zex_eq, ↓reduceIte, Option.isSome_some, Option.isSome_none, Option.getD_some, n32_lit, n32_nn, n32_nn2, n32_add, n32_mul, n32_toNat, n32_ix, hM.1, hM.2.1, hM.2.2.1, hM.2.2.2.1, hM.2.2.2.2.1, hM.2.2.2.2.2.1, hM.2.2.2.2.2.2.1, hM.2.2.2.2.2.2.2.1, hM.2.2.2.2.2.2.2.2.1, hM.2.2.2.2.2.2.2.2.2.1, hM.2.2.2.2.2.2.2.2.2.2.1, hM.2.2.2.2.2.2.2.2.2.2.2.1, hM.2.2.2.2.2.2.2.2.2.2.2.2, m_ring hM, bi_0n]
  cases s_ring (z_I σ (M + 1)) (31 - k) <;> rfl
theorem m_makesToken0 (hM : zMs σ M) (h : s_h2 (z_I σ (M + 1)) = nn) : f_X10_makesToken σ M = some (n32 0, σ) := by
  unfold f_X10_makesToken
  refine m_low1 hM _ (m_low2 hM _ ?_)
  have e : s_low (s_ring (z_I σ (M + 1))) (s_low (s_isOn (z_I σ (M + 1))) (-1) 32) 32 = nn := h
  rw [e]
  rfl
theorem m_makesToken1 (hM : zMs σ M) {x : Nat} (hx : x < 32) (h : s_h2 (z_I σ (M + 1)) = n32 x) : f_X10_makesToken σ M = some (n32 1, z_sA σ (M + 1) (s_tok (z_I σ (M + 1)) x)) := by
  unfold f_X10_makesToken
  refine m_low1 hM _ (m_low2 hM _ ?_)
  have e : s_low (s_ring (z_I σ (M + 1))) (s_low (s_isOn (z_I σ (M + 1))) (-1) 32) 32 = n32 x := h
  rw [e]
  unfold b_X10_makesToken_44
  rw [if_pos (by decide)]
  have e5 : s_ring (gu (z_I σ (M + 1)) 3 (z_I σ (M + 1) 3 + z_I σ (M + 1) 1 * n32 (6 + 2 * x))) x = s_ring (z_I σ (M + 1)) x := by
    unfold s_ring
    simp (disch := omega) only [gu_ne]
  simp (disch := omega) only [f_X10_makesToken_127, f_X10_at, ↓zl_eq, ↓zb_eq, ↓zb2_eq, ↓zc_some, ↓zc_none, ↓zb_pre, ↓zb2_pre, ↓zc_pre, ↓zex_eq, ↓reduceIte, Option.isSome_some, Option.isSome_none, Option.getD_some, n32_lit, n32_nn, n32_nn2, n32_add, n32_mul, n32_toNat, n32_ix, hM.1, hM.2.1, hM.2.2.1, hM.2.2.2.1, hM.2.2.2.2.1, hM.2.2.2.2.2.1, hM.2.2.2.2.2.2.1, hM.2.2.2.2.2.2.2.1, hM.2.2.2.2.2.2.2.2.1, hM.2.2.2.2.2.2.2.2.2.1, hM.2.2.2.2.2.2.2.2.2.2.1, hM.2.2.2.2.2.2.2.2.2.2.2.1, hM.2.2.2.2.2.2.2.2.2.2.2.2, z_pI_eq, z_sA_sA, z_I_sA, z_J_sA, z_R_sA, z_ob_sA, z_ar_sA, z_ln_sA, z_nx_sA, n32_ne, m_ring (zMs_sA hM _ _), e5, bi_0n, gu_ne, gu_same, s_tok]
  cases s_ring (z_I σ (M + 1)) x <;> simp (disch := omega) only [↓reduceIte, gu_ne, gu_same, Bool.true_eq_false, Bool.false_eq_true] <;> rfl
end MODEL
end
section
theorem s_takes_ne (g : zG) (t : Int32) {j : Nat} (h : j ≠ 3) (h2 : j ≠ 11) : s_takes g t j = g j := by
  unfold s_takes; rw [gu_ne _ _ h2, gu_ne _ _ h]
theorem s_takes_3 (g : zG) (t : Int32) : s_takes g t 3 = g 3 + t := by
  unfold s_takes; rw [gu_ne _ _ (by decide), gu_same]
theorem n32_div {a b : Nat} (ha : a < 2147483648) (hb : b < 2147483648) : n32 a / n32 b = n32 (a / b) := by
  have h1 : a / b ≤ a := Nat.div_le_self a b
  rw [← Int32.toInt_inj, Int32.toInt_div, n32_toInt ha, n32_toInt hb, n32_toInt (by omega)]
  have e : (a : Int).tdiv (b : Int) = ((a / b : Nat) : Int) := rfl
  rw [e]
  generalize a / b = c at h1 ⊢
  apply Int.bmod_eq_of_le <;> omega
theorem n32_mod {a b : Nat} (ha : a < 2147483648) (hb : b < 2147483648) : n32 a - n32 a / n32 b * n32 b = n32 (a % b) := by
  rw [n32_div ha hb, n32_mul, n32_sub (Nat.div_mul_le_self a b)]
  congr 1
  have := Nat.div_add_mod a b
  rw [Nat.mul_comm] at this
  omega
def s_bhd (h o : Nat) : Nat := if (o + 32 - h) % 32 = 0 then 32 else (o + 32 - h) % 32
def s_tick (g : zG) : zG := gu g 3 (g 3 + g 1)
theorem s_tick_ne (g : zG) {j : Nat} (h : j ≠ 3) : s_tick g j = g j := by unfold s_tick; rw [gu_ne _ _ h]
/-- the wait of the first message of a queue is set: the array behind an unspoilt sending -/
def s_sent (g g1 : zG) (m : Nat) : zG := gu (gu (gu g1 (242 + 5 * m + 4) (g 3 - g (242 + 5 * m + 3))) 10 (g 10 + n32 1)) 15 (g 15 + g (242 + 5 * m + 0))
def s_spoilt (g : zG) (m : Nat) : Bool := s_loud g (g 3) (g 3 + g (242 + 5 * m + 0) - n32 1)
def s_sends (g : zG) (m : Nat) : zG := if s_spoilt g m = true then s_takes g (g (242 + 5 * m + 0)) else s_sent g (s_takes g (g (242 + 5 * m + 0))) m
section MODEL
variable {σ : zSt} {M : Nat}
theorem m_behind {h o : Nat} (hh : h < 32) (ho : o < 32) : f_X10_behind σ (n32 h) (n32 o) = some (n32 (s_bhd h o)) := by
  have e : n32 o - n32 h + n32 32 = n32 (o + 32 - h) := by
    have e1 : n32 (o + 32 - h) + n32 h = n32 o + n32 32 := by rw [n32_add, n32_add]; congr 1; omega
    have e2 : n32 (o + 32 - h) = n32 o + n32 32 - n32 h := by rw [← e1, Int32.add_sub_cancel]
    rw [e2, Int32.sub_eq_add_neg, Int32.sub_eq_add_neg, Int32.add_assoc, Int32.add_assoc, Int32.add_comm (-n32 h)]
  have h1 : (o + 32 - h) % 32 < 32 := Nat.mod_lt _ (by decide)
  simp (disch := omega) only [f_X10_behind, f_X10_behind_20, ↓zl_eq, ↓zb_eq, ↓zb2_eq, ↓zc_some, ↓zc_none, ↓zb_pre, ↓zb2_pre, ↓zc_pre, ↓zex_eq, ↓reduceIte, Option.isSome_some, Option.isSome_none, Option.getD_some, n32_lit, e, n32_mod, n32_eq]
  unfold s_bhd
  split <;> rfl
theorem m_sends (hM : zMs σ M) {n q : Nat} (hn : z_I σ (M + 1) 6 = n32 n) (hn2 : n ≤ 20) (hq : z_I σ (M + 1) 5 = n32 q) (hq2 : q ≤ 100) (x : Int32) {m : Nat} (hm : m < 100) (hx : s_next (z_I σ (M + 1)) x nn = n32 m) :
    f_X10_sends σ M x = some (bi (s_spoilt (z_I σ (M + 1)) m), z_sA σ (M + 1) (s_sends (z_I σ (M + 1)) m)) := by
  simp (disch := omega) only [f_X10_sends, f_X10_inMessage, ↓zl_eq, ↓zb_eq, ↓zb2_eq, ↓zc_some, ↓zc_none, ↓zb_pre, ↓zb2_pre, ↓zc_pre, ↓zex_eq, ↓reduceIte, Option.isSome_some, Option.isSome_none, Option.getD_some, n32_lit, n32_nn, n32_nn2, n32_add, n32_mul, n32_toNat, n32_ix, hM.1, hM.2.1, hM.2.2.1, hM.2.2.2.1, hM.2.2.2.2.1, hM.2.2.2.2.2.1, hM.2.2.2.2.2.2.1, hM.2.2.2.2.2.2.2.1, hM.2.2.2.2.2.2.2.2.1, hM.2.2.2.2.2.2.2.2.2.1, hM.2.2.2.2.2.2.2.2.2.2.1, hM.2.2.2.2.2.2.2.2.2.2.2.1, hM.2.2.2.2.2.2.2.2.2.2.2.2, z_pI_eq, z_sA_sA, z_I_sA, z_J_sA, z_R_sA, z_ob_sA, z_ar_sA, z_ln_sA, z_nx_sA, m_nextOf hM hq hq2 x (Or.inl rfl), hx, m_ofM hM, m_takes hM hn hn2, m_ofM (zMs_sA hM _ _), bi_0n, gu_ne, gu_same, s_takes_ne]
  unfold s_sends s_spoilt s_sent
  cases s_loud (z_I σ (M + 1)) (z_I σ (M + 1) 3) (z_I σ (M + 1) 3 + z_I σ (M + 1) (242 + 5 * m + 0) - n32 1) <;> rfl
end MODEL
end
section
/-! a visit -/
theorem zloop_r {S R : Type} {body : S → Option (S ⊕ R)} {N : Nat} {s : S} {r : R} (h : body s = some (.inr r)) : zloop body (N + 1) s = some r := by
  unfold zloop; rw [h]
theorem zloop_l {S R : Type} {body : S → Option (S ⊕ R)} {N : Nat} {s t : S} (h : body s = some (.inl t)) : zloop body (N + 1) s = zloop body N t := by
  conv => lhs; unfold zloop
  rw [h]
/-- what every row of a visit asks of the array -/
def s_ok (g : zG) : Prop := (∃ n, n ≤ 20 ∧ g 6 = n32 n) ∧ (∃ q, q ≤ 100 ∧ g 5 = n32 q)
def s_stop (x t0 al : Int32) (g : zG) (sp : Bool) : Bool := sp || decide (s_next g x nn = nn) || decide (al ≤ g 3 - t0)
def s_sl (x t0 al : Int32) : Nat → zG → Bool → zG
  | 0, g, _ => g
  | k + 1, g, sp => if s_stop x t0 al g sp = true then g else s_sl x t0 al k (s_sends g (s_next g x nn).toNatClampNeg) (s_spoilt g (s_next g x nn).toNatClampNeg)
/-- the loop ends within so many rounds -/
def s_fin (x t0 al : Int32) : Nat → zG → Bool → Prop
  | 0, g, sp => s_stop x t0 al g sp = true
  | k + 1, g, sp => s_stop x t0 al g sp = true ∨ s_fin x t0 al k (s_sends g (s_next g x nn).toNatClampNeg) (s_spoilt g (s_next g x nn).toNatClampNeg)
theorem s_sends_ne (g : zG) (m : Nat) {j : Nat} (h1 : j ≠ 3) (h2 : j ≠ 11) (h3 : j ≠ 10) (h4 : j ≠ 15) (h5 : j ≠ 242 + 5 * m + 4) : s_sends g m j = g j := by
  unfold s_sends s_sent
  split
  · exact s_takes_ne _ _ h1 h2
  · rw [gu_ne _ _ h4, gu_ne _ _ h3, gu_ne _ _ h5, s_takes_ne _ _ h1 h2]
theorem s_ok_sends {g : zG} (h : s_ok g) (m : Nat) : s_ok (s_sends g m) := by
  obtain ⟨⟨n, h1, h2⟩, ⟨q, h3, h4⟩⟩ := h
  exact ⟨⟨n, h1, by rw [s_sends_ne _ _ (by decide) (by decide) (by decide) (by decide) (by omega)]; exact h2⟩, ⟨q, h3, by rw [s_sends_ne _ _ (by decide) (by decide) (by decide) (by decide) (by omega)]; exact h4⟩⟩
theorem s_next_ok {g : zG} (h : s_ok g) (x b : Int32) : s_next g x b = nn ∨ ∃ j, j < 100 ∧ s_next g x b = n32 j := by
  obtain ⟨_, ⟨q, h3, h4⟩⟩ := h
  rcases s_next_rng g x b h4 h3 with h | ⟨j, h5, h6⟩
  · exact Or.inl h
  · exact Or.inr ⟨j, by omega, h6⟩
def s_urg (g : zG) (x : Int32) : Bool := !(decide (s_next g x nn = nn)) && !(decide (g (242 + 5 * (s_next g x nn).toNatClampNeg + 1) < n32 5))
/-- the first one as well, if it is urgent -/
def s_all (x t0 al : Int32) (k : Nat) (g : zG) : zG :=
  if s_urg g x = true then s_sl x t0 al k (s_sends g (s_next g x nn).toNatClampNeg) (s_spoilt g (s_next g x nn).toNatClampNeg) else s_sl x t0 al k g false
def s_allfin (x t0 al : Int32) (k : Nat) (g : zG) : Prop :=
  if s_urg g x = true then s_fin x t0 al k (s_sends g (s_next g x nn).toNatClampNeg) (s_spoilt g (s_next g x nn).toNatClampNeg) else s_fin x t0 al k g false
def s_shift (g : zG) (n : Nat) : zG := fun j => if 782 ≤ j ∧ j < 782 + n then g (j + 4) else g j
def s_put (g : zG) (k : Nat) (t0 h rot sent : Int32) : zG := gu (gu (gu (gu (gu g (782 + 4 * k) t0) (782 + 4 * k + 1) h) (782 + 4 * k + 2) rot) (782 + 4 * k + 3) sent) 7 (n32 (k + 1))
def s_log (g : zG) (k : Nat) (t0 h rot sent : Int32) : zG := if k = 40 then s_put (gu (s_shift g 156) 7 (n32 39)) 39 t0 h rot sent else s_put g k t0 h rot sent
section MODEL
variable {σ : zSt} {M : Nat}
theorem m_sl (x t0 al : Int32) : ∀ (k : Nat) (σ : zSt) (sp : Bool), zMs σ M → s_ok (z_I σ (M + 1)) → s_fin x t0 al k (z_I σ (M + 1)) sp → ∀ N, k < N →
    zloop (fun (t : zSt × Int32) => b_X10_sendsAll_40 M x t0 al t.1 t.2) N (σ, bi sp) = some (z_sA σ (M + 1) (s_sl x t0 al k (z_I σ (M + 1)) sp)) := by
  intro k
  induction k with
  | zero =>
    intro σ sp hM ho hf N hN
    obtain ⟨N, rfl⟩ : ∃ N', N = N' + 1 := ⟨N - 1, by omega⟩
    obtain ⟨⟨n, h1, h2⟩, ⟨q, h3, h4⟩⟩ := ho
    have e : b_X10_sendsAll_40 M x t0 al σ (bi sp) = some (.inr σ) := by
      simp only [s_fin, s_stop, Bool.or_eq_true, decide_eq_true_eq] at hf
      simp (disch := omega) only [b_X10_sendsAll_40, f_X10_sendsAll_77, ↓zl_eq, ↓zb_eq, ↓zb2_eq, ↓zc_some, ↓zc_none, ↓zb_pre, ↓zb2_pre, ↓zc_pre, ↓zex_eq, ↓reduceIte, Option.isSome_some, Option.isSome_none, Option.getD_some, n32_lit, n32_nn, n32_nn2, n32_add, n32_mul, n32_toNat, n32_ix, hM.1, hM.2.1, hM.2.2.1, hM.2.2.2.1, hM.2.2.2.2.1, hM.2.2.2.2.2.1, hM.2.2.2.2.2.2.1, hM.2.2.2.2.2.2.2.1, hM.2.2.2.2.2.2.2.2.1, hM.2.2.2.2.2.2.2.2.2.1, hM.2.2.2.2.2.2.2.2.2.2.1, hM.2.2.2.2.2.2.2.2.2.2.2.1, hM.2.2.2.2.2.2.2.2.2.2.2.2, bi_0n, m_nextOf hM h4 h3 x (Or.inl rfl)]
      cases sp with
      | true => simp only [Bool.true_eq_false, ↓reduceIte]
      | false =>
        simp only [↓reduceIte]
        by_cases hz : s_next (z_I σ (M + 1)) x nn = nn
        · rw [if_pos hz]
        · have hf3 : al ≤ z_I σ (M + 1) 3 - t0 := by
            rcases hf with (hf | hf) | hf
            · cases hf
            · exact absurd hf hz
            · exact hf
          rw [if_neg hz, if_pos hf3]
    refine (zloop_r e).trans ?_
    unfold s_sl
    rw [z_sA_id]
  | succ k ih =>
    intro σ sp hM ho hf N hN
    obtain ⟨N, rfl⟩ : ∃ N', N = N' + 1 := ⟨N - 1, by omega⟩
    have ho2 := ho
    obtain ⟨⟨n, h1, h2⟩, ⟨q, h3, h4⟩⟩ := ho
    by_cases hst : s_stop x t0 al (z_I σ (M + 1)) sp = true
    · have e : b_X10_sendsAll_40 M x t0 al σ (bi sp) = some (.inr σ) := by
        have hf := hst
        simp only [s_stop, Bool.or_eq_true, decide_eq_true_eq] at hf
        simp (disch := omega) only [b_X10_sendsAll_40, f_X10_sendsAll_77, ↓zl_eq, ↓zb_eq, ↓zb2_eq, ↓zc_some, ↓zc_none, ↓zb_pre, ↓zb2_pre, ↓zc_pre, ↓zex_eq, ↓reduceIte, Option.isSome_some, Option.isSome_none, Option.getD_some, n32_lit, n32_nn, n32_nn2, n32_add, n32_mul, n32_toNat, n32_ix, hM.1, hM.2.1, hM.2.2.1, hM.2.2.2.1, hM.2.2.2.2.1, hM.2.2.2.2.2.1, hM.2.2.2.2.2.2.1, hM.2.2.2.2.2.2.2.1, hM.2.2.2.2.2.2.2.2.1, hM.2.2.2.2.2.2.2.2.2.1, hM.2.2.2.2.2.2.2.2.2.2.1, hM.2.2.2.2.2.2.2.2.2.2.2.1, hM.2.2.2.2.2.2.2.2.2.2.2.2, bi_0n, m_nextOf hM h4 h3 x (Or.inl rfl)]
        cases sp with
        | true => simp only [Bool.true_eq_false, ↓reduceIte]
        | false =>
          simp only [↓reduceIte]
          by_cases hz : s_next (z_I σ (M + 1)) x nn = nn
          · rw [if_pos hz]
          · have hf3 : al ≤ z_I σ (M + 1) 3 - t0 := by
              rcases hf with (hf | hf) | hf
              · cases hf
              · exact absurd hf hz
              · exact hf
            rw [if_neg hz, if_pos hf3]
      refine (zloop_r e).trans ?_
      unfold s_sl
      rw [if_pos hst, z_sA_id]
    · have hfin : s_fin x t0 al k (s_sends (z_I σ (M + 1)) (s_next (z_I σ (M + 1)) x nn).toNatClampNeg) (s_spoilt (z_I σ (M + 1)) (s_next (z_I σ (M + 1)) x nn).toNatClampNeg) := by
        rcases hf with hf | hf
        · exact absurd hf hst
        · exact hf
      have hsp : sp = false := by cases sp with
        | false => rfl
        | true => exact absurd (by simp [s_stop]) hst
      subst hsp
      have hnn : s_next (z_I σ (M + 1)) x nn ≠ nn := fun hz => hst (by simp [s_stop, hz])
      have hal : ¬ al ≤ z_I σ (M + 1) 3 - t0 := fun hz => hst (by simp [s_stop, hz])
      rcases s_next_ok ho2 x nn with hj | ⟨j, hj, hje⟩
      · exact absurd hj hnn
      have hjn : (s_next (z_I σ (M + 1)) x nn).toNatClampNeg = j := by rw [hje, n32_toNat (by omega)]
      have e : b_X10_sendsAll_40 M x t0 al σ (bi false) = some (.inl (z_sA σ (M + 1) (s_sends (z_I σ (M + 1)) j), bi (s_spoilt (z_I σ (M + 1)) j))) := by
        simp (disch := omega) only [b_X10_sendsAll_40, f_X10_sendsAll_77, ↓zl_eq, ↓zb_eq, ↓zb2_eq, ↓zc_some, ↓zc_none, ↓zb_pre, ↓zb2_pre, ↓zc_pre, ↓zex_eq, ↓reduceIte, Option.isSome_some, Option.isSome_none, Option.getD_some, n32_lit, n32_nn, n32_nn2, n32_add, n32_mul, n32_toNat, n32_ix, hM.1, hM.2.1, hM.2.2.1, hM.2.2.2.1, hM.2.2.2.2.1, hM.2.2.2.2.2.1, hM.2.2.2.2.2.2.1, hM.2.2.2.2.2.2.2.1, hM.2.2.2.2.2.2.2.2.1, hM.2.2.2.2.2.2.2.2.2.1, hM.2.2.2.2.2.2.2.2.2.2.1, hM.2.2.2.2.2.2.2.2.2.2.2.1, hM.2.2.2.2.2.2.2.2.2.2.2.2, bi_0n, m_nextOf hM h4 h3 x (Or.inl rfl), if_neg hnn, if_neg hal, m_sends hM h2 h1 h4 h3 x hj hje]
      refine (zloop_l e).trans ?_
      rw [hjn] at hfin
      have ho3 := s_ok_sends ho2 j
      rw [ih (z_sA σ (M + 1) (s_sends (z_I σ (M + 1)) j)) (s_spoilt (z_I σ (M + 1)) j) (zMs_sA hM _ _) (by rw [z_I_sA]; exact ho3) (by rw [z_I_sA]; exact hfin) N (by omega)]
      rw [z_I_sA, z_sA_sA]
      rw [show s_sl x t0 al (k + 1) (z_I σ (M + 1)) false = s_sl x t0 al k (s_sends (z_I σ (M + 1)) j) (s_spoilt (z_I σ (M + 1)) j) from by
        rw [← hjn]; exact if_neg hst]
theorem m_sendsAll (hM : zMs σ M) (ho : s_ok (z_I σ (M + 1))) (x t0 al : Int32) {k : Nat} (hk : k < 5000) (hf : s_allfin x t0 al k (z_I σ (M + 1))) : f_X10_sendsAll σ M x t0 al = some (z_sA σ (M + 1) (s_all x t0 al k (z_I σ (M + 1)))) := by
  have ho2 := ho
  obtain ⟨⟨n, h1, h2⟩, ⟨q, h3, h4⟩⟩ := ho
  simp only [s_allfin] at hf
  unfold s_all
  by_cases hnn : s_next (z_I σ (M + 1)) x nn = nn
  · have hu : s_urg (z_I σ (M + 1)) x = false := by simp [s_urg, hnn]
    simp only [hu, Bool.false_eq_true, if_false] at hf ⊢
    simp (disch := omega) only [f_X10_sendsAll, f_X10_sendsAll_37, f_X10_sendsAll_38, f_X10_sendsAll_40, ↓zl_eq, ↓zb_eq, ↓zb2_eq, ↓zc_some, ↓zc_none, ↓zb_pre, ↓zb2_pre, ↓zc_pre, ↓zex_eq, ↓reduceIte, Option.isSome_some, Option.isSome_none, Option.getD_some, n32_lit, n32_nn, n32_nn2, n32_add, n32_mul, n32_toNat, n32_ix, hM.1, m_nextOf hM h4 h3 x (Or.inl rfl), if_pos hnn]
    exact m_sl x t0 al k σ false hM ho2 hf zN hk
  · rcases s_next_ok ho2 x nn with hj | ⟨j, hj, hje⟩
    · exact absurd hj hnn
    have hjn : (s_next (z_I σ (M + 1)) x nn).toNatClampNeg = j := by rw [hje, n32_toNat (by omega)]
    by_cases h5 : z_I σ (M + 1) (242 + 5 * j + 1) < n32 5
    · have hu : s_urg (z_I σ (M + 1)) x = false := by unfold s_urg; rw [hjn]; simp [h5]
      simp only [hu, Bool.false_eq_true, if_false] at hf ⊢
      simp (disch := omega) only [f_X10_sendsAll, f_X10_sendsAll_37, f_X10_sendsAll_38, f_X10_sendsAll_40, ↓zl_eq, ↓zb_eq, ↓zb2_eq, ↓zc_some, ↓zc_none, ↓zb_pre, ↓zb2_pre, ↓zc_pre, ↓zex_eq, ↓reduceIte, Option.isSome_some, Option.isSome_none, Option.getD_some, n32_lit, n32_nn, n32_nn2, n32_add, n32_mul, n32_toNat, n32_ix, hM.1, m_nextOf hM h4 h3 x (Or.inl rfl), hje, n32_ne, m_ofM hM, if_pos h5]
      exact m_sl x t0 al k σ false hM ho2 hf zN hk
    · have hu : s_urg (z_I σ (M + 1)) x = true := by unfold s_urg; rw [hjn]; simp [h5, hnn]
      simp only [hu, if_true] at hf ⊢
      rw [hjn] at hf ⊢
      have ho3 := s_ok_sends ho2 j
      have A := fun N hN => m_sl (M := M) x t0 al k (z_sA σ (M + 1) (s_sends (z_I σ (M + 1)) j)) (s_spoilt (z_I σ (M + 1)) j) (zMs_sA hM _ _) (by rw [z_I_sA]; exact ho3) (by rw [z_I_sA]; exact hf) N hN
      rw [z_I_sA] at A
      simp only [z_sA_sA] at A
      rw [← A zN hk]
      simp (disch := omega) only [f_X10_sendsAll, f_X10_sendsAll_37, f_X10_sendsAll_38, f_X10_sendsAll_40, ↓zl_eq, ↓zb_eq, ↓zb2_eq, ↓zc_some, ↓zc_none, ↓zb_pre, ↓zb2_pre, ↓zc_pre, ↓zex_eq, ↓reduceIte, Option.isSome_some, Option.isSome_none, Option.getD_some, n32_lit, n32_nn, n32_nn2, n32_add, n32_mul, n32_toNat, n32_ix, hM.1, m_nextOf hM h4 h3 x (Or.inl rfl), hje, n32_ne, m_ofM hM, if_neg h5, m_sends hM h2 h1 h4 h3 x hj hje, bi_0n]
      cases s_spoilt (z_I σ (M + 1)) j <;> rfl
theorem m_log58 (hM : zMs σ M) {k : Nat} (hk : k < 40) (hg : z_I σ (M + 1) 7 = n32 k) (t0 h rot sent : Int32) : f_X10_logs_58 σ M t0 h rot sent = some (z_sA σ (M + 1) (s_put (z_I σ (M + 1)) k t0 h rot sent)) := by
  simp (disch := omega) only [f_X10_logs_58, ↓zl_eq, ↓zb_eq, ↓zb2_eq, ↓zc_some, ↓zc_none, ↓zb_pre, ↓zb2_pre, ↓zc_pre, ↓zex_eq, ↓reduceIte, Option.isSome_some, Option.isSome_none, Option.getD_some, n32_lit, n32_nn, n32_nn2, n32_add, n32_mul, n32_toNat, n32_ix, hM.1, hM.2.1, hM.2.2.1, hM.2.2.2.1, hM.2.2.2.2.1, hM.2.2.2.2.2.1, hM.2.2.2.2.2.2.1, hM.2.2.2.2.2.2.2.1, hM.2.2.2.2.2.2.2.2.1, hM.2.2.2.2.2.2.2.2.2.1, hM.2.2.2.2.2.2.2.2.2.2.1, hM.2.2.2.2.2.2.2.2.2.2.2.1, hM.2.2.2.2.2.2.2.2.2.2.2.2, z_pI_eq, z_sA_sA, z_I_sA, z_J_sA, z_R_sA, z_ob_sA, z_ar_sA, z_ln_sA, z_nx_sA, hg, gu_ne, gu_same, s_put]
theorem m_logs (hM : zMs σ M) {k : Nat} (hk : k ≤ 40) (hg : z_I σ (M + 1) 7 = n32 k) (t0 h rot sent : Int32) : f_X10_logs σ M t0 h rot sent = some (z_sA σ (M + 1) (s_log (z_I σ (M + 1)) k t0 h rot sent)) := by
  by_cases h40 : k = 40
  · subst h40
    simp (disch := omega) only [f_X10_logs, f_X10_logs_17, ↓zl_eq, ↓zb_eq, ↓zb2_eq, ↓zc_some, ↓zc_none, ↓zb_pre, ↓zb2_pre, ↓zc_pre, ↓zex_eq, ↓reduceIte, Option.isSome_some, Option.isSome_none, Option.getD_some, n32_lit, n32_nn, n32_nn2, n32_add, n32_mul, n32_toNat, n32_ix, hM.1, hM.2.1, hM.2.2.1, hM.2.2.2.1, hM.2.2.2.2.1, hM.2.2.2.2.2.1, hM.2.2.2.2.2.2.1, hM.2.2.2.2.2.2.2.1, hM.2.2.2.2.2.2.2.2.1, hM.2.2.2.2.2.2.2.2.2.1, hM.2.2.2.2.2.2.2.2.2.2.1, hM.2.2.2.2.2.2.2.2.2.2.2.1, hM.2.2.2.2.2.2.2.2.2.2.2.2, hg]
    unfold s_log
    rw [if_pos rfl]
    have A : ∀ k, k ≤ 156 → z_sA σ (M + 1) (s_shift (z_I σ (M + 1)) k) = z_sA σ (M + 1) (s_shift (z_I σ (M + 1)) k) := fun _ _ => rfl
    have e0 : (σ, n32 782) = ((fun k => (z_sA σ (M + 1) (s_shift (z_I σ (M + 1)) k), n32 (782 + k))) 0 : zSt × Int32) := by
      have : s_shift (z_I σ (M + 1)) 0 = z_I σ (M + 1) := by
        funext j; unfold s_shift; rw [if_neg (by omega)]
      simp only [this, z_sA_id, Nat.add_zero]
    rw [e0]
    refine zloop_go (N := zN) (fun k => (z_sA σ (M + 1) (s_shift (z_I σ (M + 1)) k), n32 (782 + k))) _ 156 (fun k hk => ?_) ?_ (by unfold zN; omega)
    · show b_X10_logs_17 M t0 h rot sent (z_sA σ (M + 1) (s_shift (z_I σ (M + 1)) k)) (n32 (782 + k)) = some (.inl (z_sA σ (M + 1) (s_shift (z_I σ (M + 1)) (k + 1)), n32 (782 + (k + 1))))
      simp (disch := omega) only [b_X10_logs_17, ↓zl_eq, ↓zb_eq, ↓zb2_eq, ↓zc_some, ↓zc_none, ↓zb_pre, ↓zb2_pre, ↓zc_pre, ↓zex_eq, ↓reduceIte, Option.isSome_some, Option.isSome_none, Option.getD_some, n32_lit, n32_nn, n32_nn2, n32_add, n32_mul, n32_toNat, n32_ix, hM.1, hM.2.1, hM.2.2.1, hM.2.2.2.1, hM.2.2.2.2.1, hM.2.2.2.2.2.1, hM.2.2.2.2.2.2.1, hM.2.2.2.2.2.2.2.1, hM.2.2.2.2.2.2.2.2.1, hM.2.2.2.2.2.2.2.2.2.1, hM.2.2.2.2.2.2.2.2.2.2.1, hM.2.2.2.2.2.2.2.2.2.2.2.1, hM.2.2.2.2.2.2.2.2.2.2.2.2, z_pI_eq, z_sA_sA, z_I_sA, z_J_sA, z_R_sA, z_ob_sA, z_ar_sA, z_ln_sA, z_nx_sA, n32_le]
      rw [if_neg (by omega)]
      have e : gu (s_shift (z_I σ (M + 1)) k) (782 + k) (s_shift (z_I σ (M + 1)) k (782 + k + 4)) = s_shift (z_I σ (M + 1)) (k + 1) := by
        funext j
        unfold gu s_shift
        by_cases hj : j = 782 + k
        · subst hj
          rw [if_pos rfl, if_neg (by omega), if_pos (by omega)]
        · rw [if_neg hj]
          by_cases hj2 : 782 ≤ j ∧ j < 782 + k
          · rw [if_pos hj2, if_pos (by omega)]
          · rw [if_neg hj2, if_neg (by omega)]
      rw [e]
      congr 3
    · show b_X10_logs_17 M t0 h rot sent (z_sA σ (M + 1) (s_shift (z_I σ (M + 1)) 156)) (n32 938) = _
      have e7 : s_shift (z_I σ (M + 1)) 156 7 = n32 40 := by
        unfold s_shift; rw [if_neg (by omega)]; exact hg
      have e8 : n32 40 - n32 1 = n32 39 := rfl
      simp (disch := omega) only [b_X10_logs_17, ↓zl_eq, ↓zb_eq, ↓zb2_eq, ↓zc_some, ↓zc_none, ↓zb_pre, ↓zb2_pre, ↓zc_pre, ↓zex_eq, ↓reduceIte, Option.isSome_some, Option.isSome_none, Option.getD_some, n32_lit, n32_nn, n32_nn2, n32_add, n32_mul, n32_toNat, n32_ix, hM.1, hM.2.1, hM.2.2.1, hM.2.2.2.1, hM.2.2.2.2.1, hM.2.2.2.2.2.1, hM.2.2.2.2.2.2.1, hM.2.2.2.2.2.2.2.1, hM.2.2.2.2.2.2.2.2.1, hM.2.2.2.2.2.2.2.2.2.1, hM.2.2.2.2.2.2.2.2.2.2.1, hM.2.2.2.2.2.2.2.2.2.2.2.1, hM.2.2.2.2.2.2.2.2.2.2.2.2, z_pI_eq, z_sA_sA, z_I_sA, z_J_sA, z_R_sA, z_ob_sA, z_ar_sA, z_ln_sA, z_nx_sA, n32_le, Nat.le_refl, e7, e8]
      rw [m_log58 (zMs_sA hM _ _) (k := 39) (by decide) (by rw [z_I_sA, gu_same])]
      rw [z_I_sA, z_sA_sA]
      rfl
  · simp (disch := omega) only [f_X10_logs, ↓zl_eq, ↓zb_eq, ↓zb2_eq, ↓zc_some, ↓zc_none, ↓zb_pre, ↓zb2_pre, ↓zc_pre, ↓zex_eq, ↓reduceIte, Option.isSome_some, Option.isSome_none, Option.getD_some, n32_lit, n32_nn, n32_nn2, n32_add, n32_mul, n32_toNat, n32_ix, hM.1, hM.2.1, hM.2.2.1, hM.2.2.2.1, hM.2.2.2.2.1, hM.2.2.2.2.2.1, hM.2.2.2.2.2.2.1, hM.2.2.2.2.2.2.2.1, hM.2.2.2.2.2.2.2.2.1, hM.2.2.2.2.2.2.2.2.2.1, hM.2.2.2.2.2.2.2.2.2.2.1, hM.2.2.2.2.2.2.2.2.2.2.2.1, hM.2.2.2.2.2.2.2.2.2.2.2.2, hg, n32_eq, if_neg h40, m_log58 hM (show k < 40 by omega) hg]
    unfold s_log
    rw [if_neg h40]
end MODEL
end
section
/-! polling, passing, a visit -/
def s_l1 (g : zG) : Bool := s_loud g (g 3) (g 3 + n32 1 - n32 1)
def s_come (g : zG) (h to : Nat) : zG := gu (gu (gu (gu (gu g (18 + 7 * to + 2) (n32 1)) (18 + 7 * to + 3) (g (18 + 7 * h + 3))) (18 + 7 * to + 4) (n32 to)) (18 + 7 * h + 3) (n32 to)) 13 (g 13 + n32 1)
def s_free (g : zG) (to : Nat) : Bool := decide (g (18 + 7 * to + 0) = n32 1) && decide (g (18 + 7 * to + 1) = n32 1) && decide (g (18 + 7 * to + 2) = n32 0)
/-- what is left of a poll when the first question has been asked -/
def s_asked (g : zG) (h to : Nat) : zG :=
  if s_free g to = true then (if s_l1 g = true then s_tick (s_takes g (n32 1)) else s_come (s_takes g (n32 1)) h to) else s_tick g
def s_poll (g : zG) (h to : Nat) : zG :=
  if s_l1 (gu g (18 + 7 * h + 4) (n32 to)) = true then s_tick (s_takes (gu g (18 + 7 * h + 4) (n32 to)) (n32 1)) else s_asked (s_takes (gu g (18 + 7 * h + 4) (n32 to)) (n32 1)) h to
def s_to (h nx gp : Nat) : Nat := if s_bhd h ((gp + 1) % 32) ≤ s_bhd h nx - 1 then (gp + 1) % 32 else (h + 1) % 32
theorem s_to_lt (h nx gp : Nat) : s_to h nx gp < 32 := by
  unfold s_to; split <;> exact Nat.mod_lt _ (by decide)
theorem s_bhd_le (h o : Nat) : 1 ≤ s_bhd h o ∧ s_bhd h o ≤ 32 := by
  have := Nat.mod_lt (o + 32 - h) (show 32 > 0 by decide)
  unfold s_bhd; split <;> omega
def s_polls (g : zG) (h nx gp : Nat) : zG :=
  if g (18 + 7 * h + 5) - g (18 + 7 * h + 5) / g 2 * g 2 = n32 0 then (if s_bhd h nx - 1 = 0 then g else s_poll g h (s_to h nx gp)) else g
section MODEL
variable {σ : zSt} {M n : Nat}
theorem m_takesA (hM : zMs σ M) (hn2 : n ≤ 20) (g : zG) (t : Int32) (hn : g 6 = n32 n) : f_X10_takes (z_sA σ (M + 1) g) M t = some (bi (s_loud g (g 3) (g 3 + t - n32 1)), z_sA σ (M + 1) (s_takes g t)) := by
  have := m_takes (zMs_sA hM (M + 1) g) (n := n) (by rw [z_I_sA]; exact hn) hn2 t
  rw [z_I_sA, z_sA_sA] at this
  exact this
theorem m_ringA (hM : zMs σ M) (g : zG) {x : Nat} (hx : x < 32) : f_X10_isInRing (z_sA σ (M + 1) g) M (n32 x) = some (bi (s_ring g x)) := by
  have := m_ring (zMs_sA hM (M + 1) g) hx
  rw [z_I_sA] at this
  exact this
theorem m_ofA (hM : zMs σ M) (g : zG) {x w : Nat} (hx : x < 32) (hw : w < 7) : f_X10_of (z_sA σ (M + 1) g) M (n32 x) (n32 w) = some (g (18 + 7 * x + w)) := by
  have := m_of (zMs_sA hM (M + 1) g) hx hw
  rw [z_I_sA] at this
  exact this
theorem m_polls131a (hM : zMs σ M) (g : zG) (h to : Nat) : f_X10_polls_131 (z_sA σ (M + 1) g) M (n32 h) (n32 to) (n32 0) = some (z_sA σ (M + 1) (s_tick g)) := by
  simp (disch := omega) only [f_X10_polls_131, f_X10_polls_216, ↓zl_eq, ↓zb_eq, ↓zb2_eq, ↓zc_some, ↓zc_none, ↓zb_pre, ↓zb2_pre, ↓zc_pre, ↓zex_eq, ↓reduceIte, Option.isSome_some, Option.isSome_none, Option.getD_some, n32_lit, n32_nn, n32_nn2, n32_add, n32_mul, n32_toNat, n32_ix, hM.1, hM.2.1, hM.2.2.1, hM.2.2.2.1, hM.2.2.2.2.1, hM.2.2.2.2.2.1, hM.2.2.2.2.2.2.1, hM.2.2.2.2.2.2.2.1, hM.2.2.2.2.2.2.2.2.1, hM.2.2.2.2.2.2.2.2.2.1, hM.2.2.2.2.2.2.2.2.2.2.1, hM.2.2.2.2.2.2.2.2.2.2.2.1, hM.2.2.2.2.2.2.2.2.2.2.2.2, z_pI_eq, z_sA_sA, z_I_sA, z_J_sA, z_R_sA, z_ob_sA, z_ar_sA, z_ln_sA, z_nx_sA, s_tick]
theorem m_polls131b (hM : zMs σ M) (g : zG) {h to : Nat} (hh : h < 32) (ht : to < 32) : f_X10_polls_131 (z_sA σ (M + 1) g) M (n32 h) (n32 to) (n32 1) = some (z_sA σ (M + 1) (s_come g h to)) := by
  simp (disch := omega) only [f_X10_polls_131, f_X10_polls_216, f_X10_at, ↓zl_eq, ↓zb_eq, ↓zb2_eq, ↓zc_some, ↓zc_none, ↓zb_pre, ↓zb2_pre, ↓zc_pre, ↓zex_eq, ↓reduceIte, Option.isSome_some, Option.isSome_none, Option.getD_some, n32_lit, n32_nn, n32_nn2, n32_add, n32_mul, n32_toNat, n32_ix, hM.1, hM.2.1, hM.2.2.1, hM.2.2.2.1, hM.2.2.2.2.1, hM.2.2.2.2.2.1, hM.2.2.2.2.2.2.1, hM.2.2.2.2.2.2.2.1, hM.2.2.2.2.2.2.2.2.1, hM.2.2.2.2.2.2.2.2.2.1, hM.2.2.2.2.2.2.2.2.2.2.1, hM.2.2.2.2.2.2.2.2.2.2.2.1, hM.2.2.2.2.2.2.2.2.2.2.2.2, z_pI_eq, z_sA_sA, z_I_sA, z_J_sA, z_R_sA, z_ob_sA, z_ar_sA, z_ln_sA, z_nx_sA, n32_eq, m_ofA hM, gu_ne, s_come]
  simp only [Nat.one_ne_zero, if_false]
theorem m_poll (hM : zMs σ M) (hn2 : n ≤ 20) (hn : z_I σ (M + 1) 6 = n32 n) {h to : Nat} (hh : h < 32) (ht : to < 32) : f_X10_polls_65 σ M (n32 h) (n32 to) = some (z_sA σ (M + 1) (s_poll (z_I σ (M + 1)) h to)) := by
  have hn3 : gu (z_I σ (M + 1)) (18 + 7 * h + 4) (n32 to) 6 = n32 n := by rw [gu_ne _ _ (by omega)]; exact hn
  have A := m_takesA hM hn2 _ (n32 1) hn3
  have A2 := m_takesA hM hn2 (s_takes (gu (z_I σ (M + 1)) (18 + 7 * h + 4) (n32 to)) (n32 1)) (n32 1) (by rw [s_takes_ne _ _ (by decide) (by decide)]; exact hn3)
  simp (disch := omega) only [f_X10_polls_65, f_X10_polls_130, f_X10_at, ↓zl_eq, ↓zb_eq, ↓zb2_eq, ↓zc_some, ↓zc_none, ↓zb_pre, ↓zb2_pre, ↓zc_pre, ↓zex_eq, ↓reduceIte, Option.isSome_some, Option.isSome_none, Option.getD_some, n32_lit, n32_nn, n32_nn2, n32_add, n32_mul, n32_toNat, n32_ix, hM.1, hM.2.1, hM.2.2.1, hM.2.2.2.1, hM.2.2.2.2.1, hM.2.2.2.2.2.1, hM.2.2.2.2.2.2.1, hM.2.2.2.2.2.2.2.1, hM.2.2.2.2.2.2.2.2.1, hM.2.2.2.2.2.2.2.2.2.1, hM.2.2.2.2.2.2.2.2.2.2.1, hM.2.2.2.2.2.2.2.2.2.2.2.1, hM.2.2.2.2.2.2.2.2.2.2.2.2, z_pI_eq, z_sA_sA, z_I_sA, z_J_sA, z_R_sA, z_ob_sA, z_ar_sA, z_ln_sA, z_nx_sA, A, A2, m_ofA hM, m_polls131a hM, m_polls131b hM _ hh ht, bi_0n]
  unfold s_poll s_asked s_free s_l1
  generalize gu (z_I σ (M + 1)) (18 + 7 * h + 4) (n32 to) = g1
  generalize hg : s_takes g1 (n32 1) = g
  by_cases h0 : g (18 + 7 * to + 0) = n32 1 <;> by_cases h1 : g (18 + 7 * to + 1) = n32 1 <;> by_cases h2 : g (18 + 7 * to + 2) = n32 0 <;> cases s_loud g1 (g1 3) (g1 3 + n32 1 - n32 1) <;> cases s_loud g (g 3) (g 3 + n32 1 - n32 1) <;> simp only [h0, h1, h2, ↓reduceIte, decide_true, decide_false, Bool.and_false, Bool.false_and, Bool.and_self, Bool.false_eq_true, Bool.true_eq_false]
theorem m_polls (hM : zMs σ M) (hn2 : n ≤ 20) (hn : z_I σ (M + 1) 6 = n32 n) {h nx gp gg : Nat} (hh : h < 32) (hx : nx < 32) (hp : gp < 32) (hgg : gg < 21) (hg1 : 1 ≤ gg) (h3 : z_I σ (M + 1) (18 + 7 * h + 3) = n32 nx) (h4 : z_I σ (M + 1) (18 + 7 * h + 4) = n32 gp) (h2 : z_I σ (M + 1) 2 = n32 gg) :
    f_X10_polls σ M (n32 h) = some (z_sA σ (M + 1) (s_polls (z_I σ (M + 1)) h nx gp)) := by
  have hb1 := s_bhd_le h nx
  have hb2 := s_bhd_le h ((gp + 1) % 32)
  have hm1 := Nat.mod_lt (gp + 1) (show 32 > 0 by decide)
  have hm2 := Nat.mod_lt (h + 1) (show 32 > 0 by decide)
  have e1 : n32 (s_bhd h nx) - n32 1 = n32 (s_bhd h nx - 1) := n32_sub hb1.1
  simp (disch := omega) only [f_X10_polls, f_X10_polls_33, ↓zl_eq, ↓zb_eq, ↓zb2_eq, ↓zc_some, ↓zc_none, ↓zb_pre, ↓zb2_pre, ↓zc_pre, ↓zex_eq, ↓reduceIte, Option.isSome_some, Option.isSome_none, Option.getD_some, n32_lit, n32_add, n32_mod, n32_toNat, n32_ix, hM.1, hM.2.1, hM.2.2.1, hM.2.2.2.1, hM.2.2.2.2.1, hM.2.2.2.2.2.1, hM.2.2.2.2.2.2.1, hM.2.2.2.2.2.2.2.1, hM.2.2.2.2.2.2.2.2.1, hM.2.2.2.2.2.2.2.2.2.1, hM.2.2.2.2.2.2.2.2.2.2.1, hM.2.2.2.2.2.2.2.2.2.2.2.1, hM.2.2.2.2.2.2.2.2.2.2.2.2, m_of hM, h3, h4, m_behind, e1, n32_eq, n32_lt, h2]
  unfold s_polls s_to
  rw [h2, if_pos (show ¬ gg = 0 by omega)]
  by_cases hv : z_I σ (M + 1) (18 + 7 * h + 5) - z_I σ (M + 1) (18 + 7 * h + 5) / n32 gg * n32 gg = n32 0
  · rw [if_pos hv, if_pos hv]
    by_cases hz : s_bhd h nx - 1 = 0
    · rw [if_pos hz, if_pos hz, z_sA_id]
    · rw [if_neg hz, if_neg hz]
      by_cases hq : s_bhd h nx - 1 < s_bhd h ((gp + 1) % 32)
      · rw [if_pos hq, if_neg (by omega)]
        exact m_poll hM hn2 hn hh hm2
      · rw [if_neg hq, if_pos (by omega)]
        exact m_poll hM hn2 hn hh hm1
  · rw [if_neg hv, if_neg hv, z_sA_id]
end MODEL
end
section
def s_tries (nx : Nat) : Nat → zG → Bool × zG
  | 0, g => (false, g)
  | k + 1, g => if s_l1 g = false ∧ s_ring (s_takes g (n32 1)) nx = true then (true, gu (s_takes g (n32 1)) 4 (n32 nx)) else s_tries nx k (s_tick (s_takes g (n32 1)))
def s_ask (h : Nat) : Nat → zG → Nat → zG × Nat
  | 0, g, to => (g, to)
  | k + 1, g, to => if to = h then (g, to) else if s_l1 g = false ∧ s_ring (s_takes g (n32 1)) to = true then (s_takes g (n32 1), to) else s_ask h k (s_tick (s_takes g (n32 1))) ((to + 1) % 32)
def s_end (g : zG) (h to : Nat) : zG := gu (gu g (18 + 7 * h + 3) (n32 to)) 4 (n32 to)
def s_drop (g : zG) (h nx : Nat) : zG := if ¬ nx = h ∧ s_ring g nx = true then gu (gu g (18 + 7 * nx + 2) (n32 0)) 14 (g 14 + n32 1) else g
def s_passes (g : zG) (h nx : Nat) : zG :=
  if (s_tries nx 3 g).1 = true then (s_tries nx 3 g).2 else s_end (s_ask h 32 (s_drop (s_tries nx 3 g).2 h nx) ((nx + 1) % 32)).1 h (s_ask h 32 (s_drop (s_tries nx 3 g).2 h nx) ((nx + 1) % 32)).2
section MODEL
variable {σ : zSt} {M n : Nat}
theorem m_174 (hM : zMs σ M) (g : zG) {h to : Nat} (hh : h < 32) : f_X10_passes_174 (z_sA σ (M + 1) g) M (n32 h) (n32 to) = some (z_sA σ (M + 1) (s_end g h to)) := by
  simp (disch := omega) only [f_X10_passes_174, f_X10_at, ↓zl_eq, ↓zb_eq, ↓zb2_eq, ↓zc_some, ↓zc_none, ↓zb_pre, ↓zb2_pre, ↓zc_pre, ↓zex_eq, ↓reduceIte, Option.isSome_some, Option.isSome_none, Option.getD_some, n32_lit, n32_nn, n32_nn2, n32_add, n32_mul, n32_toNat, n32_ix, hM.1, hM.2.1, hM.2.2.1, hM.2.2.2.1, hM.2.2.2.2.1, hM.2.2.2.2.2.1, hM.2.2.2.2.2.2.1, hM.2.2.2.2.2.2.2.1, hM.2.2.2.2.2.2.2.2.1, hM.2.2.2.2.2.2.2.2.2.1, hM.2.2.2.2.2.2.2.2.2.2.1, hM.2.2.2.2.2.2.2.2.2.2.2.1, hM.2.2.2.2.2.2.2.2.2.2.2.2, z_pI_eq, z_sA_sA, z_I_sA, z_J_sA, z_R_sA, z_ob_sA, z_ar_sA, z_ln_sA, z_nx_sA, s_end]
theorem m_ask (hM : zMs σ M) (hn2 : n ≤ 20) {h : Nat} (hh : h < 32) : ∀ (k : Nat) (g : zG) (to : Nat), to < 32 → g 6 = n32 n → (h + 32 - to) % 32 ≤ k → ∀ N, k + 2 < N →
    zloop (fun (t : zSt × Int32 × Int32) => b_X10_passes_111 M (n32 h) t.1 t.2.1 t.2.2) N (z_sA σ (M + 1) g, n32 to, n32 0) = some (z_sA σ (M + 1) (s_end (s_ask h k g to).1 h (s_ask h k g to).2)) := by
  intro k
  induction k with
  | zero =>
    intro g to ht hg hd N hN
    obtain ⟨N, rfl⟩ : ∃ N', N = N' + 1 := ⟨N - 1, by omega⟩
    have : to = h := by omega
    subst this
    refine zloop_r ?_
    show b_X10_passes_111 M (n32 to) (z_sA σ (M + 1) g) (n32 to) (n32 0) = _
    unfold b_X10_passes_111
    rw [if_pos rfl, m_174 hM g hh]
    rfl
  | succ k ih =>
    intro g to ht hg hd N hN
    obtain ⟨N, rfl⟩ : ∃ N', N = N' + 1 := ⟨N - 1, by omega⟩
    by_cases he : to = h
    · subst he
      refine (zloop_r (r := z_sA σ (M + 1) (s_end g to to)) ?_).trans ?_
      · show b_X10_passes_111 M (n32 to) (z_sA σ (M + 1) g) (n32 to) (n32 0) = _
        unfold b_X10_passes_111
        rw [if_pos rfl, m_174 hM g hh]
        rfl
      · unfold s_ask; rw [if_pos rfl]
    · have A := m_takesA hM hn2 g (n32 1) hg
      have hm1 := Nat.mod_lt (to + 1) (show 32 > 0 by decide)
      by_cases hc : s_l1 g = false ∧ s_ring (s_takes g (n32 1)) to = true
      · refine (zloop_l (t := (z_sA σ (M + 1) (s_takes g (n32 1)), n32 to, n32 1)) ?_).trans ?_
        · show b_X10_passes_111 M (n32 h) (z_sA σ (M + 1) g) (n32 to) (n32 0) = _
          have hl : s_loud g (g 3) (g 3 + n32 1 - n32 1) = false := hc.1
          simp (disch := omega) only [b_X10_passes_111, f_X10_passes_141, f_X10_passes_142, ↓zl_eq, ↓zb_eq, ↓zb2_eq, ↓zc_some, ↓zc_none, ↓zb_pre, ↓zb2_pre, ↓zc_pre, ↓zex_eq, ↓reduceIte, Option.isSome_some, Option.isSome_none, Option.getD_some, n32_lit, n32_nn, n32_nn2, n32_add, n32_mul, n32_toNat, n32_ix, n32_eq, if_neg he, hM.1, hM.2.1, hM.2.2.1, hM.2.2.2.1, hM.2.2.2.2.1, hM.2.2.2.2.2.1, hM.2.2.2.2.2.2.1, hM.2.2.2.2.2.2.2.1, hM.2.2.2.2.2.2.2.2.1, hM.2.2.2.2.2.2.2.2.2.1, hM.2.2.2.2.2.2.2.2.2.2.1, hM.2.2.2.2.2.2.2.2.2.2.2.1, hM.2.2.2.2.2.2.2.2.2.2.2.2, z_ob_sA, A, bi_0n, hl, m_ringA hM _ ht, hc.2, Bool.true_eq_false]
          simp only [Nat.one_ne_zero, if_false]
        · obtain ⟨N, rfl⟩ : ∃ N', N = N' + 1 := ⟨N - 1, by omega⟩
          refine (zloop_r (r := z_sA σ (M + 1) (s_end (s_takes g (n32 1)) h to)) ?_).trans ?_
          · show b_X10_passes_111 M (n32 h) (z_sA σ (M + 1) (s_takes g (n32 1))) (n32 to) (n32 1) = _
            unfold b_X10_passes_111
            have e1 : ¬ n32 to = n32 h := by rw [n32_eq (by omega) (by omega)]; exact he
            have e2 : ¬ n32 1 = (0 : Int32) := by decide
            rw [if_neg e1, if_neg e2, m_174 hM _ hh]
            rfl
          · unfold s_ask; rw [if_neg he, if_pos hc]
      · refine (zloop_l (t := (z_sA σ (M + 1) (s_tick (s_takes g (n32 1))), n32 ((to + 1) % 32), n32 0)) ?_).trans ?_
        · show b_X10_passes_111 M (n32 h) (z_sA σ (M + 1) g) (n32 to) (n32 0) = _
          simp (disch := omega) only [b_X10_passes_111, f_X10_passes_141, f_X10_passes_142, ↓zl_eq, ↓zb_eq, ↓zb2_eq, ↓zc_some, ↓zc_none, ↓zb_pre, ↓zb2_pre, ↓zc_pre, ↓zex_eq, ↓reduceIte, Option.isSome_some, Option.isSome_none, Option.getD_some, n32_lit, n32_add, n32_mod, n32_toNat, n32_ix, n32_eq, if_neg he, hM.1, hM.2.1, hM.2.2.1, hM.2.2.2.1, hM.2.2.2.2.1, hM.2.2.2.2.2.1, hM.2.2.2.2.2.2.1, hM.2.2.2.2.2.2.2.1, hM.2.2.2.2.2.2.2.2.1, hM.2.2.2.2.2.2.2.2.2.1, hM.2.2.2.2.2.2.2.2.2.2.1, hM.2.2.2.2.2.2.2.2.2.2.2.1, hM.2.2.2.2.2.2.2.2.2.2.2.2, z_pI_eq, z_sA_sA, z_I_sA, z_J_sA, z_R_sA, z_ob_sA, z_ar_sA, z_ln_sA, z_nx_sA, A, bi_0n, m_ringA hM _ ht]
          unfold s_l1 at hc
          cases hl : s_loud g (g 3) (g 3 + n32 1 - n32 1) <;> cases hr : s_ring (s_takes g (n32 1)) to <;> simp only [hl, hr, not_true_eq_false, and_self, and_true, Bool.false_eq_true, Bool.true_eq_false, ↓reduceIte, s_tick] at hc ⊢
        · rw [ih (s_tick (s_takes g (n32 1))) ((to + 1) % 32) hm1 (by rw [s_tick_ne _ (by decide), s_takes_ne _ _ (by decide) (by decide)]; exact hg) (by omega) N (by omega)]
          rw [show s_ask h (k + 1) g to = s_ask h k (s_tick (s_takes g (n32 1))) ((to + 1) % 32) from by
            rw [s_ask]; rw [if_neg he, if_neg hc]]
theorem m_101 (hM : zMs σ M) (hn2 : n ≤ 20) {h nx : Nat} (hh : h < 32) (hx : nx < 32) (g : zG) (hg : g 6 = n32 n) : f_X10_passes_101 (z_sA σ (M + 1) g) M (n32 h) (n32 nx) = some (z_sA σ (M + 1) (s_end (s_ask h 32 g ((nx + 1) % 32)).1 h (s_ask h 32 g ((nx + 1) % 32)).2)) := by
  have hm1 := Nat.mod_lt (nx + 1) (show 32 > 0 by decide)
  simp (disch := omega) only [f_X10_passes_101, f_X10_passes_111, ↓zl_eq, ↓zb_eq, ↓zb2_eq, ↓zc_some, ↓zc_none, ↓zb_pre, ↓zb2_pre, ↓zc_pre, ↓zex_eq, ↓reduceIte, Option.isSome_some, Option.isSome_none, Option.getD_some, n32_lit, n32_add, n32_mod]
  exact m_ask hM hn2 hh 32 g ((nx + 1) % 32) hm1 hg (by omega) zN (by decide)
theorem s_tries_ne (nx : Nat) : ∀ (k : Nat) (g : zG) {j : Nat}, j ≠ 3 → j ≠ 11 → j ≠ 4 → (s_tries nx k g).2 j = g j := by
  intro k
  induction k with
  | zero => intro g j _ _ _; rfl
  | succ k ih =>
    intro g j h3 h11 h4
    unfold s_tries
    split
    · show gu _ 4 _ j = g j
      rw [gu_ne _ _ h4, s_takes_ne _ _ h3 h11]
    · rw [ih _ h3 h11 h4, s_tick_ne _ h3, s_takes_ne _ _ h3 h11]
theorem m_tries (hM : zMs σ M) (hn2 : n ≤ 20) {h nx : Nat} (hh : h < 32) (hx : nx < 32) : ∀ (k : Nat) (g : zG), k ≤ 3 → g 6 = n32 n → g (18 + 7 * h + 3) = n32 nx → ∀ N, k < N →
    zloop (fun (t : zSt × Int32) => b_X10_passes_2 M (n32 h) t.1 t.2) N (z_sA σ (M + 1) g, n32 (3 - k)) = some (z_sA σ (M + 1) (if (s_tries nx k g).1 = true then (s_tries nx k g).2 else s_end (s_ask h 32 (s_drop (s_tries nx k g).2 h nx) ((nx + 1) % 32)).1 h (s_ask h 32 (s_drop (s_tries nx k g).2 h nx) ((nx + 1) % 32)).2)) := by
  intro k
  induction k with
  | zero =>
    intro g hk hg h3 N hN
    obtain ⟨N, rfl⟩ : ∃ N', N = N' + 1 := ⟨N - 1, by omega⟩
    refine zloop_r ?_
    show b_X10_passes_2 M (n32 h) (z_sA σ (M + 1) g) (n32 3) = some (.inr (z_sA σ (M + 1) (s_end (s_ask h 32 (s_drop g h nx) ((nx + 1) % 32)).1 h (s_ask h 32 (s_drop g h nx) ((nx + 1) % 32)).2)))
    have B := fun g' (hg' : g' 6 = n32 n) => m_101 hM hn2 hh hx g' hg'
    unfold s_drop
    simp (disch := omega) only [b_X10_passes_2, f_X10_at, ↓zl_eq, ↓zb_eq, ↓zb2_eq, ↓zc_some, ↓zc_none, ↓zb_pre, ↓zb2_pre, ↓zc_pre, ↓zex_eq, ↓reduceIte, Option.isSome_some, Option.isSome_none, Option.getD_some, n32_lit, n32_nn, n32_nn2, n32_add, n32_mul, n32_toNat, n32_ix, n32_le, Nat.le_refl, hM.1, hM.2.1, hM.2.2.1, hM.2.2.2.1, hM.2.2.2.2.1, hM.2.2.2.2.2.1, hM.2.2.2.2.2.2.1, hM.2.2.2.2.2.2.2.1, hM.2.2.2.2.2.2.2.2.1, hM.2.2.2.2.2.2.2.2.2.1, hM.2.2.2.2.2.2.2.2.2.2.1, hM.2.2.2.2.2.2.2.2.2.2.2.1, hM.2.2.2.2.2.2.2.2.2.2.2.2, z_pI_eq, z_sA_sA, z_I_sA, z_J_sA, z_R_sA, z_ob_sA, z_ar_sA, z_ln_sA, z_nx_sA, m_ofA hM, h3, n32_eq, m_ringA hM _ hx, bi_0n, gu_ne]
    by_cases he : nx = h
    · rw [if_pos he, if_neg (by omega), B g hg]
      rfl
    · rw [if_neg he]
      cases hr : s_ring g nx with
      | false =>
        simp only [Bool.false_eq_true, and_false, if_false, if_true]
        rw [B g hg]
        rfl
      | true =>
        simp only [Bool.true_eq_false, he, not_false_eq_true, and_self, if_false, if_true]
        rw [B _ (by rw [gu_ne _ _ (by decide), gu_ne _ _ (by omega)]; exact hg)]
        rfl
  | succ k ih =>
    intro g hk hg h3 N hN
    obtain ⟨N, rfl⟩ : ∃ N', N = N' + 1 := ⟨N - 1, by omega⟩
    have A := m_takesA hM hn2 g (n32 1) hg
    have e3 : n32 (3 - (k + 1)) + n32 1 = n32 (3 - k) := by rw [n32_add]; congr 1; omega
    by_cases hc : s_l1 g = false ∧ s_ring (s_takes g (n32 1)) nx = true
    · refine (zloop_r (r := z_sA σ (M + 1) (gu (s_takes g (n32 1)) 4 (n32 nx))) ?_).trans ?_
      · show b_X10_passes_2 M (n32 h) (z_sA σ (M + 1) g) (n32 (3 - (k + 1))) = _
        have hl : s_loud g (g 3) (g 3 + n32 1 - n32 1) = false := hc.1
        simp (disch := omega) only [b_X10_passes_2, ↓zl_eq, ↓zb_eq, ↓zb2_eq, ↓zc_some, ↓zc_none, ↓zb_pre, ↓zb2_pre, ↓zc_pre, ↓zex_eq, ↓reduceIte, Option.isSome_some, Option.isSome_none, Option.getD_some, n32_lit, n32_nn, n32_nn2, n32_add, n32_mul, n32_toNat, n32_ix, n32_le, hM.1, hM.2.1, hM.2.2.1, hM.2.2.2.1, hM.2.2.2.2.1, hM.2.2.2.2.2.1, hM.2.2.2.2.2.2.1, hM.2.2.2.2.2.2.2.1, hM.2.2.2.2.2.2.2.2.1, hM.2.2.2.2.2.2.2.2.2.1, hM.2.2.2.2.2.2.2.2.2.2.1, hM.2.2.2.2.2.2.2.2.2.2.2.1, hM.2.2.2.2.2.2.2.2.2.2.2.2, z_pI_eq, z_sA_sA, z_I_sA, z_J_sA, z_R_sA, z_ob_sA, z_ar_sA, z_ln_sA, z_nx_sA, m_ofA hM, h3, A, bi_0n, hl, m_ringA hM _ hx, hc.2, Bool.true_eq_false]
        rw [if_neg (by omega)]
      · rw [show s_tries nx (k + 1) g = (true, gu (s_takes g (n32 1)) 4 (n32 nx)) from by rw [s_tries]; rw [if_pos hc]]
        rfl
    · refine (zloop_l (t := (z_sA σ (M + 1) (s_tick (s_takes g (n32 1))), n32 (3 - k))) ?_).trans ?_
      · show b_X10_passes_2 M (n32 h) (z_sA σ (M + 1) g) (n32 (3 - (k + 1))) = _
        simp (disch := omega) only [b_X10_passes_2, f_X10_passes_38, ↓zl_eq, ↓zb_eq, ↓zb2_eq, ↓zc_some, ↓zc_none, ↓zb_pre, ↓zb2_pre, ↓zc_pre, ↓zex_eq, ↓reduceIte, Option.isSome_some, Option.isSome_none, Option.getD_some, n32_lit, n32_toNat, n32_ix, n32_le, hM.1, hM.2.1, hM.2.2.1, hM.2.2.2.1, hM.2.2.2.2.1, hM.2.2.2.2.2.1, hM.2.2.2.2.2.2.1, hM.2.2.2.2.2.2.2.1, hM.2.2.2.2.2.2.2.2.1, hM.2.2.2.2.2.2.2.2.2.1, hM.2.2.2.2.2.2.2.2.2.2.1, hM.2.2.2.2.2.2.2.2.2.2.2.1, hM.2.2.2.2.2.2.2.2.2.2.2.2, z_pI_eq, z_sA_sA, z_I_sA, z_J_sA, z_R_sA, z_ob_sA, z_ar_sA, z_ln_sA, z_nx_sA, m_ofA hM, h3, A, bi_0n, m_ringA hM _ hx, e3]
        rw [if_neg (by omega)]
        unfold s_l1 at hc
        cases hl : s_loud g (g 3) (g 3 + n32 1 - n32 1) <;> cases hr : s_ring (s_takes g (n32 1)) nx <;> simp only [hl, hr, not_true_eq_false, and_self, and_true, Bool.false_eq_true, Bool.true_eq_false, ↓reduceIte, s_tick] at hc ⊢
      · rw [ih (s_tick (s_takes g (n32 1))) (by omega) (by rw [s_tick_ne _ (by decide), s_takes_ne _ _ (by decide) (by decide)]; exact hg) (by rw [s_tick_ne _ (by omega), s_takes_ne _ _ (by omega) (by omega)]; exact h3) N (by omega)]
        rw [show s_tries nx (k + 1) g = s_tries nx k (s_tick (s_takes g (n32 1))) from by rw [s_tries]; rw [if_neg hc]]
theorem m_passes (hM : zMs σ M) (hn2 : n ≤ 20) {h nx : Nat} (hh : h < 32) (hx : nx < 32) (hg : z_I σ (M + 1) 6 = n32 n) (h3 : z_I σ (M + 1) (18 + 7 * h + 3) = n32 nx) : f_X10_passes σ M (n32 h) = some (z_sA σ (M + 1) (s_passes (z_I σ (M + 1)) h nx)) := by
  have A := m_tries hM hn2 hh hx 3 (z_I σ (M + 1)) (Nat.le_refl _) hg h3 zN (by decide)
  rw [z_sA_id] at A
  exact A
end MODEL
end
section
/-! one visit of the reference -/
def s_rot (g : zG) (h : Nat) : Int32 := if g (18 + 7 * h + 6) = nn then n32 0 else g 3 - g (18 + 7 * h + 6)
def s_begin (g : zG) (h : Nat) : zG := gu (gu (gu (gu g (18 + 7 * h + 6) (g 3)) (18 + 7 * h + 5) (g (18 + 7 * h + 5) + n32 1)) 9 (g 9 + n32 1)) 8 (if s_rot g h ≤ g 8 then g 8 else s_rot g h)
def s_mid (g : zG) (h k : Nat) : zG := s_all (n32 h) (g 3) (g 0 - s_rot g h) k (s_begin g h)
def s_logged (g : zG) (h k lg : Nat) : zG := s_log (s_mid g h k) lg (g 3) (n32 h) (s_rot g h) (s_mid g h k 10 - g 10)
def s_nat (g : zG) (j : Nat) : Nat := (g j).toNatClampNeg
def s_pl (g : zG) (h : Nat) : zG := s_polls g h (s_nat g (18 + 7 * h + 3)) (s_nat g (18 + 7 * h + 4))
def s_ps (g : zG) (h : Nat) : zG := s_passes g h (s_nat g (18 + 7 * h + 3))
def s_vis (g : zG) (h k : Nat) : zG := s_ps (s_pl (s_logged g h k (s_nat g 7)) h) h
/-- what a visit asks of the array -/
def s_okv (g : zG) (h : Nat) : Prop := h < 32 ∧ s_ok g ∧ (∃ lg, lg ≤ 40 ∧ g 7 = n32 lg) ∧ (∃ nx, nx < 32 ∧ g (18 + 7 * h + 3) = n32 nx) ∧ (∃ gp, gp < 32 ∧ g (18 + 7 * h + 4) = n32 gp) ∧ (∃ gg, 1 ≤ gg ∧ gg ≤ 20 ∧ g 2 = n32 gg)
theorem s_sl_ne (x t0 al : Int32) : ∀ (k : Nat) (g : zG) (sp : Bool) {j : Nat}, j ≠ 3 → j ≠ 11 → j ≠ 10 → j ≠ 15 → (j < 242 ∨ 742 ≤ j) → s_ok g → s_sl x t0 al k g sp j = g j := by
  intro k
  induction k with
  | zero => intro g sp j _ _ _ _ _ _; rfl
  | succ k ih =>
    intro g sp j h1 h2 h3 h4 h5 ho
    unfold s_sl
    by_cases hs : s_stop x t0 al g sp = true
    · rw [if_pos hs]
    · rw [if_neg hs]
      rcases s_next_ok ho x nn with hj | ⟨m, hm, hme⟩
      · exact absurd (by simp [s_stop, hj]) hs
      · rw [hme, n32_toNat (by omega)]
        rw [ih _ _ h1 h2 h3 h4 h5 (s_ok_sends ho m), s_sends_ne _ _ h1 h2 h3 h4 (by omega)]
theorem s_all_ne (x t0 al : Int32) (k : Nat) (g : zG) {j : Nat} (h1 : j ≠ 3) (h2 : j ≠ 11) (h3 : j ≠ 10) (h4 : j ≠ 15) (h5 : j < 242 ∨ 742 ≤ j) (ho : s_ok g) : s_all x t0 al k g j = g j := by
  unfold s_all
  by_cases hu : s_urg g x = true
  · rw [if_pos hu]
    rcases s_next_ok ho x nn with hj | ⟨m, hm, hme⟩
    · unfold s_urg at hu; rw [hj] at hu; simp at hu
    · rw [hme, n32_toNat (by omega), s_sl_ne _ _ _ _ _ _ h1 h2 h3 h4 h5 (s_ok_sends ho m), s_sends_ne _ _ h1 h2 h3 h4 (by omega)]
  · rw [if_neg hu, s_sl_ne _ _ _ _ _ _ h1 h2 h3 h4 h5 ho]
theorem s_put_ne (g : zG) (k : Nat) (t0 h rot sent : Int32) {j : Nat} (h7 : j ≠ 7) (hj : j < 782 ∨ 782 + 4 * k + 4 ≤ j) : s_put g k t0 h rot sent j = g j := by
  unfold s_put
  rw [gu_ne _ _ h7, gu_ne _ _ (by omega), gu_ne _ _ (by omega), gu_ne _ _ (by omega), gu_ne _ _ (by omega)]
theorem s_log_ne (g : zG) (k : Nat) (t0 h rot sent : Int32) {j : Nat} (h7 : j ≠ 7) (hj : j < 782) : s_log g k t0 h rot sent j = g j := by
  unfold s_log
  split
  · rw [s_put_ne _ _ _ _ _ _ h7 (Or.inl hj), gu_ne _ _ h7]
    unfold s_shift
    rw [if_neg (by omega)]
  · rw [s_put_ne _ _ _ _ _ _ h7 (Or.inl hj)]
theorem s_ok_begin {g : zG} (ho : s_ok g) (h : Nat) : s_ok (s_begin g h) := by
  obtain ⟨⟨n, h1, h2⟩, ⟨q, h3, h4⟩⟩ := ho
  refine ⟨⟨n, h1, ?_⟩, ⟨q, h3, ?_⟩⟩
  · unfold s_begin; rw [gu_ne _ _ (by omega), gu_ne _ _ (by omega), gu_ne _ _ (by omega), gu_ne _ _ (by omega)]; exact h2
  · unfold s_begin; rw [gu_ne _ _ (by omega), gu_ne _ _ (by omega), gu_ne _ _ (by omega), gu_ne _ _ (by omega)]; exact h4
theorem s_begin_ne (g : zG) (h : Nat) {j : Nat} (h1 : j ≠ 8) (h2 : j ≠ 9) (h3 : j ≠ 18 + 7 * h + 5) (h4 : j ≠ 18 + 7 * h + 6) : s_begin g h j = g j := by
  unfold s_begin; rw [gu_ne _ _ h1, gu_ne _ _ h2, gu_ne _ _ h3, gu_ne _ _ h4]
theorem s_come_ne (g : zG) (h to : Nat) {j : Nat} (h1 : j ≠ 13) (h2 : j < 18 ∨ 242 ≤ j) (hh : h < 32) (ht : to < 32) : s_come g h to j = g j := by
  unfold s_come
  rw [gu_ne _ _ h1, gu_ne _ _ (by omega), gu_ne _ _ (by omega), gu_ne _ _ (by omega), gu_ne _ _ (by omega)]
theorem s_polls_ne (g : zG) {h nx gp : Nat} {j : Nat} (h1 : j ≠ 13) (h2 : j < 18 ∨ 242 ≤ j) (h3 : j ≠ 3) (h11 : j ≠ 11) (hh : h < 32) : s_polls g h nx gp j = g j := by
  have ht := s_to_lt h nx gp
  unfold s_polls s_poll s_asked
  split
  · split
    · rfl
    · split
      · rw [s_tick_ne _ h3, s_takes_ne _ _ h3 h11, gu_ne _ _ (by omega)]
      · split
        · split
          · rw [s_tick_ne _ h3, s_takes_ne _ _ h3 h11, s_takes_ne _ _ h3 h11, gu_ne _ _ (by omega)]
          · rw [s_come_ne _ _ _ h1 h2 hh ht, s_takes_ne _ _ h3 h11, s_takes_ne _ _ h3 h11, gu_ne _ _ (by omega)]
        · rw [s_tick_ne _ h3, s_takes_ne _ _ h3 h11, gu_ne _ _ (by omega)]
  · rfl
theorem s_polls_next (g : zG) {h nx gp : Nat} (hh : h < 32) (hx : nx < 32) (h3 : g (18 + 7 * h + 3) = n32 nx) : ∃ ny, ny < 32 ∧ s_polls g h nx gp (18 + 7 * h + 3) = n32 ny := by
  have ht := s_to_lt h nx gp
  unfold s_polls s_poll s_asked
  split
  · split
    · exact ⟨nx, hx, h3⟩
    · split
      · exact ⟨nx, hx, by rw [s_tick_ne _ (by omega), s_takes_ne _ _ (by omega) (by omega), gu_ne _ _ (by omega)]; exact h3⟩
      · split
        · split
          · exact ⟨nx, hx, by rw [s_tick_ne _ (by omega), s_takes_ne _ _ (by omega) (by omega), s_takes_ne _ _ (by omega) (by omega), gu_ne _ _ (by omega)]; exact h3⟩
          · exact ⟨_, ht, by unfold s_come; rw [gu_ne _ _ (by omega), gu_same]⟩
        · exact ⟨nx, hx, by rw [s_tick_ne _ (by omega), s_takes_ne _ _ (by omega) (by omega), gu_ne _ _ (by omega)]; exact h3⟩
  · exact ⟨nx, hx, h3⟩
section MODEL
variable {σ : zSt} {M : Nat}
theorem m_vis122 (hM : zMs σ M) (g : zG) {h k : Nat} (hv : s_okv g h) (hk : k < 5000) (hf : s_allfin (n32 h) (g 3) (g 0 - s_rot g h) k (s_begin g h)) :
    f_X10_visits_122 (z_sA σ (M + 1) (gu (gu (gu g (18 + 7 * h + 6) (g 3)) (18 + 7 * h + 5) (g (18 + 7 * h + 5) + n32 1)) 9 (g 9 + n32 1))) M (n32 h) (g 3) (s_rot g h) (if s_rot g h ≤ g 8 then g 8 else s_rot g h) (n32 8) (some (M + 1)) = some (z_sA σ (M + 1) (s_vis g h k)) := by
  obtain ⟨hh, ho, ⟨lg, hlg, h7⟩, ⟨nx, hnx, h3⟩, ⟨gp, hgp, h4⟩, ⟨gg, hg1, hg2, h2⟩⟩ := hv
  have eb : gu (gu (gu (gu g (18 + 7 * h + 6) (g 3)) (18 + 7 * h + 5) (g (18 + 7 * h + 5) + n32 1)) 9 (g 9 + n32 1)) 8 (if s_rot g h ≤ g 8 then g 8 else s_rot g h) = s_begin g h := rfl
  have ob := s_ok_begin ho h
  have M1 := m_sendsAll (zMs_sA hM (M + 1) (s_begin g h)) (by rw [z_I_sA]; exact ob) (n32 h) (g 3) (g 0 - s_rot g h) hk (by rw [z_I_sA]; exact hf)
  rw [z_I_sA, z_sA_sA] at M1
  have em : s_all (n32 h) (g 3) (g 0 - s_rot g h) k (s_begin g h) = s_mid g h k := rfl
  rw [em] at M1
  have mid : ∀ {j : Nat}, j ≠ 3 → j ≠ 11 → j ≠ 10 → j ≠ 15 → (j < 242 ∨ 742 ≤ j) → s_mid g h k j = s_begin g h j := fun a b c d e => s_all_ne _ _ _ _ _ a b c d e ob
  have m7 : s_mid g h k 7 = n32 lg := by rw [mid (by decide) (by decide) (by decide) (by decide) (by omega), s_begin_ne _ _ (by omega) (by omega) (by omega) (by omega)]; exact h7
  have M2 := fun a b c d => m_logs (zMs_sA hM (M + 1) (s_mid g h k)) hlg (by rw [z_I_sA]; exact m7) a b c d
  simp only [z_I_sA, z_sA_sA] at M2
  have n7 : s_nat g 7 = lg := by unfold s_nat; rw [h7, n32_toNat (by omega)]
  have el : s_log (s_mid g h k) lg (g 3) (n32 h) (s_rot g h) (s_mid g h k 10 - g 10) = s_logged g h k (s_nat g 7) := by rw [n7]; rfl
  have lgd : ∀ {j : Nat}, j ≠ 7 → j ≠ 3 → j ≠ 11 → j ≠ 10 → j ≠ 15 → j < 242 → s_logged g h k (s_nat g 7) j = s_begin g h j := fun z a b c d e => by
    rw [← el, s_log_ne _ _ _ _ _ _ z (by omega)]; exact mid a b c d (Or.inl e)
  have l6 : s_logged g h k (s_nat g 7) 6 = g 6 := by
    rw [lgd (by omega) (by omega) (by omega) (by omega) (by omega) (by omega), s_begin_ne _ _ (by omega) (by omega) (by omega) (by omega)]
  have l2 : s_logged g h k (s_nat g 7) 2 = n32 gg := by
    rw [lgd (by omega) (by omega) (by omega) (by omega) (by omega) (by omega), s_begin_ne _ _ (by omega) (by omega) (by omega) (by omega)]; exact h2
  have l3 : s_logged g h k (s_nat g 7) (18 + 7 * h + 3) = n32 nx := by
    rw [lgd (by omega) (by omega) (by omega) (by omega) (by omega) (by omega), s_begin_ne _ _ (by omega) (by omega) (by omega) (by omega)]; exact h3
  have l4 : s_logged g h k (s_nat g 7) (18 + 7 * h + 4) = n32 gp := by
    rw [lgd (by omega) (by omega) (by omega) (by omega) (by omega) (by omega), s_begin_ne _ _ (by omega) (by omega) (by omega) (by omega)]; exact h4
  obtain ⟨⟨n, hn2, h6⟩, _⟩ := ho
  have M3 := m_polls (zMs_sA hM (M + 1) (s_logged g h k (s_nat g 7))) hn2 (by rw [z_I_sA, l6]; exact h6) hh hnx hgp (show gg < 21 by omega) hg1 (by rw [z_I_sA]; exact l3) (by rw [z_I_sA]; exact l4) (by rw [z_I_sA]; exact l2)
  rw [z_I_sA, z_sA_sA] at M3
  have epl : s_polls (s_logged g h k (s_nat g 7)) h nx gp = s_pl (s_logged g h k (s_nat g 7)) h := by
    unfold s_pl s_nat
    have e7 : s_nat g 7 = (g 7).toNatClampNeg := rfl
    rw [← e7, l3, l4, n32_toNat (by omega), n32_toNat (by omega)]
  obtain ⟨ny, hny, hny2⟩ := s_polls_next (gp := gp) (s_logged g h k (s_nat g 7)) hh hnx l3
  have hp6 := s_polls_ne (nx := nx) (gp := gp) (s_logged g h k (s_nat g 7)) (j := 6) (by decide) (by omega) (by decide) (by decide) hh
  rw [epl] at M3 hny2 hp6
  have M4 := m_passes (zMs_sA hM (M + 1) (s_pl (s_logged g h k (s_nat g 7)) h)) hn2 hh hny (by rw [z_I_sA, hp6, l6]; exact h6) (by rw [z_I_sA]; exact hny2)
  rw [z_I_sA, z_sA_sA] at M4
  have eps : s_passes (s_pl (s_logged g h k (s_nat g 7)) h) h ny = s_vis g h k := by
    unfold s_vis s_ps
    have : s_nat (s_pl (s_logged g h k (s_nat g 7)) h) (18 + 7 * h + 3) = ny := by
      show (s_pl (s_logged g h k (s_nat g 7)) h (18 + 7 * h + 3)).toNatClampNeg = ny
      rw [hny2, n32_toNat (by omega)]
    rw [this]
  have b10 : s_begin g h 10 = g 10 := s_begin_ne _ _ (by omega) (by omega) (by omega) (by omega)
  have b0 : s_begin g h 0 = g 0 := s_begin_ne _ _ (by omega) (by omega) (by omega) (by omega)
  rw [eps] at M4
  simp (disch := omega) only [f_X10_visits_122, ↓zl_eq, ↓zb_eq, ↓zb2_eq, ↓zc_some, ↓zc_none, ↓zb_pre, ↓zb2_pre, ↓zc_pre, ↓zex_eq, ↓reduceIte, Option.isSome_some, Option.isSome_none, Option.getD_some, n32_lit, n32_nn, n32_nn2, n32_add, n32_mul, n32_toNat, n32_ix, hM.1, hM.2.1, hM.2.2.1, hM.2.2.2.1, hM.2.2.2.2.1, hM.2.2.2.2.2.1, hM.2.2.2.2.2.2.1, hM.2.2.2.2.2.2.2.1, hM.2.2.2.2.2.2.2.2.1, hM.2.2.2.2.2.2.2.2.2.1, hM.2.2.2.2.2.2.2.2.2.2.1, hM.2.2.2.2.2.2.2.2.2.2.2.1, hM.2.2.2.2.2.2.2.2.2.2.2.2, z_pI_eq, z_sA_sA, z_I_sA, z_J_sA, z_R_sA, z_ob_sA, z_ar_sA, z_ln_sA, z_nx_sA, eb, b10, b0, M1, M2, el, M3, M4]
end MODEL
end
section
def s_go (g : zG) (h : Nat) : Prop := s_okv g h ∧ s_allfin (n32 h) (g 3) (g 0 - s_rot g h) 101 (s_begin g h)
def s_vok (g : zG) : Prop := (g 4 = nn ∧ (s_h2 g = nn ∨ ∃ x, x < 32 ∧ s_h2 g = n32 x ∧ s_go (s_tok g x) x)) ∨ (∃ h, g 4 = n32 h ∧ s_go g h)
def s_visits (g : zG) : zG :=
  if g 4 = nn then (if s_h2 g = nn then g else s_vis (s_tok g (s_h2 g).toNatClampNeg) (s_h2 g).toNatClampNeg 101) else s_vis g (s_nat g 4) 101
theorem s_tok_4 (g : zG) (h : Nat) : s_tok g h 4 = n32 h := by
  unfold s_tok
  rw [gu_ne _ _ (by decide), gu_same]
def s_compl (g : zG) : Nat → Bool
  | 0 => true
  | k + 1 => s_compl g k && (decide (g (18 + 7 * k + 0) = n32 0) || decide (g (18 + 7 * k + 1) = n32 0) || decide (g (18 + 7 * k + 2) = n32 1))
def s_waiting (g : zG) (q : Nat) : Nat → Int32
  | 0 => n32 0
  | k + 1 => s_waiting g q k + (if s_isOn g k = true then n32 (s_cnt (s_wt g (n32 k)) q) else n32 0)
/-- station's value `what` -/
def s_stv (g : zG) (x what q : Nat) : Int32 := if what = 4 then n32 (s_cnt (s_wt g (n32 x)) q) else if what < 4 then g (18 + 7 * x + (1 + what)) else g (18 + 7 * x + what)
def s_set (g : zG) (what : Nat) : Int32 :=
  if what = 3 then s_sum (fun x => g (18 + 7 * x + 0)) 32 else if what = 4 then n32 (s_cnt (s_ring g) 32) else if what = 5 then g 6 else if what = 6 then g 3 else if what = 7 then g 4 else if what = 8 then g 5 else g what
section MODEL
variable {σ : zSt} {M : Nat}
theorem m_vis18 (hM : zMs σ M) (g : zG) {h : Nat} (hg4 : g 4 = n32 h) (hv : s_go g h) : f_X10_visits_18 (z_sA σ (M + 1) g) M = some (z_sA σ (M + 1) (s_vis g h 101)) := by
  have hh : h < 32 := hv.1.1
  have A := m_vis122 hM g hv.1 (show 101 < 5000 by decide) hv.2
  have e8 : (gu (gu (gu g (18 + 7 * h + 6) (g 3)) (18 + 7 * h + 5) (g (18 + 7 * h + 5) + n32 1)) 9 (g 9 + n32 1)) 8 = g 8 := by
    rw [gu_ne _ _ (by omega), gu_ne _ _ (by omega), gu_ne _ _ (by omega)]
  have B : ∀ rot, rot = s_rot g h → f_X10_visits_56 (z_sA σ (M + 1) g) M (n32 h) (g 3) rot = some (z_sA σ (M + 1) (s_vis g h 101)) := by
    intro rot hr
    subst hr
    simp (disch := omega) only [f_X10_visits_56, f_X10_at, ↓zl_eq, ↓zb_eq, ↓zb2_eq, ↓zc_some, ↓zc_none, ↓zb_pre, ↓zb2_pre, ↓zc_pre, ↓zex_eq, ↓reduceIte, Option.isSome_some, Option.isSome_none, Option.getD_some, n32_lit, n32_nn, n32_nn2, n32_add, n32_mul, n32_toNat, n32_ix, hM.1, hM.2.1, hM.2.2.1, hM.2.2.2.1, hM.2.2.2.2.1, hM.2.2.2.2.2.1, hM.2.2.2.2.2.2.1, hM.2.2.2.2.2.2.2.1, hM.2.2.2.2.2.2.2.2.1, hM.2.2.2.2.2.2.2.2.2.1, hM.2.2.2.2.2.2.2.2.2.2.1, hM.2.2.2.2.2.2.2.2.2.2.2.1, hM.2.2.2.2.2.2.2.2.2.2.2.2, z_pI_eq, z_sA_sA, z_I_sA, z_J_sA, z_R_sA, z_ob_sA, z_ar_sA, z_ln_sA, z_nx_sA, gu_ne, gu_same, e8]
    by_cases hr : s_rot g h ≤ g 8
    · rw [if_pos hr] at A ⊢; exact A
    · rw [if_neg hr] at A ⊢; exact A
  simp (disch := omega) only [f_X10_visits_18, ↓zl_eq, ↓zb_eq, ↓zb2_eq, ↓zc_some, ↓zc_none, ↓zb_pre, ↓zb2_pre, ↓zc_pre, ↓zex_eq, ↓reduceIte, Option.isSome_some, Option.isSome_none, Option.getD_some, n32_lit, n32_nn, n32_nn2, n32_add, n32_mul, n32_toNat, n32_ix, hM.1, hM.2.1, hM.2.2.1, hM.2.2.2.1, hM.2.2.2.2.1, hM.2.2.2.2.2.1, hM.2.2.2.2.2.2.1, hM.2.2.2.2.2.2.2.1, hM.2.2.2.2.2.2.2.2.1, hM.2.2.2.2.2.2.2.2.2.1, hM.2.2.2.2.2.2.2.2.2.2.1, hM.2.2.2.2.2.2.2.2.2.2.2.1, hM.2.2.2.2.2.2.2.2.2.2.2.2, z_pI_eq, z_sA_sA, z_I_sA, z_J_sA, z_R_sA, z_ob_sA, z_ar_sA, z_ln_sA, z_nx_sA, hg4, m_ofA hM]
  by_cases hl : g (18 + 7 * h + 6) = nn
  · rw [if_pos hl, B _ (by unfold s_rot; rw [if_pos hl])]
  · rw [if_neg hl, B _ (by unfold s_rot; rw [if_neg hl])]
theorem m_visits (hM : zMs σ M) (hv : s_vok (z_I σ (M + 1))) : f_X10_visits σ M = some (z_sA σ (M + 1) (s_visits (z_I σ (M + 1)))) := by
  unfold s_visits
  rcases hv with ⟨h4, h | ⟨x, hx, hx2, hgo⟩⟩ | ⟨h, h4, hgo⟩
  · rw [if_pos h4, if_pos h]
    simp (disch := omega) only [f_X10_visits, ↓zl_eq, ↓zb_eq, ↓zb2_eq, ↓zc_some, ↓zc_none, ↓zb_pre, ↓zb2_pre, ↓zc_pre, ↓zex_eq, ↓reduceIte, Option.isSome_some, Option.isSome_none, Option.getD_some, n32_lit, n32_nn, n32_nn2, n32_add, n32_mul, n32_toNat, n32_ix, hM.1, hM.2.1, hM.2.2.1, hM.2.2.2.1, hM.2.2.2.2.1, hM.2.2.2.2.2.1, hM.2.2.2.2.2.2.1, hM.2.2.2.2.2.2.2.1, hM.2.2.2.2.2.2.2.2.1, hM.2.2.2.2.2.2.2.2.2.1, hM.2.2.2.2.2.2.2.2.2.2.1, hM.2.2.2.2.2.2.2.2.2.2.2.1, hM.2.2.2.2.2.2.2.2.2.2.2.2, h4, m_makesToken0 hM h, z_sA_id]
  · have hne : ¬ s_h2 (z_I σ (M + 1)) = nn := by rw [hx2]; rw [n32_ne (by omega)]; exact not_false
    rw [if_pos h4, if_neg hne, hx2, n32_toNat (by omega)]
    simp (disch := omega) only [f_X10_visits, ↓zl_eq, ↓zb_eq, ↓zb2_eq, ↓zc_some, ↓zc_none, ↓zb_pre, ↓zb2_pre, ↓zc_pre, ↓zex_eq, ↓reduceIte, Option.isSome_some, Option.isSome_none, Option.getD_some, n32_lit, n32_nn, n32_nn2, n32_add, n32_mul, n32_toNat, n32_ix, hM.1, hM.2.1, hM.2.2.1, hM.2.2.2.1, hM.2.2.2.2.1, hM.2.2.2.2.2.1, hM.2.2.2.2.2.2.1, hM.2.2.2.2.2.2.2.1, hM.2.2.2.2.2.2.2.2.1, hM.2.2.2.2.2.2.2.2.2.1, hM.2.2.2.2.2.2.2.2.2.2.1, hM.2.2.2.2.2.2.2.2.2.2.2.1, hM.2.2.2.2.2.2.2.2.2.2.2.2, h4, m_makesToken1 hM hx hx2, m_vis18 hM _ (s_tok_4 _ x) hgo, n32_eq]
    simp only [Nat.one_ne_zero, if_false]
  · have hh : h < 32 := hgo.1.1
    have hne : ¬ z_I σ (M + 1) 4 = nn := by rw [h4]; rw [n32_ne (by omega)]; exact not_false
    rw [if_neg hne]
    have e : s_nat (z_I σ (M + 1)) 4 = h := by unfold s_nat; rw [h4, n32_toNat (by omega)]
    have A := m_vis18 hM (z_I σ (M + 1)) h4 hgo
    rw [z_sA_id] at A
    simp (disch := omega) only [f_X10_visits, ↓zl_eq, ↓zb_eq, ↓zb2_eq, ↓zc_some, ↓zc_none, ↓zb_pre, ↓zb2_pre, ↓zc_pre, ↓zex_eq, ↓reduceIte, Option.isSome_some, Option.isSome_none, Option.getD_some, n32_lit, n32_nn, n32_nn2, n32_add, n32_mul, n32_toNat, n32_ix, hM.1, hM.2.1, hM.2.2.1, hM.2.2.2.1, hM.2.2.2.2.1, hM.2.2.2.2.2.1, hM.2.2.2.2.2.2.1, hM.2.2.2.2.2.2.2.1, hM.2.2.2.2.2.2.2.2.1, hM.2.2.2.2.2.2.2.2.2.1, hM.2.2.2.2.2.2.2.2.2.2.1, hM.2.2.2.2.2.2.2.2.2.2.2.1, hM.2.2.2.2.2.2.2.2.2.2.2.2, if_neg hne, A, e]
theorem m_isComplete (hM : zMs σ M) : f_X10_isComplete σ M = some (bi (s_compl (z_I σ (M + 1)) 32)) := by
  unfold f_X10_isComplete f_X10_isComplete_4
  refine zloop_go (fun k => (bi (s_compl (z_I σ (M + 1)) k), n32 k)) _ 32 (fun k hk => ?_) ?_ (by unfold zN; omega)
  · show b_X10_isComplete_4 σ M (bi (s_compl (z_I σ (M + 1)) k)) (n32 k) = some (.inl (bi (s_compl (z_I σ (M + 1)) k && (decide (z_I σ (M + 1) (18 + 7 * k + 0) = n32 0) || decide (z_I σ (M + 1) (18 + 7 * k + 1) = n32 0) || decide (z_I σ (M + 1) (18 + 7 * k + 2) = n32 1))), n32 (k + 1)))
    simp (disch := omega) only [b_X10_isComplete_4, f_X10_isComplete_42, f_X10_isComplete_46, f_X10_isComplete_47, ↓zl_eq, ↓zb_eq, ↓zb2_eq, ↓zc_some, ↓zc_none, ↓zb_pre, ↓zb2_pre, ↓zc_pre, ↓zex_eq, ↓reduceIte, Option.isSome_some, Option.isSome_none, Option.getD_some, n32_lit, n32_nn, n32_nn2, n32_add, n32_mul, n32_toNat, n32_ix, hM.1, n32_le, bi_0n, m_of hM]
    rw [if_neg (by omega)]
    cases s_compl (z_I σ (M + 1)) k with
    | false => rfl
    | true =>
      by_cases h0 : z_I σ (M + 1) (18 + 7 * k + 0) = n32 0 <;> by_cases h1 : z_I σ (M + 1) (18 + 7 * k + 1) = n32 0 <;> by_cases h2 : z_I σ (M + 1) (18 + 7 * k + 2) = n32 1 <;> simp only [h0, h1, h2, ↓reduceIte, decide_true, decide_false, Bool.or_true, Bool.true_or, Bool.or_self, Bool.and_true, Bool.and_false, Bool.true_eq_false] <;> rfl
  · show b_X10_isComplete_4 σ M _ _ = _
    simp (disch := omega) only [b_X10_isComplete_4, ↓zl_eq, ↓zb_eq, ↓zb2_eq, ↓zc_some, ↓zc_none, ↓zb_pre, ↓zb2_pre, ↓zc_pre, ↓zex_eq, ↓reduceIte, Option.isSome_some, Option.isSome_none, Option.getD_some, n32_lit, n32_nn, n32_nn2, n32_add, n32_mul, n32_toNat, n32_ix, n32_le, Nat.le_refl, bi_bl]
theorem m_waiting (hM : zMs σ M) {q : Nat} (hq : z_I σ (M + 1) 5 = n32 q) (hq2 : q ≤ 100) : f_X10_waiting σ M = some (s_waiting (z_I σ (M + 1)) q 32) := by
  unfold f_X10_waiting f_X10_waiting_4
  refine zloop_go (fun k => (s_waiting (z_I σ (M + 1)) q k, n32 k)) _ 32 (fun k hk => ?_) ?_ (by unfold zN; omega)
  · show b_X10_waiting_4 σ M (s_waiting (z_I σ (M + 1)) q k) (n32 k) = some (.inl (s_waiting (z_I σ (M + 1)) q k + (if s_isOn (z_I σ (M + 1)) k = true then n32 (s_cnt (s_wt (z_I σ (M + 1)) (n32 k)) q) else n32 0), n32 (k + 1)))
    simp (disch := omega) only [b_X10_waiting_4, f_X10_waiting_39, f_X10_waiting_40, ↓zl_eq, ↓zb_eq, ↓zb2_eq, ↓zc_some, ↓zc_none, ↓zb_pre, ↓zb2_pre, ↓zc_pre, ↓zex_eq, ↓reduceIte, Option.isSome_some, Option.isSome_none, Option.getD_some, n32_lit, n32_nn, n32_nn2, n32_add, n32_mul, n32_toNat, n32_ix, hM.1, n32_le, m_of hM, m_queueOf hM hq hq2]
    rw [if_neg (by omega)]
    have e9 : s_isOn (z_I σ (M + 1)) k = (decide (z_I σ (M + 1) (18 + 7 * k + 0) = n32 1) && decide (z_I σ (M + 1) (18 + 7 * k + 1) = n32 1)) := rfl
    rw [e9]
    by_cases h1 : z_I σ (M + 1) (18 + 7 * k + 0) = n32 1 <;> by_cases h2 : z_I σ (M + 1) (18 + 7 * k + 1) = n32 1 <;> simp only [h1, h2, ↓reduceIte, decide_true, decide_false, Bool.and_false, Bool.false_and, Bool.and_self, Bool.false_eq_true]
  · show b_X10_waiting_4 σ M _ _ = _
    simp (disch := omega) only [b_X10_waiting_4, ↓zl_eq, ↓zb_eq, ↓zb2_eq, ↓zc_some, ↓zc_none, ↓zb_pre, ↓zb2_pre, ↓zc_pre, ↓zex_eq, ↓reduceIte, Option.isSome_some, Option.isSome_none, Option.getD_some, n32_lit, n32_nn, n32_nn2, n32_add, n32_mul, n32_toNat, n32_ix, n32_le, Nat.le_refl]
theorem m_stationOf (hM : zMs σ M) {q : Nat} (hq : z_I σ (M + 1) 5 = n32 q) (hq2 : q ≤ 100) {x what : Nat} (hx : x < 32) (hw : what < 7) : f_X10_stationOf σ M (n32 x) (n32 what) = some (s_stv (z_I σ (M + 1)) x what q) := by
  unfold s_stv
  by_cases h4 : what = 4
  · subst h4
    simp (disch := omega) only [f_X10_stationOf, f_X10_stationOf_30, ↓zl_eq, ↓zb_eq, ↓zb2_eq, ↓zc_some, ↓zc_none, ↓zb_pre, ↓zb2_pre, ↓zc_pre, ↓zex_eq, ↓reduceIte, Option.isSome_some, Option.isSome_none, Option.getD_some, n32_lit, n32_nn, n32_nn2, n32_add, n32_mul, n32_toNat, n32_ix, hM.1, m_queueOf hM hq hq2]
  · rw [if_neg h4]
    by_cases h5 : what < 4
    · rw [if_pos h5]
      simp (disch := omega) only [f_X10_stationOf, f_X10_stationOf_30, f_X10_stationOf_27, ↓zl_eq, ↓zb_eq, ↓zb2_eq, ↓zc_some, ↓zc_none, ↓zb_pre, ↓zb2_pre, ↓zc_pre, ↓zex_eq, ↓reduceIte, Option.isSome_some, Option.isSome_none, Option.getD_some, n32_lit, n32_nn, n32_nn2, n32_add, n32_mul, n32_toNat, n32_ix, hM.1, n32_eq, n32_le, if_neg h4, if_neg (show ¬ 4 ≤ what by omega), m_of hM]
    · rw [if_neg h5]
      simp (disch := omega) only [f_X10_stationOf, f_X10_stationOf_30, f_X10_stationOf_27, ↓zl_eq, ↓zb_eq, ↓zb2_eq, ↓zc_some, ↓zc_none, ↓zb_pre, ↓zb2_pre, ↓zc_pre, ↓zex_eq, ↓reduceIte, Option.isSome_some, Option.isSome_none, Option.getD_some, n32_lit, n32_nn, n32_nn2, n32_add, n32_mul, n32_toNat, n32_ix, hM.1, n32_eq, n32_le, if_neg h4, if_pos (show 4 ≤ what by omega), m_of hM]
theorem m_settingOf (hM : zMs σ M) {what : Nat} (hw : what < 9) : f_X10_settingOf σ M (n32 what) = some (s_set (z_I σ (M + 1)) what) := by
  unfold s_set
  simp (disch := omega) only [f_X10_settingOf, ↓zl_eq, ↓zb_eq, ↓zb2_eq, ↓zc_some, ↓zc_none, ↓zb_pre, ↓zb2_pre, ↓zc_pre, ↓zex_eq, ↓reduceIte, Option.isSome_some, Option.isSome_none, Option.getD_some, n32_lit, n32_nn, n32_nn2, n32_add, n32_mul, n32_toNat, n32_ix, hM.1, hM.2.1, hM.2.2.1, hM.2.2.2.1, hM.2.2.2.2.1, hM.2.2.2.2.2.1, hM.2.2.2.2.2.2.1, hM.2.2.2.2.2.2.2.1, hM.2.2.2.2.2.2.2.2.1, hM.2.2.2.2.2.2.2.2.2.1, hM.2.2.2.2.2.2.2.2.2.2.1, hM.2.2.2.2.2.2.2.2.2.2.2.1, hM.2.2.2.2.2.2.2.2.2.2.2.2, n32_eq, m_stations hM, m_inRing hM]
  by_cases h3 : what = 3
  · simp only [if_pos h3]
  · by_cases h4 : what = 4
    · simp only [if_neg h3, if_pos h4]
    · by_cases h5 : what = 5
      · simp only [if_neg h3, if_neg h4, if_pos h5]
      · by_cases h6 : what = 6
        · simp only [if_neg h3, if_neg h4, if_neg h5, if_pos h6]
        · by_cases h7 : what = 7
          · simp only [if_neg h3, if_neg h4, if_neg h5, if_neg h6, if_pos h7]
          · by_cases h8 : what = 8
            · simp only [if_neg h3, if_neg h4, if_neg h5, if_neg h6, if_neg h7, if_pos h8]
            · simp only [if_neg h3, if_neg h4, if_neg h5, if_neg h6, if_neg h7, if_neg h8]
end MODEL
end
section
/-! THE CLASS: a line at an address, cell by cell -/
def zLs (σ : zSt) (a : Nat) : Prop :=
  z_ob σ a 2 = true ∧ z_R σ a 0 = some (a + 1) ∧ z_R σ a 1 = some (a + 2) ∧ z_R σ a 2 = some (a + 5) ∧ z_R σ a 3 = some (a + 8) ∧ z_R σ a 4 = some (a + 9) ∧
  z_ar σ (a + 1) 3 = true ∧ z_ln σ (a + 1) = 8 ∧ z_ob σ (a + 2) 3 = true ∧ z_R σ (a + 2) 0 = some (a + 3) ∧ z_ob σ (a + 3) 7 = true ∧ z_R σ (a + 3) 1 = some (a + 4) ∧
  z_ar σ (a + 4) 0 = true ∧ z_ln σ (a + 4) = 600 ∧ z_ob σ (a + 5) 4 = true ∧ z_R σ (a + 5) 0 = some (a + 6) ∧ z_R σ (a + 5) 1 = some (a + 7) ∧
  z_ar σ (a + 6) 0 = true ∧ z_ln σ (a + 6) = 20 ∧ z_ar σ (a + 7) 0 = true ∧ z_ln σ (a + 7) = 20 ∧ z_ob σ (a + 8) 0 = true ∧ z_ob σ (a + 9) 7 = true ∧ z_R σ (a + 9) 1 = some (a + 10) ∧
  z_ar σ (a + 10) 0 = true ∧ z_ln σ (a + 10) = 160
/-- the stations' cells by their places -/
def zPl (σ : zSt) (a : Nat) (pl : Nat → Nat) : Prop :=
  (∀ i, i < 8 → z_R σ (a + 1) i = some (pl i) ∧ z_ob σ (pl i) 6 = true ∧ a + 11 ≤ pl i ∧ pl i < a + 19) ∧ ∀ i j, i < 8 → j < 8 → pl i = pl j → i = j
theorem ofN_n32 (k : Nat) : Int32.ofNat k = n32 k := rfl
theorem n32_0 : (0 : Int32) = n32 0 := rfl
section CLASS
variable {σ : zSt} {a : Nat}
/-- a row of a table of a width of 6, at a + 3 -/
theorem c_at (hL : zLs σ a) (hw : z_I σ (a + 3) 0 = n32 6) {m w : Nat} (hm : m < 100) (hw2 : w < 6) : f_X7_at σ (a + 3) (n32 m) (n32 w) = some (z_I σ (a + 4) (6 * m + w)) := by
  have e : m * 6 + w = 6 * m + w := by omega
  simp (disch := omega) only [f_X7_at, f_X7_at_31, f_X7_at_32, ↓zl_eq, ↓zb_eq, ↓zb2_eq, ↓zc_some, ↓zc_none, ↓zb_pre, ↓zb2_pre, ↓zc_pre, ↓zex_eq, ↓reduceIte, Option.isSome_some, Option.isSome_none, Option.getD_some, hL.1, hL.2.1, hL.2.2.1, hL.2.2.2.1, hL.2.2.2.2.1, hL.2.2.2.2.2.1, hL.2.2.2.2.2.2.1, hL.2.2.2.2.2.2.2.1, hL.2.2.2.2.2.2.2.2.1, hL.2.2.2.2.2.2.2.2.2.1, hL.2.2.2.2.2.2.2.2.2.2.1, hL.2.2.2.2.2.2.2.2.2.2.2.1, hL.2.2.2.2.2.2.2.2.2.2.2.2.1, hL.2.2.2.2.2.2.2.2.2.2.2.2.2.1, hL.2.2.2.2.2.2.2.2.2.2.2.2.2.2.1, hL.2.2.2.2.2.2.2.2.2.2.2.2.2.2.2.1, hL.2.2.2.2.2.2.2.2.2.2.2.2.2.2.2.2.1, hL.2.2.2.2.2.2.2.2.2.2.2.2.2.2.2.2.2.1, hL.2.2.2.2.2.2.2.2.2.2.2.2.2.2.2.2.2.2.1, hL.2.2.2.2.2.2.2.2.2.2.2.2.2.2.2.2.2.2.2.1, hL.2.2.2.2.2.2.2.2.2.2.2.2.2.2.2.2.2.2.2.2.1, hL.2.2.2.2.2.2.2.2.2.2.2.2.2.2.2.2.2.2.2.2.2.1, hL.2.2.2.2.2.2.2.2.2.2.2.2.2.2.2.2.2.2.2.2.2.2.1, hL.2.2.2.2.2.2.2.2.2.2.2.2.2.2.2.2.2.2.2.2.2.2.2.1, hL.2.2.2.2.2.2.2.2.2.2.2.2.2.2.2.2.2.2.2.2.2.2.2.2.1, hL.2.2.2.2.2.2.2.2.2.2.2.2.2.2.2.2.2.2.2.2.2.2.2.2.2, hw, n32_add, n32_mul, n32_lit, n32_lt, n32_le, ofN_n32, n32_toNat, n32_ix, e]
  rw [if_neg (by omega), if_neg (by omega)]
theorem c_atn (hL : zLs σ a) (hw : z_I σ (a + 3) 0 = n32 6) {w : Nat} (hw2 : w < 6) : f_X7_at σ (a + 3) nn (n32 w) = some nn := by
  have h0 : nn * n32 6 + n32 w < n32 0 := by
    have e1 : nn * n32 6 = -n32 6 := rfl
    have e2 : n32 6 = n32 (6 - w) + n32 w := by rw [n32_add]; congr 1; omega
    rw [Int32.lt_iff_toInt_lt, e1]
    rcases w with _ | _ | _ | _ | _ | _ | w
    · decide
    · decide
    · decide
    · decide
    · decide
    · decide
    · omega
  simp (disch := omega) only [f_X7_at, f_X7_at_31, f_X7_at_32, ↓zl_eq, ↓zb_eq, ↓zb2_eq, ↓zc_some, ↓zc_none, ↓zb_pre, ↓zb2_pre, ↓zc_pre, ↓zex_eq, ↓reduceIte, Option.isSome_some, Option.isSome_none, Option.getD_some, hL.1, hL.2.1, hL.2.2.1, hL.2.2.2.1, hL.2.2.2.2.1, hL.2.2.2.2.2.1, hL.2.2.2.2.2.2.1, hL.2.2.2.2.2.2.2.1, hL.2.2.2.2.2.2.2.2.1, hL.2.2.2.2.2.2.2.2.2.1, hL.2.2.2.2.2.2.2.2.2.2.1, hL.2.2.2.2.2.2.2.2.2.2.2.1, hL.2.2.2.2.2.2.2.2.2.2.2.2.1, hL.2.2.2.2.2.2.2.2.2.2.2.2.2.1, hL.2.2.2.2.2.2.2.2.2.2.2.2.2.2.1, hL.2.2.2.2.2.2.2.2.2.2.2.2.2.2.2.1, hL.2.2.2.2.2.2.2.2.2.2.2.2.2.2.2.2.1, hL.2.2.2.2.2.2.2.2.2.2.2.2.2.2.2.2.2.1, hL.2.2.2.2.2.2.2.2.2.2.2.2.2.2.2.2.2.2.1, hL.2.2.2.2.2.2.2.2.2.2.2.2.2.2.2.2.2.2.2.1, hL.2.2.2.2.2.2.2.2.2.2.2.2.2.2.2.2.2.2.2.2.1, hL.2.2.2.2.2.2.2.2.2.2.2.2.2.2.2.2.2.2.2.2.2.1, hL.2.2.2.2.2.2.2.2.2.2.2.2.2.2.2.2.2.2.2.2.2.2.1, hL.2.2.2.2.2.2.2.2.2.2.2.2.2.2.2.2.2.2.2.2.2.2.2.1, hL.2.2.2.2.2.2.2.2.2.2.2.2.2.2.2.2.2.2.2.2.2.2.2.2.1, hL.2.2.2.2.2.2.2.2.2.2.2.2.2.2.2.2.2.2.2.2.2.2.2.2.2, hw, n32_lit, n32_nn2, if_pos h0]
theorem c_put (hL : zLs σ a) (hw : z_I σ (a + 3) 0 = n32 6) {m w : Nat} (hm : m < 100) (hw2 : w < 6) (v : Int32) : f_X7_put σ (a + 3) (n32 m) (n32 w) v = some (z_sA σ (a + 4) (gu (z_I σ (a + 4)) (6 * m + w) v)) := by
  have e : m * 6 + w = 6 * m + w := by omega
  simp (disch := omega) only [f_X7_put, f_X7_put_33, ↓zl_eq, ↓zb_eq, ↓zb2_eq, ↓zc_some, ↓zc_none, ↓zb_pre, ↓zb2_pre, ↓zc_pre, ↓zex_eq, ↓reduceIte, Option.isSome_some, Option.isSome_none, Option.getD_some, hL.1, hL.2.1, hL.2.2.1, hL.2.2.2.1, hL.2.2.2.2.1, hL.2.2.2.2.2.1, hL.2.2.2.2.2.2.1, hL.2.2.2.2.2.2.2.1, hL.2.2.2.2.2.2.2.2.1, hL.2.2.2.2.2.2.2.2.2.1, hL.2.2.2.2.2.2.2.2.2.2.1, hL.2.2.2.2.2.2.2.2.2.2.2.1, hL.2.2.2.2.2.2.2.2.2.2.2.2.1, hL.2.2.2.2.2.2.2.2.2.2.2.2.2.1, hL.2.2.2.2.2.2.2.2.2.2.2.2.2.2.1, hL.2.2.2.2.2.2.2.2.2.2.2.2.2.2.2.1, hL.2.2.2.2.2.2.2.2.2.2.2.2.2.2.2.2.1, hL.2.2.2.2.2.2.2.2.2.2.2.2.2.2.2.2.2.1, hL.2.2.2.2.2.2.2.2.2.2.2.2.2.2.2.2.2.2.1, hL.2.2.2.2.2.2.2.2.2.2.2.2.2.2.2.2.2.2.2.1, hL.2.2.2.2.2.2.2.2.2.2.2.2.2.2.2.2.2.2.2.2.1, hL.2.2.2.2.2.2.2.2.2.2.2.2.2.2.2.2.2.2.2.2.2.1, hL.2.2.2.2.2.2.2.2.2.2.2.2.2.2.2.2.2.2.2.2.2.2.1, hL.2.2.2.2.2.2.2.2.2.2.2.2.2.2.2.2.2.2.2.2.2.2.2.1, hL.2.2.2.2.2.2.2.2.2.2.2.2.2.2.2.2.2.2.2.2.2.2.2.2.1, hL.2.2.2.2.2.2.2.2.2.2.2.2.2.2.2.2.2.2.2.2.2.2.2.2.2, hw, n32_add, n32_mul, n32_lit, n32_lt, n32_le, ofN_n32, n32_toNat, n32_ix, e, z_pI_eq]
  rw [if_neg (by omega), if_neg (by omega)]
/-- the log's table, of a width of 4, at a + 9 -/
theorem c_at4 (hL : zLs σ a) (hw : z_I σ (a + 9) 0 = n32 4) {m w : Nat} (hm : m < 40) (hw2 : w < 4) : f_X7_at σ (a + 9) (n32 m) (n32 w) = some (z_I σ (a + 10) (4 * m + w)) := by
  have e : m * 4 + w = 4 * m + w := by omega
  simp (disch := omega) only [f_X7_at, f_X7_at_31, f_X7_at_32, ↓zl_eq, ↓zb_eq, ↓zb2_eq, ↓zc_some, ↓zc_none, ↓zb_pre, ↓zb2_pre, ↓zc_pre, ↓zex_eq, ↓reduceIte, Option.isSome_some, Option.isSome_none, Option.getD_some, hL.1, hL.2.1, hL.2.2.1, hL.2.2.2.1, hL.2.2.2.2.1, hL.2.2.2.2.2.1, hL.2.2.2.2.2.2.1, hL.2.2.2.2.2.2.2.1, hL.2.2.2.2.2.2.2.2.1, hL.2.2.2.2.2.2.2.2.2.1, hL.2.2.2.2.2.2.2.2.2.2.1, hL.2.2.2.2.2.2.2.2.2.2.2.1, hL.2.2.2.2.2.2.2.2.2.2.2.2.1, hL.2.2.2.2.2.2.2.2.2.2.2.2.2.1, hL.2.2.2.2.2.2.2.2.2.2.2.2.2.2.1, hL.2.2.2.2.2.2.2.2.2.2.2.2.2.2.2.1, hL.2.2.2.2.2.2.2.2.2.2.2.2.2.2.2.2.1, hL.2.2.2.2.2.2.2.2.2.2.2.2.2.2.2.2.2.1, hL.2.2.2.2.2.2.2.2.2.2.2.2.2.2.2.2.2.2.1, hL.2.2.2.2.2.2.2.2.2.2.2.2.2.2.2.2.2.2.2.1, hL.2.2.2.2.2.2.2.2.2.2.2.2.2.2.2.2.2.2.2.2.1, hL.2.2.2.2.2.2.2.2.2.2.2.2.2.2.2.2.2.2.2.2.2.1, hL.2.2.2.2.2.2.2.2.2.2.2.2.2.2.2.2.2.2.2.2.2.2.1, hL.2.2.2.2.2.2.2.2.2.2.2.2.2.2.2.2.2.2.2.2.2.2.2.1, hL.2.2.2.2.2.2.2.2.2.2.2.2.2.2.2.2.2.2.2.2.2.2.2.2.1, hL.2.2.2.2.2.2.2.2.2.2.2.2.2.2.2.2.2.2.2.2.2.2.2.2.2, hw, n32_add, n32_mul, n32_lit, n32_lt, n32_le, ofN_n32, n32_toNat, n32_ix, e]
  rw [if_neg (by omega), if_neg (by omega)]
theorem c_put4 (hL : zLs σ a) (hw : z_I σ (a + 9) 0 = n32 4) {m w : Nat} (hm : m < 40) (hw2 : w < 4) (v : Int32) : f_X7_put σ (a + 9) (n32 m) (n32 w) v = some (z_sA σ (a + 10) (gu (z_I σ (a + 10)) (4 * m + w) v)) := by
  have e : m * 4 + w = 4 * m + w := by omega
  simp (disch := omega) only [f_X7_put, f_X7_put_33, ↓zl_eq, ↓zb_eq, ↓zb2_eq, ↓zc_some, ↓zc_none, ↓zb_pre, ↓zb2_pre, ↓zc_pre, ↓zex_eq, ↓reduceIte, Option.isSome_some, Option.isSome_none, Option.getD_some, hL.1, hL.2.1, hL.2.2.1, hL.2.2.2.1, hL.2.2.2.2.1, hL.2.2.2.2.2.1, hL.2.2.2.2.2.2.1, hL.2.2.2.2.2.2.2.1, hL.2.2.2.2.2.2.2.2.1, hL.2.2.2.2.2.2.2.2.2.1, hL.2.2.2.2.2.2.2.2.2.2.1, hL.2.2.2.2.2.2.2.2.2.2.2.1, hL.2.2.2.2.2.2.2.2.2.2.2.2.1, hL.2.2.2.2.2.2.2.2.2.2.2.2.2.1, hL.2.2.2.2.2.2.2.2.2.2.2.2.2.2.1, hL.2.2.2.2.2.2.2.2.2.2.2.2.2.2.2.1, hL.2.2.2.2.2.2.2.2.2.2.2.2.2.2.2.2.1, hL.2.2.2.2.2.2.2.2.2.2.2.2.2.2.2.2.2.1, hL.2.2.2.2.2.2.2.2.2.2.2.2.2.2.2.2.2.2.1, hL.2.2.2.2.2.2.2.2.2.2.2.2.2.2.2.2.2.2.2.1, hL.2.2.2.2.2.2.2.2.2.2.2.2.2.2.2.2.2.2.2.2.1, hL.2.2.2.2.2.2.2.2.2.2.2.2.2.2.2.2.2.2.2.2.2.1, hL.2.2.2.2.2.2.2.2.2.2.2.2.2.2.2.2.2.2.2.2.2.2.1, hL.2.2.2.2.2.2.2.2.2.2.2.2.2.2.2.2.2.2.2.2.2.2.2.1, hL.2.2.2.2.2.2.2.2.2.2.2.2.2.2.2.2.2.2.2.2.2.2.2.2.1, hL.2.2.2.2.2.2.2.2.2.2.2.2.2.2.2.2.2.2.2.2.2.2.2.2.2, hw, n32_add, n32_mul, n32_lit, n32_lt, n32_le, ofN_n32, n32_toNat, n32_ix, e, z_pI_eq]
  rw [if_neg (by omega), if_neg (by omega)]
theorem c_value (hL : zLs σ a) (hw : z_I σ (a + 3) 0 = n32 6) {m w : Nat} (hm : m < 100) (hw2 : w < 6) : f_X3_value σ (a + 2) (n32 m) (n32 w) = some (z_I σ (a + 4) (6 * m + w)) := by
  simp (disch := omega) only [f_X3_value, ↓zl_eq, ↓zb_eq, ↓zb2_eq, ↓zc_some, ↓zc_none, ↓zb_pre, ↓zb2_pre, ↓zc_pre, ↓zex_eq, ↓reduceIte, Option.isSome_some, Option.isSome_none, Option.getD_some, hL.1, hL.2.1, hL.2.2.1, hL.2.2.2.1, hL.2.2.2.2.1, hL.2.2.2.2.2.1, hL.2.2.2.2.2.2.1, hL.2.2.2.2.2.2.2.1, hL.2.2.2.2.2.2.2.2.1, hL.2.2.2.2.2.2.2.2.2.1, hL.2.2.2.2.2.2.2.2.2.2.1, hL.2.2.2.2.2.2.2.2.2.2.2.1, hL.2.2.2.2.2.2.2.2.2.2.2.2.1, hL.2.2.2.2.2.2.2.2.2.2.2.2.2.1, hL.2.2.2.2.2.2.2.2.2.2.2.2.2.2.1, hL.2.2.2.2.2.2.2.2.2.2.2.2.2.2.2.1, hL.2.2.2.2.2.2.2.2.2.2.2.2.2.2.2.2.1, hL.2.2.2.2.2.2.2.2.2.2.2.2.2.2.2.2.2.1, hL.2.2.2.2.2.2.2.2.2.2.2.2.2.2.2.2.2.2.1, hL.2.2.2.2.2.2.2.2.2.2.2.2.2.2.2.2.2.2.2.1, hL.2.2.2.2.2.2.2.2.2.2.2.2.2.2.2.2.2.2.2.2.1, hL.2.2.2.2.2.2.2.2.2.2.2.2.2.2.2.2.2.2.2.2.2.1, hL.2.2.2.2.2.2.2.2.2.2.2.2.2.2.2.2.2.2.2.2.2.2.1, hL.2.2.2.2.2.2.2.2.2.2.2.2.2.2.2.2.2.2.2.2.2.2.2.1, hL.2.2.2.2.2.2.2.2.2.2.2.2.2.2.2.2.2.2.2.2.2.2.2.2.1, hL.2.2.2.2.2.2.2.2.2.2.2.2.2.2.2.2.2.2.2.2.2.2.2.2.2, c_at hL hw]
theorem c_follower (hL : zLs σ a) (hw : z_I σ (a + 3) 0 = n32 6) {m : Nat} (hm : m < 100) : f_X3_follower σ (a + 2) (n32 m) = some (z_I σ (a + 4) (6 * m + 5)) := by
  simp (disch := omega) only [f_X3_follower, ↓zl_eq, ↓zb_eq, ↓zb2_eq, ↓zc_some, ↓zc_none, ↓zb_pre, ↓zb2_pre, ↓zc_pre, ↓zex_eq, ↓reduceIte, Option.isSome_some, Option.isSome_none, Option.getD_some, hL.1, hL.2.1, hL.2.2.1, hL.2.2.2.1, hL.2.2.2.2.1, hL.2.2.2.2.2.1, hL.2.2.2.2.2.2.1, hL.2.2.2.2.2.2.2.1, hL.2.2.2.2.2.2.2.2.1, hL.2.2.2.2.2.2.2.2.2.1, hL.2.2.2.2.2.2.2.2.2.2.1, hL.2.2.2.2.2.2.2.2.2.2.2.1, hL.2.2.2.2.2.2.2.2.2.2.2.2.1, hL.2.2.2.2.2.2.2.2.2.2.2.2.2.1, hL.2.2.2.2.2.2.2.2.2.2.2.2.2.2.1, hL.2.2.2.2.2.2.2.2.2.2.2.2.2.2.2.1, hL.2.2.2.2.2.2.2.2.2.2.2.2.2.2.2.2.1, hL.2.2.2.2.2.2.2.2.2.2.2.2.2.2.2.2.2.1, hL.2.2.2.2.2.2.2.2.2.2.2.2.2.2.2.2.2.2.1, hL.2.2.2.2.2.2.2.2.2.2.2.2.2.2.2.2.2.2.2.1, hL.2.2.2.2.2.2.2.2.2.2.2.2.2.2.2.2.2.2.2.2.1, hL.2.2.2.2.2.2.2.2.2.2.2.2.2.2.2.2.2.2.2.2.2.1, hL.2.2.2.2.2.2.2.2.2.2.2.2.2.2.2.2.2.2.2.2.2.2.1, hL.2.2.2.2.2.2.2.2.2.2.2.2.2.2.2.2.2.2.2.2.2.2.2.1, hL.2.2.2.2.2.2.2.2.2.2.2.2.2.2.2.2.2.2.2.2.2.2.2.2.1, hL.2.2.2.2.2.2.2.2.2.2.2.2.2.2.2.2.2.2.2.2.2.2.2.2.2, n32_lit, c_at hL hw]
/-- the station at a place -/
theorem c_stationIn (hL : zLs σ a) {pl : Nat → Nat} (hP : zPl σ a pl) {n i : Nat} (hn : n ≤ 8) (h5 : z_I σ a 5 = n32 n) (hi : i < n) : f_X2_stationIn σ a (n32 i) = some (some (pl i)) := by
  have hp := (hP.1 i (by omega)).1
  simp (disch := omega) only [f_X2_stationIn, f_X2_stationIn_30, f_X2_stationIn_31, ↓zl_eq, ↓zb_eq, ↓zb2_eq, ↓zc_some, ↓zc_none, ↓zb_pre, ↓zb2_pre, ↓zc_pre, ↓zex_eq, ↓reduceIte, Option.isSome_some, Option.isSome_none, Option.getD_some, hL.1, hL.2.1, hL.2.2.1, hL.2.2.2.1, hL.2.2.2.2.1, hL.2.2.2.2.2.1, hL.2.2.2.2.2.2.1, hL.2.2.2.2.2.2.2.1, hL.2.2.2.2.2.2.2.2.1, hL.2.2.2.2.2.2.2.2.2.1, hL.2.2.2.2.2.2.2.2.2.2.1, hL.2.2.2.2.2.2.2.2.2.2.2.1, hL.2.2.2.2.2.2.2.2.2.2.2.2.1, hL.2.2.2.2.2.2.2.2.2.2.2.2.2.1, hL.2.2.2.2.2.2.2.2.2.2.2.2.2.2.1, hL.2.2.2.2.2.2.2.2.2.2.2.2.2.2.2.1, hL.2.2.2.2.2.2.2.2.2.2.2.2.2.2.2.2.1, hL.2.2.2.2.2.2.2.2.2.2.2.2.2.2.2.2.2.1, hL.2.2.2.2.2.2.2.2.2.2.2.2.2.2.2.2.2.2.1, hL.2.2.2.2.2.2.2.2.2.2.2.2.2.2.2.2.2.2.2.1, hL.2.2.2.2.2.2.2.2.2.2.2.2.2.2.2.2.2.2.2.2.1, hL.2.2.2.2.2.2.2.2.2.2.2.2.2.2.2.2.2.2.2.2.2.1, hL.2.2.2.2.2.2.2.2.2.2.2.2.2.2.2.2.2.2.2.2.2.2.1, hL.2.2.2.2.2.2.2.2.2.2.2.2.2.2.2.2.2.2.2.2.2.2.2.1, hL.2.2.2.2.2.2.2.2.2.2.2.2.2.2.2.2.2.2.2.2.2.2.2.2.1, hL.2.2.2.2.2.2.2.2.2.2.2.2.2.2.2.2.2.2.2.2.2.2.2.2.2, h5, n32_lit, n32_lt, n32_le, ofN_n32, n32_toNat, n32_ix, hp]
  rw [if_neg (by omega), if_neg (by omega), if_neg (by omega)]
/-- the station with an address -/
theorem c_stationWith1 (hL : zLs σ a) {pl : Nat → Nat} (hP : zPl σ a pl) {n : Nat} (hn : n ≤ 8) (h5 : z_I σ a 5 = n32 n) {ad : Nat → Nat} (hA : ∀ i, i < n → ad i < 32 ∧ z_I σ (pl i) 0 = n32 (ad i)) (hI : ∀ i j, i < j → j < n → ad i < ad j) {i : Nat} (hi : i < n) : f_X2_stationWith σ a (n32 (ad i)) = some (some (pl i)) := by
  unfold f_X2_stationWith f_X2_stationWith_2
  refine zloop_go (fun k => n32 k) _ i (fun k hk => ?_) ?_ (by unfold zN; omega)
  · show b_X2_stationWith_2 σ a (n32 (ad i)) (n32 k) = some (.inl (n32 (k + 1)))
    have hp := hP.1 k (by omega)
    have hk2 := hA k (by omega)
    have hi2 := hA i hi
    have hne := hI k i hk hi
    simp (disch := omega) only [b_X2_stationWith_2, f_X2_stationWith_46, f_X2_stationWith_40, ↓zl_eq, ↓zb_eq, ↓zb2_eq, ↓zc_some, ↓zc_none, ↓zb_pre, ↓zb2_pre, ↓zc_pre, ↓zex_eq, ↓reduceIte, Option.isSome_some, Option.isSome_none, Option.getD_some, hL.1, hL.2.1, hL.2.2.1, hL.2.2.2.1, hL.2.2.2.2.1, hL.2.2.2.2.2.1, hL.2.2.2.2.2.2.1, hL.2.2.2.2.2.2.2.1, hL.2.2.2.2.2.2.2.2.1, hL.2.2.2.2.2.2.2.2.2.1, hL.2.2.2.2.2.2.2.2.2.2.1, hL.2.2.2.2.2.2.2.2.2.2.2.1, hL.2.2.2.2.2.2.2.2.2.2.2.2.1, hL.2.2.2.2.2.2.2.2.2.2.2.2.2.1, hL.2.2.2.2.2.2.2.2.2.2.2.2.2.2.1, hL.2.2.2.2.2.2.2.2.2.2.2.2.2.2.2.1, hL.2.2.2.2.2.2.2.2.2.2.2.2.2.2.2.2.1, hL.2.2.2.2.2.2.2.2.2.2.2.2.2.2.2.2.2.1, hL.2.2.2.2.2.2.2.2.2.2.2.2.2.2.2.2.2.2.1, hL.2.2.2.2.2.2.2.2.2.2.2.2.2.2.2.2.2.2.2.1, hL.2.2.2.2.2.2.2.2.2.2.2.2.2.2.2.2.2.2.2.2.1, hL.2.2.2.2.2.2.2.2.2.2.2.2.2.2.2.2.2.2.2.2.2.1, hL.2.2.2.2.2.2.2.2.2.2.2.2.2.2.2.2.2.2.2.2.2.2.1, hL.2.2.2.2.2.2.2.2.2.2.2.2.2.2.2.2.2.2.2.2.2.2.2.1, hL.2.2.2.2.2.2.2.2.2.2.2.2.2.2.2.2.2.2.2.2.2.2.2.2.1, hL.2.2.2.2.2.2.2.2.2.2.2.2.2.2.2.2.2.2.2.2.2.2.2.2.2, h5, n32_lit, n32_add, n32_lt, n32_le, n32_eq, ofN_n32, n32_toNat, n32_ix, hp.1, hp.2.1, hk2.2]
    rw [if_neg (by omega), if_neg (by omega), if_neg (by omega)]
  · show b_X2_stationWith_2 σ a (n32 (ad i)) (n32 i) = _
    have hp := hP.1 i (by omega)
    have hi2 := hA i hi
    simp (disch := omega) only [b_X2_stationWith_2, f_X2_stationWith_46, f_X2_stationWith_40, ↓zl_eq, ↓zb_eq, ↓zb2_eq, ↓zc_some, ↓zc_none, ↓zb_pre, ↓zb2_pre, ↓zc_pre, ↓zex_eq, ↓reduceIte, Option.isSome_some, Option.isSome_none, Option.getD_some, hL.1, hL.2.1, hL.2.2.1, hL.2.2.2.1, hL.2.2.2.2.1, hL.2.2.2.2.2.1, hL.2.2.2.2.2.2.1, hL.2.2.2.2.2.2.2.1, hL.2.2.2.2.2.2.2.2.1, hL.2.2.2.2.2.2.2.2.2.1, hL.2.2.2.2.2.2.2.2.2.2.1, hL.2.2.2.2.2.2.2.2.2.2.2.1, hL.2.2.2.2.2.2.2.2.2.2.2.2.1, hL.2.2.2.2.2.2.2.2.2.2.2.2.2.1, hL.2.2.2.2.2.2.2.2.2.2.2.2.2.2.1, hL.2.2.2.2.2.2.2.2.2.2.2.2.2.2.2.1, hL.2.2.2.2.2.2.2.2.2.2.2.2.2.2.2.2.1, hL.2.2.2.2.2.2.2.2.2.2.2.2.2.2.2.2.2.1, hL.2.2.2.2.2.2.2.2.2.2.2.2.2.2.2.2.2.2.1, hL.2.2.2.2.2.2.2.2.2.2.2.2.2.2.2.2.2.2.2.1, hL.2.2.2.2.2.2.2.2.2.2.2.2.2.2.2.2.2.2.2.2.1, hL.2.2.2.2.2.2.2.2.2.2.2.2.2.2.2.2.2.2.2.2.2.1, hL.2.2.2.2.2.2.2.2.2.2.2.2.2.2.2.2.2.2.2.2.2.2.1, hL.2.2.2.2.2.2.2.2.2.2.2.2.2.2.2.2.2.2.2.2.2.2.2.1, hL.2.2.2.2.2.2.2.2.2.2.2.2.2.2.2.2.2.2.2.2.2.2.2.2.1, hL.2.2.2.2.2.2.2.2.2.2.2.2.2.2.2.2.2.2.2.2.2.2.2.2.2, h5, n32_lit, n32_lt, n32_le, n32_eq, ofN_n32, n32_toNat, n32_ix, hp.1, hp.2.1, hi2.2]
    rw [if_neg (by omega), if_neg (by omega)]
theorem c_stationWith0 (hL : zLs σ a) {pl : Nat → Nat} (hP : zPl σ a pl) {n : Nat} (hn : n ≤ 8) (h5 : z_I σ a 5 = n32 n) (x : Int32) (hx : ∀ i, i < n → ¬ z_I σ (pl i) 0 = x) : f_X2_stationWith σ a x = some none := by
  unfold f_X2_stationWith f_X2_stationWith_2
  refine zloop_go (fun k => n32 k) _ n (fun k hk => ?_) ?_ (by unfold zN; omega)
  · show b_X2_stationWith_2 σ a x (n32 k) = some (.inl (n32 (k + 1)))
    have hp := hP.1 k (by omega)
    have hk2 := hx k hk
    simp (disch := omega) only [b_X2_stationWith_2, f_X2_stationWith_46, f_X2_stationWith_40, ↓zl_eq, ↓zb_eq, ↓zb2_eq, ↓zc_some, ↓zc_none, ↓zb_pre, ↓zb2_pre, ↓zc_pre, ↓zex_eq, ↓reduceIte, Option.isSome_some, Option.isSome_none, Option.getD_some, hL.1, hL.2.1, hL.2.2.1, hL.2.2.2.1, hL.2.2.2.2.1, hL.2.2.2.2.2.1, hL.2.2.2.2.2.2.1, hL.2.2.2.2.2.2.2.1, hL.2.2.2.2.2.2.2.2.1, hL.2.2.2.2.2.2.2.2.2.1, hL.2.2.2.2.2.2.2.2.2.2.1, hL.2.2.2.2.2.2.2.2.2.2.2.1, hL.2.2.2.2.2.2.2.2.2.2.2.2.1, hL.2.2.2.2.2.2.2.2.2.2.2.2.2.1, hL.2.2.2.2.2.2.2.2.2.2.2.2.2.2.1, hL.2.2.2.2.2.2.2.2.2.2.2.2.2.2.2.1, hL.2.2.2.2.2.2.2.2.2.2.2.2.2.2.2.2.1, hL.2.2.2.2.2.2.2.2.2.2.2.2.2.2.2.2.2.1, hL.2.2.2.2.2.2.2.2.2.2.2.2.2.2.2.2.2.2.1, hL.2.2.2.2.2.2.2.2.2.2.2.2.2.2.2.2.2.2.2.1, hL.2.2.2.2.2.2.2.2.2.2.2.2.2.2.2.2.2.2.2.2.1, hL.2.2.2.2.2.2.2.2.2.2.2.2.2.2.2.2.2.2.2.2.2.1, hL.2.2.2.2.2.2.2.2.2.2.2.2.2.2.2.2.2.2.2.2.2.2.1, hL.2.2.2.2.2.2.2.2.2.2.2.2.2.2.2.2.2.2.2.2.2.2.2.1, hL.2.2.2.2.2.2.2.2.2.2.2.2.2.2.2.2.2.2.2.2.2.2.2.2.1, hL.2.2.2.2.2.2.2.2.2.2.2.2.2.2.2.2.2.2.2.2.2.2.2.2.2, h5, n32_lit, n32_add, n32_lt, n32_le, ofN_n32, n32_toNat, n32_ix, hp.1, hp.2.1, if_neg hk2]
    rw [if_neg (by omega), if_neg (by omega)]
  · show b_X2_stationWith_2 σ a x (n32 n) = _
    simp (disch := omega) only [b_X2_stationWith_2, f_X2_stationWith_46, ↓zl_eq, ↓zb_eq, ↓zb2_eq, ↓zc_some, ↓zc_none, ↓zb_pre, ↓zb2_pre, ↓zc_pre, ↓zex_eq, ↓reduceIte, Option.isSome_some, Option.isSome_none, Option.getD_some, hL.1, hL.2.1, hL.2.2.1, hL.2.2.2.1, hL.2.2.2.2.1, hL.2.2.2.2.2.1, hL.2.2.2.2.2.2.1, hL.2.2.2.2.2.2.2.1, hL.2.2.2.2.2.2.2.2.1, hL.2.2.2.2.2.2.2.2.2.1, hL.2.2.2.2.2.2.2.2.2.2.1, hL.2.2.2.2.2.2.2.2.2.2.2.1, hL.2.2.2.2.2.2.2.2.2.2.2.2.1, hL.2.2.2.2.2.2.2.2.2.2.2.2.2.1, hL.2.2.2.2.2.2.2.2.2.2.2.2.2.2.1, hL.2.2.2.2.2.2.2.2.2.2.2.2.2.2.2.1, hL.2.2.2.2.2.2.2.2.2.2.2.2.2.2.2.2.1, hL.2.2.2.2.2.2.2.2.2.2.2.2.2.2.2.2.2.1, hL.2.2.2.2.2.2.2.2.2.2.2.2.2.2.2.2.2.2.1, hL.2.2.2.2.2.2.2.2.2.2.2.2.2.2.2.2.2.2.2.1, hL.2.2.2.2.2.2.2.2.2.2.2.2.2.2.2.2.2.2.2.2.1, hL.2.2.2.2.2.2.2.2.2.2.2.2.2.2.2.2.2.2.2.2.2.1, hL.2.2.2.2.2.2.2.2.2.2.2.2.2.2.2.2.2.2.2.2.2.2.1, hL.2.2.2.2.2.2.2.2.2.2.2.2.2.2.2.2.2.2.2.2.2.2.2.1, hL.2.2.2.2.2.2.2.2.2.2.2.2.2.2.2.2.2.2.2.2.2.2.2.2.1, hL.2.2.2.2.2.2.2.2.2.2.2.2.2.2.2.2.2.2.2.2.2.2.2.2.2, h5, n32_le, Nat.le_refl]
theorem c_touch (hL : zLs σ a) {g : zG} {n : Nat} (hn : n ≤ 20) (h6 : g 6 = n32 n) (h2 : z_I σ (a + 5) 2 = n32 n) (hF : ∀ k, k < n → z_I σ (a + 6) k = g (742 + 2 * k) ∧ z_I σ (a + 7) k = g (742 + 2 * k + 1)) (f t : Int32) : f_X4_touch σ (a + 5) f t = some (bi (s_loud g f t)) := by
  unfold s_loud
  rw [h6, n32_toNat (by omega)]
  unfold f_X4_touch f_X4_touch_2
  obtain ⟨r, hr, hr2⟩ := zloop_inv (N := zN) (s := (0 : Int32)) (body := fun (t' : Int32) => b_X4_touch_2 σ (a + 5) f t t') (Inv := fun k s => s = n32 k ∧ s_any (fun k => decide (g (742 + 2 * k) ≤ t) && decide (f ≤ g (742 + 2 * k + 1))) k = false)
    (Post := fun r => r = bi (s_any (fun k => decide (g (742 + 2 * k) ≤ t) && decide (f ≤ g (742 + 2 * k + 1))) n)) n (fun k s hk hi => by
      obtain ⟨rfl, hi⟩ := hi
      by_cases hkn : k = n
      · subst hkn
        refine Or.inl ⟨bi false, ?_, by rw [hi]⟩
        show b_X4_touch_2 σ (a + 5) f t (n32 k) = _
        simp (disch := omega) only [b_X4_touch_2, f_X4_touch_44, ↓zl_eq, ↓zb_eq, ↓zb2_eq, ↓zc_some, ↓zc_none, ↓zb_pre, ↓zb2_pre, ↓zc_pre, ↓zex_eq, ↓reduceIte, Option.isSome_some, Option.isSome_none, Option.getD_some, hL.1, hL.2.1, hL.2.2.1, hL.2.2.2.1, hL.2.2.2.2.1, hL.2.2.2.2.2.1, hL.2.2.2.2.2.2.1, hL.2.2.2.2.2.2.2.1, hL.2.2.2.2.2.2.2.2.1, hL.2.2.2.2.2.2.2.2.2.1, hL.2.2.2.2.2.2.2.2.2.2.1, hL.2.2.2.2.2.2.2.2.2.2.2.1, hL.2.2.2.2.2.2.2.2.2.2.2.2.1, hL.2.2.2.2.2.2.2.2.2.2.2.2.2.1, hL.2.2.2.2.2.2.2.2.2.2.2.2.2.2.1, hL.2.2.2.2.2.2.2.2.2.2.2.2.2.2.2.1, hL.2.2.2.2.2.2.2.2.2.2.2.2.2.2.2.2.1, hL.2.2.2.2.2.2.2.2.2.2.2.2.2.2.2.2.2.1, hL.2.2.2.2.2.2.2.2.2.2.2.2.2.2.2.2.2.2.1, hL.2.2.2.2.2.2.2.2.2.2.2.2.2.2.2.2.2.2.2.1, hL.2.2.2.2.2.2.2.2.2.2.2.2.2.2.2.2.2.2.2.2.1, hL.2.2.2.2.2.2.2.2.2.2.2.2.2.2.2.2.2.2.2.2.2.1, hL.2.2.2.2.2.2.2.2.2.2.2.2.2.2.2.2.2.2.2.2.2.2.1, hL.2.2.2.2.2.2.2.2.2.2.2.2.2.2.2.2.2.2.2.2.2.2.2.1, hL.2.2.2.2.2.2.2.2.2.2.2.2.2.2.2.2.2.2.2.2.2.2.2.2.1, hL.2.2.2.2.2.2.2.2.2.2.2.2.2.2.2.2.2.2.2.2.2.2.2.2.2, h2, n32_le, Nat.le_refl]
        rfl
      · have hk2 : k < n := by omega
        obtain ⟨hf1, hf2⟩ := hF k hk2
        have mono : ∀ d, s_any (fun k => decide (g (742 + 2 * k) ≤ t) && decide (f ≤ g (742 + 2 * k + 1))) (k + 1) = true → s_any (fun k => decide (g (742 + 2 * k) ≤ t) && decide (f ≤ g (742 + 2 * k + 1))) (k + 1 + d) = true := by
          intro d h
          induction d with
          | zero => exact h
          | succ d ih =>
            show (s_any _ (k + 1 + d) || _) = true
            rw [ih]; rfl
        have e : s_any (fun k => decide (g (742 + 2 * k) ≤ t) && decide (f ≤ g (742 + 2 * k + 1))) (k + 1) = (decide (g (742 + 2 * k) ≤ t) && decide (f ≤ g (742 + 2 * k + 1))) := by
          show (s_any _ k || _) = _
          rw [hi]; rfl
        by_cases hc1 : t < g (742 + 2 * k)
        · refine Or.inr ⟨hk2, n32 (k + 1), ?_, rfl, ?_⟩
          · show b_X4_touch_2 σ (a + 5) f t (n32 k) = _
            simp (disch := omega) only [b_X4_touch_2, f_X4_touch_38, ↓zl_eq, ↓zb_eq, ↓zb2_eq, ↓zc_some, ↓zc_none, ↓zb_pre, ↓zb2_pre, ↓zc_pre, ↓zex_eq, ↓reduceIte, Option.isSome_some, Option.isSome_none, Option.getD_some, hL.1, hL.2.1, hL.2.2.1, hL.2.2.2.1, hL.2.2.2.2.1, hL.2.2.2.2.2.1, hL.2.2.2.2.2.2.1, hL.2.2.2.2.2.2.2.1, hL.2.2.2.2.2.2.2.2.1, hL.2.2.2.2.2.2.2.2.2.1, hL.2.2.2.2.2.2.2.2.2.2.1, hL.2.2.2.2.2.2.2.2.2.2.2.1, hL.2.2.2.2.2.2.2.2.2.2.2.2.1, hL.2.2.2.2.2.2.2.2.2.2.2.2.2.1, hL.2.2.2.2.2.2.2.2.2.2.2.2.2.2.1, hL.2.2.2.2.2.2.2.2.2.2.2.2.2.2.2.1, hL.2.2.2.2.2.2.2.2.2.2.2.2.2.2.2.2.1, hL.2.2.2.2.2.2.2.2.2.2.2.2.2.2.2.2.2.1, hL.2.2.2.2.2.2.2.2.2.2.2.2.2.2.2.2.2.2.1, hL.2.2.2.2.2.2.2.2.2.2.2.2.2.2.2.2.2.2.2.1, hL.2.2.2.2.2.2.2.2.2.2.2.2.2.2.2.2.2.2.2.2.1, hL.2.2.2.2.2.2.2.2.2.2.2.2.2.2.2.2.2.2.2.2.2.1, hL.2.2.2.2.2.2.2.2.2.2.2.2.2.2.2.2.2.2.2.2.2.2.1, hL.2.2.2.2.2.2.2.2.2.2.2.2.2.2.2.2.2.2.2.2.2.2.2.1, hL.2.2.2.2.2.2.2.2.2.2.2.2.2.2.2.2.2.2.2.2.2.2.2.2.1, hL.2.2.2.2.2.2.2.2.2.2.2.2.2.2.2.2.2.2.2.2.2.2.2.2.2, h2, n32_lit, n32_add, n32_le, n32_toNat, n32_ix, hf1, if_pos hc1]
            rw [if_neg (by omega), if_neg (by omega)]
          · have : ¬ g (742 + 2 * k) ≤ t := by rw [Int32.not_le]; exact hc1
            rw [e]; simp [this]
        · have h5 : g (742 + 2 * k) ≤ t := by rw [Int32.not_lt] at hc1; exact hc1
          by_cases hc2 : g (742 + 2 * k + 1) < f
          · refine Or.inr ⟨hk2, n32 (k + 1), ?_, rfl, ?_⟩
            · show b_X4_touch_2 σ (a + 5) f t (n32 k) = _
              simp (disch := omega) only [b_X4_touch_2, f_X4_touch_38, ↓zl_eq, ↓zb_eq, ↓zb2_eq, ↓zc_some, ↓zc_none, ↓zb_pre, ↓zb2_pre, ↓zc_pre, ↓zex_eq, ↓reduceIte, Option.isSome_some, Option.isSome_none, Option.getD_some, hL.1, hL.2.1, hL.2.2.1, hL.2.2.2.1, hL.2.2.2.2.1, hL.2.2.2.2.2.1, hL.2.2.2.2.2.2.1, hL.2.2.2.2.2.2.2.1, hL.2.2.2.2.2.2.2.2.1, hL.2.2.2.2.2.2.2.2.2.1, hL.2.2.2.2.2.2.2.2.2.2.1, hL.2.2.2.2.2.2.2.2.2.2.2.1, hL.2.2.2.2.2.2.2.2.2.2.2.2.1, hL.2.2.2.2.2.2.2.2.2.2.2.2.2.1, hL.2.2.2.2.2.2.2.2.2.2.2.2.2.2.1, hL.2.2.2.2.2.2.2.2.2.2.2.2.2.2.2.1, hL.2.2.2.2.2.2.2.2.2.2.2.2.2.2.2.2.1, hL.2.2.2.2.2.2.2.2.2.2.2.2.2.2.2.2.2.1, hL.2.2.2.2.2.2.2.2.2.2.2.2.2.2.2.2.2.2.1, hL.2.2.2.2.2.2.2.2.2.2.2.2.2.2.2.2.2.2.2.1, hL.2.2.2.2.2.2.2.2.2.2.2.2.2.2.2.2.2.2.2.2.1, hL.2.2.2.2.2.2.2.2.2.2.2.2.2.2.2.2.2.2.2.2.2.1, hL.2.2.2.2.2.2.2.2.2.2.2.2.2.2.2.2.2.2.2.2.2.2.1, hL.2.2.2.2.2.2.2.2.2.2.2.2.2.2.2.2.2.2.2.2.2.2.2.1, hL.2.2.2.2.2.2.2.2.2.2.2.2.2.2.2.2.2.2.2.2.2.2.2.2.1, hL.2.2.2.2.2.2.2.2.2.2.2.2.2.2.2.2.2.2.2.2.2.2.2.2.2, h2, n32_lit, n32_add, n32_le, n32_toNat, n32_ix, hf1, hf2, if_neg hc1, if_pos hc2]
              rw [if_neg (by omega), if_neg (by omega)]
            · have : ¬ f ≤ g (742 + 2 * k + 1) := by rw [Int32.not_le]; exact hc2
              rw [e]; simp [this]
          · have h6 : f ≤ g (742 + 2 * k + 1) := by rw [Int32.not_lt] at hc2; exact hc2
            refine Or.inl ⟨bi true, ?_, ?_⟩
            · show b_X4_touch_2 σ (a + 5) f t (n32 k) = _
              simp (disch := omega) only [b_X4_touch_2, ↓zl_eq, ↓zb_eq, ↓zb2_eq, ↓zc_some, ↓zc_none, ↓zb_pre, ↓zb2_pre, ↓zc_pre, ↓zex_eq, ↓reduceIte, Option.isSome_some, Option.isSome_none, Option.getD_some, hL.1, hL.2.1, hL.2.2.1, hL.2.2.2.1, hL.2.2.2.2.1, hL.2.2.2.2.2.1, hL.2.2.2.2.2.2.1, hL.2.2.2.2.2.2.2.1, hL.2.2.2.2.2.2.2.2.1, hL.2.2.2.2.2.2.2.2.2.1, hL.2.2.2.2.2.2.2.2.2.2.1, hL.2.2.2.2.2.2.2.2.2.2.2.1, hL.2.2.2.2.2.2.2.2.2.2.2.2.1, hL.2.2.2.2.2.2.2.2.2.2.2.2.2.1, hL.2.2.2.2.2.2.2.2.2.2.2.2.2.2.1, hL.2.2.2.2.2.2.2.2.2.2.2.2.2.2.2.1, hL.2.2.2.2.2.2.2.2.2.2.2.2.2.2.2.2.1, hL.2.2.2.2.2.2.2.2.2.2.2.2.2.2.2.2.2.1, hL.2.2.2.2.2.2.2.2.2.2.2.2.2.2.2.2.2.2.1, hL.2.2.2.2.2.2.2.2.2.2.2.2.2.2.2.2.2.2.2.1, hL.2.2.2.2.2.2.2.2.2.2.2.2.2.2.2.2.2.2.2.2.1, hL.2.2.2.2.2.2.2.2.2.2.2.2.2.2.2.2.2.2.2.2.2.1, hL.2.2.2.2.2.2.2.2.2.2.2.2.2.2.2.2.2.2.2.2.2.2.1, hL.2.2.2.2.2.2.2.2.2.2.2.2.2.2.2.2.2.2.2.2.2.2.2.1, hL.2.2.2.2.2.2.2.2.2.2.2.2.2.2.2.2.2.2.2.2.2.2.2.2.1, hL.2.2.2.2.2.2.2.2.2.2.2.2.2.2.2.2.2.2.2.2.2.2.2.2.2, h2, n32_lit, n32_add, n32_le, n32_toNat, n32_ix, hf1, hf2, if_neg hc1, if_neg hc2]
              rw [if_neg (by omega), if_neg (by omega)]
              rfl
            · have := mono (n - (k + 1)) (by rw [e]; simp [h5, h6])
              rw [show k + 1 + (n - (k + 1)) = n from by omega] at this
              rw [this]) (by unfold zN; omega) ⟨rfl, rfl⟩
  rw [hr, hr2]
end CLASS
end
section
/-! THE CLASS'S LINE IS THE REFERENCE'S ARRAY: piece by piece -/
def s_len (g : zG) (x : Nat) : Nat := s_cnt (s_wt g (n32 x)) (s_nat g 5)
def s_prec (g : zG) (m m' : Nat) : Prop := g (242 + 5 * m' + 1) < g (242 + 5 * m + 1) ∨ (g (242 + 5 * m + 1) = g (242 + 5 * m' + 1) ∧ m < m')
def s_qok (g : zG) (x : Nat) (f : Nat → Nat) : Prop :=
  (∀ j, j < s_len g x → f j < s_nat g 5 ∧ s_wt g (n32 x) (f j) = true) ∧ (∀ i j, i < j → j < s_len g x → s_prec g (f i) (f j)) ∧ (∀ m, m < s_nat g 5 → s_wt g (n32 x) m = true → ∃ j, j < s_len g x ∧ f j = m)
def s_most (g : zG) : Nat → Int32
  | 0 => n32 0
  | k + 1 => if g (242 + 5 * k + 4) ≤ s_most g k then s_most g k else g (242 + 5 * k + 4)
def s_sumw (g : zG) : Nat → Int64
  | 0 => 0
  | k + 1 => s_sumw g k + (if g (242 + 5 * k + 4) = nn then 0 else (g (242 + 5 * k + 4)).toInt64)
def qL (σ : zSt) (a n : Nat) (g : zG) : Prop := z_I σ a 5 = n32 n ∧ z_I σ a 6 = g 0 ∧ z_I σ a 7 = g 1 ∧ z_I σ a 8 = g 2 ∧ z_I σ a 9 = g 3 ∧ z_I σ a 10 = g 4
def qW (σ : zSt) (a : Nat) : Prop := z_I σ (a + 3) 0 = n32 6 ∧ z_I σ (a + 9) 0 = n32 4
def qM (σ : zSt) (a : Nat) (g : zG) : Prop := z_I σ (a + 2) 1 = g 5 ∧ ∀ m w, m < s_nat g 5 → w < 5 → z_I σ (a + 4) (6 * m + w) = g (242 + 5 * m + w)
def qN (σ : zSt) (a : Nat) (g : zG) : Prop := z_I σ (a + 5) 2 = g 6 ∧ ∀ k, k < s_nat g 6 → z_I σ (a + 6) k = g (742 + 2 * k) ∧ z_I σ (a + 7) k = g (742 + 2 * k + 1)
def qC (σ : zSt) (a : Nat) (g : zG) : Prop := (∀ i, i < 7 → z_I σ (a + 8) i = g (9 + i)) ∧ z_I σ (a + 8) 7 = g 8 ∧ z_I σ (a + 8) 8 = s_most g (s_nat g 5) ∧ z_J σ (a + 8) 9 = s_sumw g (s_nat g 5)
def qG (σ : zSt) (a : Nat) (g : zG) : Prop := ∀ i w, i < s_nat g 7 → w < 4 → z_I σ (a + 10) (4 * ((s_nat g 9 - s_nat g 7 + i) % 40) + w) = g (782 + 4 * i + w)
def qA (ad : Nat → Nat) (n : Nat) (g : zG) : Prop := n ≤ 8 ∧ (∀ i, i < n → ad i < 32 ∧ g (18 + 7 * ad i + 0) = n32 1) ∧ (∀ i j, i < j → j < n → ad i < ad j) ∧ ∀ x, x < 32 → g (18 + 7 * x + 0) = n32 0 ∨ (g (18 + 7 * x + 0) = n32 1 ∧ ∃ i, i < n ∧ ad i = x)
def qS (σ : zSt) (pl ad : Nat → Nat) (n : Nat) (g : zG) : Prop := ∀ i, i < n → z_I σ (pl i) 0 = n32 (ad i) ∧ z_I σ (pl i) 1 = g (18 + 7 * ad i + 1) ∧ z_I σ (pl i) 2 = g (18 + 7 * ad i + 2) ∧ z_I σ (pl i) 3 = g (18 + 7 * ad i + 3) ∧ z_I σ (pl i) 4 = g (18 + 7 * ad i + 4) ∧ z_I σ (pl i) 7 = g (18 + 7 * ad i + 5) ∧ z_I σ (pl i) 8 = g (18 + 7 * ad i + 6)
def qQ (σ : zSt) (a : Nat) (pl ad : Nat → Nat) (qu : Nat → Nat → Nat) (n : Nat) (g : zG) : Prop := ∀ i, i < n → z_I σ (pl i) 6 = n32 (s_len g (ad i)) ∧ z_I σ (pl i) 5 = (if 0 < s_len g (ad i) then n32 (qu (ad i) 0) else nn) ∧
  (∀ j, j < s_len g (ad i) → z_I σ (a + 4) (6 * qu (ad i) j + 5) = if j + 1 < s_len g (ad i) then n32 (qu (ad i) (j + 1)) else nn) ∧ s_qok g (ad i) (qu (ad i))
/-- all of it but the log -/
def zRep (σ : zSt) (a : Nat) (pl ad : Nat → Nat) (qu : Nat → Nat → Nat) (n : Nat) (g : zG) : Prop :=
  qL σ a n g ∧ qW σ a ∧ qM σ a g ∧ qN σ a g ∧ qC σ a g ∧ qA ad n g ∧ qS σ pl ad n g ∧ qQ σ a pl ad qu n g
/-- nothing but one line has changed, and no shape nor reference of any -/
def zFr (a : Nat) (σ σ' : zSt) : Prop := z_nx σ' = z_nx σ ∧ z_sh σ' = z_sh σ ∧ z_R σ' = z_R σ ∧ ∀ q, (q < a ∨ a + 19 ≤ q) → z_I σ' q = z_I σ q ∧ z_J σ' q = z_J σ q
theorem zFr_r (a : Nat) (σ : zSt) : zFr a σ σ := ⟨rfl, rfl, rfl, fun _ _ => ⟨rfl, rfl⟩⟩
theorem zFr_t {a : Nat} {σ σ' σ'' : zSt} (h : zFr a σ σ') (h2 : zFr a σ' σ'') : zFr a σ σ'' :=
  ⟨h2.1.trans h.1, h2.2.1.trans h.2.1, h2.2.2.1.trans h.2.2.1, fun q hq => ⟨(h2.2.2.2 q hq).1.trans (h.2.2.2 q hq).1, (h2.2.2.2 q hq).2.trans (h.2.2.2 q hq).2⟩⟩
theorem zFr_sA (σ : zSt) {a A : Nat} (h : a ≤ A) (h2 : A < a + 19) (f : zG) : zFr a σ (z_sA σ A f) :=
  ⟨rfl, rfl, rfl, fun q hq => ⟨z_I_sAn σ A f (by omega), rfl⟩⟩
theorem zFr_pJ (σ : zSt) {a A : Nat} (h : a ≤ A) (h2 : A < a + 19) (j : Nat) (v : Int64) : zFr a σ (z_pJ σ A j v) :=
  ⟨rfl, rfl, rfl, fun q hq => ⟨rfl, by
    funext k
    rw [z_J_pJ]
    rw [if_neg (by intro h3; omega)]⟩⟩
theorem z_ob_eq {σ σ' : zSt} (h : z_sh σ' = z_sh σ) : z_ob σ' = z_ob σ := by
  funext q c; unfold z_ob; rw [h]
theorem z_ar_eq {σ σ' : zSt} (h : z_sh σ' = z_sh σ) : z_ar σ' = z_ar σ := by
  funext q c; unfold z_ar; rw [h]
theorem z_ln_eq {σ σ' : zSt} (h : z_sh σ' = z_sh σ) : z_ln σ' = z_ln σ := by
  funext q; unfold z_ln; rw [h]
theorem zLs_eq {a : Nat} {σ σ' : zSt} (h : z_sh σ' = z_sh σ) (h2 : z_R σ' = z_R σ) (hL : zLs σ a) : zLs σ' a := by
  unfold zLs; rw [z_ob_eq h, z_ar_eq h, z_ln_eq h, h2]; exact hL
theorem zPl_eq {a : Nat} {pl : Nat → Nat} {σ σ' : zSt} (h : z_sh σ' = z_sh σ) (h2 : z_R σ' = z_R σ) (hP : zPl σ a pl) : zPl σ' a pl := by
  unfold zPl; rw [z_ob_eq h, h2]; exact hP
theorem zLs_fr {a : Nat} {σ σ' : zSt} (h : zFr a σ σ') (hL : zLs σ a) : zLs σ' a := zLs_eq h.2.1 h.2.2.1 hL
theorem zPl_fr {a : Nat} {pl : Nat → Nat} {σ σ' : zSt} (h : zFr a σ σ') (hP : zPl σ a pl) : zPl σ' a pl := zPl_eq h.2.1 h.2.2.1 hP
/-! what the pieces look at -/
theorem s_cnt_congr {P P' : Nat → Bool} : ∀ k, (∀ m, m < k → P' m = P m) → s_cnt P' k = s_cnt P k
  | 0, _ => rfl
  | k + 1, h => by unfold s_cnt; rw [s_cnt_congr k (fun m hm => h m (by omega)), h k (by omega)]
theorem s_wt_congr {g g' : zG} (x : Int32) {m : Nat} (h : ∀ w, w < 5 → g' (242 + 5 * m + w) = g (242 + 5 * m + w)) : s_wt g' x m = s_wt g x m := by
  unfold s_wt; rw [h 2 (by decide), h 4 (by decide)]
/-- the messages of two arrays are the same -/
def sMs (g g' : zG) : Prop := g' 5 = g 5 ∧ ∀ m w, m < s_nat g 5 → w < 5 → g' (242 + 5 * m + w) = g (242 + 5 * m + w)
theorem s_len_congr {g g' : zG} (h : sMs g g') (x : Nat) : s_len g' x = s_len g x := by
  unfold s_len s_nat
  rw [h.1]
  exact s_cnt_congr _ (fun m hm => s_wt_congr _ (fun w hw => h.2 m w hm hw))
theorem s_qok_congr {g g' : zG} (h : sMs g g') {x : Nat} {f : Nat → Nat} (hq : s_qok g x f) : s_qok g' x f := by
  have el := s_len_congr h x
  have e5 : s_nat g' 5 = s_nat g 5 := by unfold s_nat; rw [h.1]
  obtain ⟨h1, h2, h3⟩ := hq
  refine ⟨?_, ?_, ?_⟩
  · intro j hj
    rw [el] at hj
    rw [e5, s_wt_congr _ (fun w hw => h.2 _ w (h1 j hj).1 hw)]
    exact h1 j hj
  · intro i j hij hj
    rw [el] at hj
    have := h2 i j hij hj
    unfold s_prec at this ⊢
    rw [h.2 _ 1 (h1 i (by omega)).1 (by decide), h.2 _ 1 (h1 j hj).1 (by decide)]
    exact this
  · intro m hm hw
    rw [e5] at hm
    rw [s_wt_congr _ (fun w hw => h.2 m w hm hw)] at hw
    rw [el]
    exact h3 m hm hw
theorem s_most_congr {g g' : zG} : ∀ k, (∀ m, m < k → g' (242 + 5 * m + 4) = g (242 + 5 * m + 4)) → s_most g' k = s_most g k
  | 0, _ => rfl
  | k + 1, h => by unfold s_most; rw [s_most_congr k (fun m hm => h m (by omega)), h k (by omega)]
theorem s_sumw_congr {g g' : zG} : ∀ k, (∀ m, m < k → g' (242 + 5 * m + 4) = g (242 + 5 * m + 4)) → s_sumw g' k = s_sumw g k
  | 0, _ => rfl
  | k + 1, h => by unfold s_sumw; rw [s_sumw_congr k (fun m hm => h m (by omega)), h k (by omega)]
theorem qM_congr {σ σ' : zSt} {a : Nat} {g g' : zG} (e2 : z_I σ' (a + 2) = z_I σ (a + 2)) (e4 : z_I σ' (a + 4) = z_I σ (a + 4)) (h : sMs g g') (H : qM σ a g) : qM σ' a g' := by
  refine ⟨by rw [e2, h.1]; exact H.1, fun m w hm hw => ?_⟩
  have e5 : s_nat g' 5 = s_nat g 5 := by unfold s_nat; rw [h.1]
  rw [e5] at hm
  rw [e4, h.2 m w hm hw]
  exact H.2 m w hm hw
theorem qN_congr {σ σ' : zSt} {a : Nat} {g g' : zG} (e5 : z_I σ' (a + 5) = z_I σ (a + 5)) (e6 : z_I σ' (a + 6) = z_I σ (a + 6)) (e7 : z_I σ' (a + 7) = z_I σ (a + 7)) (h6 : g' 6 = g 6) (h : ∀ k, k < 2 * s_nat g 6 → g' (742 + k) = g (742 + k)) (H : qN σ a g) : qN σ' a g' := by
  have e : s_nat g' 6 = s_nat g 6 := by unfold s_nat; rw [h6]
  refine ⟨by rw [e5, h6]; exact H.1, fun k hk => ?_⟩
  rw [e] at hk
  have h1 := h (2 * k) (by omega)
  have h2 := h (2 * k + 1) (by omega)
  rw [e6, e7, h1, show 742 + 2 * k + 1 = 742 + (2 * k + 1) from rfl, h2]
  exact H.2 k hk
theorem qC_congr {σ σ' : zSt} {a : Nat} {g g' : zG} (e8 : z_I σ' (a + 8) = z_I σ (a + 8)) (eJ : z_J σ' (a + 8) 9 = z_J σ (a + 8) 9) (hc : ∀ j, 8 ≤ j → j < 16 → g' j = g j) (h : sMs g g') (H : qC σ a g) : qC σ' a g' := by
  have e5 : s_nat g' 5 = s_nat g 5 := by unfold s_nat; rw [h.1]
  refine ⟨fun i hi => ?_, ?_, ?_, ?_⟩
  · rw [e8, hc _ (by omega) (by omega)]; exact H.1 i hi
  · rw [e8, hc 8 (by omega) (by omega)]; exact H.2.1
  · rw [e8, e5, s_most_congr _ (fun m hm => h.2 m 4 hm (by decide))]; exact H.2.2.1
  · rw [eJ, e5, s_sumw_congr _ (fun m hm => h.2 m 4 hm (by decide))]; exact H.2.2.2
theorem qA_congr {ad : Nat → Nat} {n : Nat} {g g' : zG} (h : ∀ x, x < 32 → g' (18 + 7 * x + 0) = g (18 + 7 * x + 0)) (H : qA ad n g) : qA ad n g' := by
  refine ⟨H.1, fun i hi => ⟨(H.2.1 i hi).1, by rw [h _ (H.2.1 i hi).1]; exact (H.2.1 i hi).2⟩, H.2.2.1, fun x hx => ?_⟩
  rw [h x hx]; exact H.2.2.2 x hx
theorem qQ_congr {σ σ' : zSt} {a : Nat} {pl ad : Nat → Nat} {qu : Nat → Nat → Nat} {n : Nat} {g g' : zG} (e4 : z_I σ' (a + 4) = z_I σ (a + 4)) (e5 : ∀ i, i < n → z_I σ' (pl i) 5 = z_I σ (pl i) 5 ∧ z_I σ' (pl i) 6 = z_I σ (pl i) 6) (h : sMs g g') (H : qQ σ a pl ad qu n g) : qQ σ' a pl ad qu n g' := by
  intro i hi
  obtain ⟨h1, h2, h3, h4⟩ := H i hi
  rw [s_len_congr h, (e5 i hi).1, (e5 i hi).2, e4]
  exact ⟨h1, h2, h3, s_qok_congr h h4⟩
theorem sMs_r (g : zG) : sMs g g := ⟨rfl, fun _ _ _ _ => rfl⟩
end
section
section CLASS
variable {σ : zSt} {a : Nat}
/-- a line's time and another of its numbers -/
theorem zRep_time {pl ad : Nat → Nat} {qu : Nat → Nat → Nat} {n : Nat} {g : zG} (hP : zPl σ a pl) (h : zRep σ a pl ad qu n g) (v : Int32) : zRep (z_sA σ a (gu (z_I σ a) 9 v)) a pl ad qu n (gu g 3 v) := by
  obtain ⟨hRL, hRW, hRM, hRN, hRC, hRA, hRS, hRQ⟩ := h
  have hm : sMs g (gu g 3 v) := ⟨gu_ne _ _ (by decide), fun m w _ _ => gu_ne _ _ (by omega)⟩
  have hp : ∀ i, i < n → pl i ≠ a := fun i hi => by have := (hP.1 i (by have := hRA.1; omega)).2.2; omega
  refine ⟨?_, ?_, qM_congr (by simp (disch := omega) only [z_I_sA, z_I_sAn, z_J_sA]) (by simp (disch := omega) only [z_I_sA, z_I_sAn, z_J_sA]) hm hRM, qN_congr (by simp (disch := omega) only [z_I_sA, z_I_sAn, z_J_sA]) (by simp (disch := omega) only [z_I_sA, z_I_sAn, z_J_sA]) (by simp (disch := omega) only [z_I_sA, z_I_sAn, z_J_sA]) (gu_ne _ _ (by decide)) (fun k _ => gu_ne _ _ (by omega)) hRN, qC_congr (σ := σ) (by simp (disch := omega) only [z_I_sA, z_I_sAn, z_J_sA]) rfl (fun j h1 h2 => gu_ne _ _ (by omega)) hm hRC, qA_congr (fun x _ => gu_ne _ _ (by omega)) hRA, ?_, qQ_congr (by simp (disch := omega) only [z_I_sA, z_I_sAn, z_J_sA]) (fun i hi => by rw [z_I_sAn _ _ _ (hp i hi)]; exact ⟨rfl, rfl⟩) hm hRQ⟩
  · obtain ⟨h1, h2, h3, h4, h5, h6⟩ := hRL
    unfold qL
    simp (disch := omega) only [z_I_sA, gu_ne, gu_same]
    exact ⟨h1, h2, h3, h4, trivial, h6⟩
  · unfold qW
    simp (disch := omega) only [z_I_sAn]
    exact hRW
  · intro i hi
    have h32 := (hRA.2.1 i hi).1
    rw [z_I_sAn _ _ _ (hp i hi)]
    simp (disch := omega) only [gu_ne]
    exact hRS i hi
/-- a count -/
theorem zRep_count {pl ad : Nat → Nat} {qu : Nat → Nat → Nat} {n : Nat} {g : zG} (hP : zPl σ a pl) (h : zRep σ a pl ad qu n g) {i : Nat} (hi : i < 7) (v : Int32) : zRep (z_sA σ (a + 8) (gu (z_I σ (a + 8)) i v)) a pl ad qu n (gu g (9 + i) v) := by
  obtain ⟨hRL, hRW, hRM, hRN, hRC, hRA, hRS, hRQ⟩ := h
  have hm : sMs g (gu g (9 + i) v) := ⟨gu_ne _ _ (by omega), fun m w _ _ => gu_ne _ _ (by omega)⟩
  have hp : ∀ i, i < n → pl i ≠ a + 8 := fun i hi => by have := (hP.1 i (by have := hRA.1; omega)).2.2; omega
  refine ⟨?_, ?_, qM_congr (by simp (disch := omega) only [z_I_sA, z_I_sAn, z_J_sA]) (by simp (disch := omega) only [z_I_sA, z_I_sAn, z_J_sA]) hm hRM, qN_congr (by simp (disch := omega) only [z_I_sA, z_I_sAn, z_J_sA]) (by simp (disch := omega) only [z_I_sA, z_I_sAn, z_J_sA]) (by simp (disch := omega) only [z_I_sA, z_I_sAn, z_J_sA]) (gu_ne _ _ (by omega)) (fun k _ => gu_ne _ _ (by omega)) hRN, ?_, qA_congr (fun x _ => gu_ne _ _ (by omega)) hRA, ?_, qQ_congr (by simp (disch := omega) only [z_I_sA, z_I_sAn, z_J_sA]) (fun i hi => by rw [z_I_sAn _ _ _ (hp i hi)]; exact ⟨rfl, rfl⟩) hm hRQ⟩
  · unfold qL
    simp (disch := omega) only [z_I_sAn, gu_ne]
    exact hRL
  · unfold qW
    simp (disch := omega) only [z_I_sAn]
    exact hRW
  · obtain ⟨h1, h2, h3, h4⟩ := hRC
    have e5 : s_nat (gu g (9 + i) v) 5 = s_nat g 5 := by unfold s_nat; rw [gu_ne _ _ (by omega)]
    refine ⟨fun k hk => ?_, ?_, ?_, ?_⟩
    · rw [z_I_sA]
      by_cases hki : k = i
      · subst hki; rw [gu_same, gu_same]
      · rw [gu_ne _ _ hki, gu_ne _ _ (by omega)]; exact h1 k hk
    · rw [z_I_sA, gu_ne _ _ (by omega), gu_ne _ _ (by omega)]; exact h2
    · rw [z_I_sA, gu_ne _ _ (by omega), e5, s_most_congr _ (fun m hm => gu_ne _ _ (by omega))]; exact h3
    · rw [z_J_sA, e5, s_sumw_congr _ (fun m hm => gu_ne _ _ (by omega))]; exact h4
  · intro k hk
    have h32 := (hRA.2.1 k hk).1
    rw [z_I_sAn _ _ _ (hp k hk)]
    simp (disch := omega) only [gu_ne]
    exact hRS k hk
theorem gu_id (g : zG) (k : Nat) : gu g k (g k) = g := by
  funext j; unfold gu; split
  · rename_i h; rw [h]
  · rfl
/-- a station's number that is none of its queue -/
theorem zRep_sta {pl ad : Nat → Nat} {qu : Nat → Nat → Nat} {n : Nat} {g : zG} (hP : zPl σ a pl) (h : zRep σ a pl ad qu n g) {i : Nat} (hi : i < n) {f w : Nat} (hfw : (f = 1 ∧ w = 1) ∨ (f = 2 ∧ w = 2) ∨ (f = 3 ∧ w = 3) ∨ (f = 4 ∧ w = 4) ∨ (f = 7 ∧ w = 5) ∨ (f = 8 ∧ w = 6)) (v : Int32) : zRep (z_sA σ (pl i) (gu (z_I σ (pl i)) f v)) a pl ad qu n (gu g (18 + 7 * ad i + w) v) := by
  obtain ⟨hRL, hRW, hRM, hRN, hRC, hRA, hRS, hRQ⟩ := h
  have h32 := (hRA.2.1 i hi).1
  have hn8 := hRA.1
  have hpi := (hP.1 i (by omega)).2.2
  have hm : sMs g (gu g (18 + 7 * ad i + w) v) := ⟨gu_ne _ _ (by omega), fun m w _ _ => gu_ne _ _ (by omega)⟩
  refine ⟨?_, ?_, qM_congr (by simp (disch := omega) only [z_I_sA, z_I_sAn, z_J_sA]) (by simp (disch := omega) only [z_I_sA, z_I_sAn, z_J_sA]) hm hRM, qN_congr (by simp (disch := omega) only [z_I_sA, z_I_sAn, z_J_sA]) (by simp (disch := omega) only [z_I_sA, z_I_sAn, z_J_sA]) (by simp (disch := omega) only [z_I_sA, z_I_sAn, z_J_sA]) (gu_ne _ _ (by omega)) (fun k _ => gu_ne _ _ (by omega)) hRN, qC_congr (σ := σ) (by simp (disch := omega) only [z_I_sA, z_I_sAn, z_J_sA]) rfl (fun j h1 h2 => gu_ne _ _ (by omega)) hm hRC, qA_congr (fun x _ => gu_ne _ _ (by omega)) hRA, ?_, qQ_congr (by simp (disch := omega) only [z_I_sA, z_I_sAn, z_J_sA]) (fun k hk => ?_) hm hRQ⟩
  · unfold qL
    simp (disch := omega) only [z_I_sAn, gu_ne]
    exact hRL
  · unfold qW
    simp (disch := omega) only [z_I_sAn]
    exact hRW
  · intro k hk
    have hk32 := (hRA.2.1 k hk).1
    by_cases hki : k = i
    · subst hki
      rw [z_I_sA]
      obtain ⟨s0, s1, s2, s3, s4, s7, s8⟩ := hRS k hk
      rcases hfw with ⟨rfl, rfl⟩ | ⟨rfl, rfl⟩ | ⟨rfl, rfl⟩ | ⟨rfl, rfl⟩ | ⟨rfl, rfl⟩ | ⟨rfl, rfl⟩ <;> simp (disch := omega) only [gu_ne, gu_same] <;> simp only [s0, s1, s2, s3, s4, s7, s8, and_self]
    · have hne : pl k ≠ pl i := fun he => hki (hP.2 k i (by omega) (by omega) he)
      have hadn : ad k ≠ ad i := by
        rcases Nat.lt_or_ge k i with hlt | hge
        · have := hRA.2.2.1 k i hlt hi; omega
        · have := hRA.2.2.1 i k (by omega) hk; omega
      rw [z_I_sAn _ _ _ hne]
      simp (disch := omega) only [gu_ne]
      exact hRS k hk
  · by_cases hki : k = i
    · subst hki
      rw [z_I_sA]
      rw [gu_ne _ _ (by omega), gu_ne _ _ (by omega)]
      exact ⟨rfl, rfl⟩
    · have hne : pl k ≠ pl i := fun he => hki (hP.2 k i (by omega) (by omega) he)
      rw [z_I_sAn _ _ _ hne]
      exact ⟨rfl, rfl⟩
theorem c_transmit (hL : zLs σ a) {pl ad : Nat → Nat} {qu : Nat → Nat → Nat} {n : Nat} {g : zG} (hP : zPl σ a pl) (h : zRep σ a pl ad qu n g) (h6 : ∃ z, z ≤ 20 ∧ g 6 = n32 z) (t : Int32) :
    ∃ σ', f_X2_transmit σ a t = some (bi (!s_loud g (g 3) (g 3 + t - n32 1)), σ') ∧ zFr a σ σ' ∧ z_I σ' (a + 10) = z_I σ (a + 10) ∧ zRep σ' a pl ad qu n (s_takes g t) := by
  obtain ⟨z, hz, h6⟩ := h6
  have h' := h
  obtain ⟨hRL, hRW, hRM, hRN, hRC, hRA, hRS, hRQ⟩ := h'
  have e6 : s_nat g 6 = z := by unfold s_nat; rw [h6, n32_toNat (by omega)]
  have T := c_touch (g := g) hL hz h6 (by rw [← h6]; exact hRN.1) (by rw [← e6]; exact hRN.2) (g 3) (g 3 + t - n32 1)
  have e9 : z_I σ a 9 = g 3 := hRL.2.2.2.2.1
  have K := zRep_time hP h (g 3 + t)
  have F1 : zFr a σ (z_sA σ a (gu (z_I σ a) 9 (g 3 + t))) := zFr_sA σ (Nat.le_refl _) (by omega) _
  have c2 : z_I σ (a + 8) 2 = g 11 := hRC.1 2 (by decide)
  unfold s_takes
  cases hl : s_loud g (g 3) (g 3 + t - n32 1) with
  | false =>
    refine ⟨z_sA σ a (gu (z_I σ a) 9 (g 3 + t)), ?_, F1, (by simp (disch := omega) only [z_I_sA, z_I_sAn, z_J_sA]), ?_⟩
    · rw [hl] at T
      simp (disch := omega) only [f_X2_transmit, f_X2_transmit_47, f_X2_transmit_56, ↓zl_eq, ↓zb_eq, ↓zb2_eq, ↓zc_some, ↓zc_none, ↓zb_pre, ↓zb2_pre, ↓zc_pre, ↓zex_eq, ↓reduceIte, Option.isSome_some, Option.isSome_none, Option.getD_some, n32_lit, z_pI_eq, hL.1, hL.2.1, hL.2.2.1, hL.2.2.2.1, hL.2.2.2.2.1, hL.2.2.2.2.2.1, hL.2.2.2.2.2.2.1, hL.2.2.2.2.2.2.2.1, hL.2.2.2.2.2.2.2.2.1, hL.2.2.2.2.2.2.2.2.2.1, hL.2.2.2.2.2.2.2.2.2.2.1, hL.2.2.2.2.2.2.2.2.2.2.2.1, hL.2.2.2.2.2.2.2.2.2.2.2.2.1, hL.2.2.2.2.2.2.2.2.2.2.2.2.2.1, hL.2.2.2.2.2.2.2.2.2.2.2.2.2.2.1, hL.2.2.2.2.2.2.2.2.2.2.2.2.2.2.2.1, hL.2.2.2.2.2.2.2.2.2.2.2.2.2.2.2.2.1, hL.2.2.2.2.2.2.2.2.2.2.2.2.2.2.2.2.2.1, hL.2.2.2.2.2.2.2.2.2.2.2.2.2.2.2.2.2.2.1, hL.2.2.2.2.2.2.2.2.2.2.2.2.2.2.2.2.2.2.2.1, hL.2.2.2.2.2.2.2.2.2.2.2.2.2.2.2.2.2.2.2.2.1, hL.2.2.2.2.2.2.2.2.2.2.2.2.2.2.2.2.2.2.2.2.2.1, hL.2.2.2.2.2.2.2.2.2.2.2.2.2.2.2.2.2.2.2.2.2.2.1, hL.2.2.2.2.2.2.2.2.2.2.2.2.2.2.2.2.2.2.2.2.2.2.2.1, hL.2.2.2.2.2.2.2.2.2.2.2.2.2.2.2.2.2.2.2.2.2.2.2.2.1, hL.2.2.2.2.2.2.2.2.2.2.2.2.2.2.2.2.2.2.2.2.2.2.2.2.2, e9, T, bi_0n, bi_bl]
      rfl
    · have : g 11 + bi false = gu g 3 (g 3 + t) 11 := by
        rw [gu_ne _ _ (by decide)]
        exact Int32.add_zero _
      rw [this, gu_id]
      exact K
  | true =>
    refine ⟨z_sA (z_sA σ a (gu (z_I σ a) 9 (g 3 + t))) (a + 8) (gu (z_I σ (a + 8)) 2 (g 11 + n32 1)), ?_, zFr_t F1 (zFr_sA _ (by omega) (by omega) _), (by simp (disch := omega) only [z_I_sA, z_I_sAn, z_J_sA]), ?_⟩
    · rw [hl] at T
      simp (disch := omega) only [f_X2_transmit, f_X2_transmit_47, f_X2_transmit_56, ↓zl_eq, ↓zb_eq, ↓zb2_eq, ↓zc_some, ↓zc_none, ↓zb_pre, ↓zb2_pre, ↓zc_pre, ↓zex_eq, ↓reduceIte, Option.isSome_some, Option.isSome_none, Option.getD_some, n32_lit, z_pI_eq, hL.1, hL.2.1, hL.2.2.1, hL.2.2.2.1, hL.2.2.2.2.1, hL.2.2.2.2.2.1, hL.2.2.2.2.2.2.1, hL.2.2.2.2.2.2.2.1, hL.2.2.2.2.2.2.2.2.1, hL.2.2.2.2.2.2.2.2.2.1, hL.2.2.2.2.2.2.2.2.2.2.1, hL.2.2.2.2.2.2.2.2.2.2.2.1, hL.2.2.2.2.2.2.2.2.2.2.2.2.1, hL.2.2.2.2.2.2.2.2.2.2.2.2.2.1, hL.2.2.2.2.2.2.2.2.2.2.2.2.2.2.1, hL.2.2.2.2.2.2.2.2.2.2.2.2.2.2.2.1, hL.2.2.2.2.2.2.2.2.2.2.2.2.2.2.2.2.1, hL.2.2.2.2.2.2.2.2.2.2.2.2.2.2.2.2.2.1, hL.2.2.2.2.2.2.2.2.2.2.2.2.2.2.2.2.2.2.1, hL.2.2.2.2.2.2.2.2.2.2.2.2.2.2.2.2.2.2.2.1, hL.2.2.2.2.2.2.2.2.2.2.2.2.2.2.2.2.2.2.2.2.1, hL.2.2.2.2.2.2.2.2.2.2.2.2.2.2.2.2.2.2.2.2.2.1, hL.2.2.2.2.2.2.2.2.2.2.2.2.2.2.2.2.2.2.2.2.2.2.1, hL.2.2.2.2.2.2.2.2.2.2.2.2.2.2.2.2.2.2.2.2.2.2.2.1, hL.2.2.2.2.2.2.2.2.2.2.2.2.2.2.2.2.2.2.2.2.2.2.2.2.1, hL.2.2.2.2.2.2.2.2.2.2.2.2.2.2.2.2.2.2.2.2.2.2.2.2.2, e9, T, bi_0n, bi_bl, z_ob_sA, z_R_sA, z_I_sAn, c2, Bool.true_eq_false]
      rfl
    · have K2 := zRep_count (i := 2) (zPl_fr F1 hP) K (by decide) (g 11 + n32 1)
      rw [z_I_sAn _ _ _ (show a + 8 ≠ a by omega)] at K2
      exact K2
end CLASS
end
section
theorem n32_nb : ∀ x, x < 32 → (n32 x + n32 1) &&& n32 31 = n32 ((x + 1) % 32) := by decide +kernel
theorem n32_bw : ∀ h, h < 32 → ∀ x, x < 32 → (n32 x - n32 h - n32 1) &&& n32 31 = n32 (s_bhd h x - 1) := by decide +kernel
theorem n32_ds : ∀ h, h < 32 → ∀ x, x < 32 → (n32 x - n32 h) &&& n32 31 = n32 (if s_bhd h x = 32 then 0 else s_bhd h x) := by decide +kernel
/-- what stands at a station -/
def s_sta (g : zG) : Prop := ∀ x, x < 32 → g (18 + 7 * x + 0) = n32 1 →
  (g (18 + 7 * x + 1) = n32 0 ∨ g (18 + 7 * x + 1) = n32 1) ∧ (g (18 + 7 * x + 2) = n32 0 ∨ g (18 + 7 * x + 2) = n32 1) ∧ (g (18 + 7 * x + 2) = n32 1 → g (18 + 7 * x + 1) = n32 1) ∧ (∃ y, y < 32 ∧ g (18 + 7 * x + 3) = n32 y) ∧ ∃ y, y < 32 ∧ g (18 + 7 * x + 4) = n32 y
theorem s_sta_congr {g g' : zG} (h : ∀ j, 18 ≤ j → j < 242 → g' j = g j) (H : s_sta g) : s_sta g' := by
  intro x hx h0
  rw [h _ (by omega) (by omega)] at h0
  have := H x hx h0
  rw [h _ (by omega) (by omega), h _ (by omega) (by omega), h _ (by omega) (by omega), h _ (by omega) (by omega)]
  exact this
theorem s_sta_takes {g : zG} (t : Int32) (H : s_sta g) : s_sta (s_takes g t) := s_sta_congr (fun j _ _ => s_takes_ne _ _ (by omega) (by omega)) H
theorem s_sta_tick {g : zG} (H : s_sta g) : s_sta (s_tick g) := s_sta_congr (fun j _ _ => s_tick_ne _ (by omega)) H
/-- the class's side of a part of a visit: what is asked of a line -/
def zCs (σ : zSt) (a : Nat) (pl ad : Nat → Nat) (qu : Nat → Nat → Nat) (n : Nat) (g : zG) : Prop :=
  zLs σ a ∧ zPl σ a pl ∧ zRep σ a pl ad qu n g ∧ (∃ z, z ≤ 20 ∧ g 6 = n32 z) ∧ s_sta g
/-- and what is answered -/
def zAn (σ σ' : zSt) (a : Nat) (pl ad : Nat → Nat) (qu : Nat → Nat → Nat) (n : Nat) (g : zG) : Prop :=
  zFr a σ σ' ∧ z_I σ' (a + 10) = z_I σ (a + 10) ∧ zRep σ' a pl ad qu n g
theorem zCs_step {σ σ' : zSt} {a : Nat} {pl ad : Nat → Nat} {qu : Nat → Nat → Nat} {n : Nat} {g g' : zG} (h : zCs σ a pl ad qu n g) (h2 : zAn σ σ' a pl ad qu n g') (h6 : g' 6 = g 6) (hs : s_sta g') : zCs σ' a pl ad qu n g' :=
  ⟨zLs_fr h2.1 h.1, zPl_fr h2.1 h.2.1, h2.2.2, by rw [h6]; exact h.2.2.2.1, hs⟩
theorem zAn_t {σ σ' σ'' : zSt} {a : Nat} {pl ad : Nat → Nat} {qu : Nat → Nat → Nat} {n : Nat} {g g' : zG} (h : zAn σ σ' a pl ad qu n g) (h2 : zAn σ' σ'' a pl ad qu n g') : zAn σ σ'' a pl ad qu n g' :=
  ⟨zFr_t h.1 h2.1, h2.2.1.trans h.2.1, h2.2.2⟩
section CLASS
variable {σ : zSt} {a n : Nat} {pl ad : Nat → Nat} {qu : Nat → Nat → Nat} {g : zG}
theorem c_find1 (h : zCs σ a pl ad qu n g) {i : Nat} (hi : i < n) : f_X2_stationWith σ a (n32 (ad i)) = some (some (pl i)) := by
  obtain ⟨hL, hP, ⟨hRL, hRW, hRM, hRN, hRC, hRA, hRS, hRQ⟩, _, _⟩ := h
  exact c_stationWith1 hL hP hRA.1 hRL.1 (fun i hi => ⟨(hRA.2.1 i hi).1, (hRS i hi).1⟩) hRA.2.2.1 hi
theorem c_find0 (h : zCs σ a pl ad qu n g) {x : Nat} (hx : x < 32) (h0 : ¬ g (18 + 7 * x + 0) = n32 1) : f_X2_stationWith σ a (n32 x) = some none := by
  obtain ⟨hL, hP, ⟨hRL, hRW, hRM, hRN, hRC, hRA, hRS, hRQ⟩, _, _⟩ := h
  refine c_stationWith0 hL hP hRA.1 hRL.1 _ (fun i hi he => h0 ?_)
  have h32 := (hRA.2.1 i hi).1
  rw [(hRS i hi).1, n32_eq (by omega) (by omega)] at he
  rw [← he]; exact (hRA.2.1 i hi).2
theorem c_findn (h : zCs σ a pl ad qu n g) : f_X2_stationWith σ a nn = some none := by
  obtain ⟨hL, hP, ⟨hRL, hRW, hRM, hRN, hRC, hRA, hRS, hRQ⟩, _, _⟩ := h
  refine c_stationWith0 hL hP hRA.1 hRL.1 _ (fun i hi he => ?_)
  have h32 := (hRA.2.1 i hi).1
  rw [(hRS i hi).1, n32_ne (by omega)] at he
  exact he
theorem c_is (h : zCs σ a pl ad qu n g) {x : Nat} (hx : x < 32) : g (18 + 7 * x + 0) = n32 0 ∨ (g (18 + 7 * x + 0) = n32 1 ∧ ∃ i, i < n ∧ ad i = x) := h.2.2.1.2.2.2.2.2.1.2.2.2 x hx
theorem c_addr (σ : zSt) {x : Nat} (hx : x < 32) : f_X9_addressBehind σ (n32 x) = some (n32 ((x + 1) % 32)) := by
  simp only [f_X9_addressBehind, n32_lit, n32_nb x hx]
theorem c_trans (h : zCs σ a pl ad qu n g) (t : Int32) : ∃ σ', f_X2_transmit σ a t = some (bi (!s_loud g (g 3) (g 3 + t - n32 1)), σ') ∧ zAn σ σ' a pl ad qu n (s_takes g t) :=
  c_transmit h.1 h.2.1 h.2.2.1 h.2.2.2.1 t
theorem c_tick (h : zCs σ a pl ad qu n g) : zAn σ (z_sA σ a (gu (z_I σ a) 9 (z_I σ a 9 + z_I σ a 7))) a pl ad qu n (s_tick g) := by
  have e9 : z_I σ a 9 = g 3 := h.2.2.1.1.2.2.2.2.1
  have e7 : z_I σ a 7 = g 1 := h.2.2.1.1.2.2.1
  rw [e9, e7]
  exact ⟨zFr_sA σ (Nat.le_refl _) (by omega) _, (by simp (disch := omega) only [z_I_sA, z_I_sAn, z_J_sA]), zRep_time h.2.1 h.2.2.1 _⟩
theorem c_reaches (h : zCs σ a pl ad qu n g) {x : Nat} (hx : x < 32) :
    ∃ σ', f_X8_reaches σ a (n32 x) = some (bi (!s_l1 g && s_ring (s_takes g (n32 1)) x), σ') ∧ zAn σ σ' a pl ad qu n (if s_l1 g = false ∧ s_ring (s_takes g (n32 1)) x = true then s_takes g (n32 1) else s_tick (s_takes g (n32 1))) := by
  obtain ⟨σ1, e1, A1⟩ := c_trans h (n32 1)
  have h1 := zCs_step h A1 (s_takes_ne _ _ (by decide) (by decide)) (s_sta_takes _ h.2.2.2.2)
  have A2 := c_tick h1
  have hl : s_loud g (g 3) (g 3 + n32 1 - n32 1) = s_l1 g := rfl
  rw [hl] at e1
  have T : f_X8_reaches_38 σ1 a = some (n32 0, z_sA σ1 a (gu (z_I σ1 a) 9 (z_I σ1 a 9 + z_I σ1 a 7))) := by
    have hL := h1.1
    simp only [f_X8_reaches_38, ↓zl_eq, ↓zb_eq, ↓zb2_eq, ↓zc_some, ↓zc_none, ↓zb_pre, ↓zb2_pre, ↓zc_pre, ↓zex_eq, ↓reduceIte, Option.isSome_some, Option.isSome_none, Option.getD_some, hL.1, hL.2.1, hL.2.2.1, hL.2.2.2.1, hL.2.2.2.2.1, hL.2.2.2.2.2.1, hL.2.2.2.2.2.2.1, hL.2.2.2.2.2.2.2.1, hL.2.2.2.2.2.2.2.2.1, hL.2.2.2.2.2.2.2.2.2.1, hL.2.2.2.2.2.2.2.2.2.2.1, hL.2.2.2.2.2.2.2.2.2.2.2.1, hL.2.2.2.2.2.2.2.2.2.2.2.2.1, hL.2.2.2.2.2.2.2.2.2.2.2.2.2.1, hL.2.2.2.2.2.2.2.2.2.2.2.2.2.2.1, hL.2.2.2.2.2.2.2.2.2.2.2.2.2.2.2.1, hL.2.2.2.2.2.2.2.2.2.2.2.2.2.2.2.2.1, hL.2.2.2.2.2.2.2.2.2.2.2.2.2.2.2.2.2.1, hL.2.2.2.2.2.2.2.2.2.2.2.2.2.2.2.2.2.2.1, hL.2.2.2.2.2.2.2.2.2.2.2.2.2.2.2.2.2.2.2.1, hL.2.2.2.2.2.2.2.2.2.2.2.2.2.2.2.2.2.2.2.2.1, hL.2.2.2.2.2.2.2.2.2.2.2.2.2.2.2.2.2.2.2.2.2.1, hL.2.2.2.2.2.2.2.2.2.2.2.2.2.2.2.2.2.2.2.2.2.2.1, hL.2.2.2.2.2.2.2.2.2.2.2.2.2.2.2.2.2.2.2.2.2.2.2.1, hL.2.2.2.2.2.2.2.2.2.2.2.2.2.2.2.2.2.2.2.2.2.2.2.2.1, hL.2.2.2.2.2.2.2.2.2.2.2.2.2.2.2.2.2.2.2.2.2.2.2.2.2, z_pI_eq, n32_lit]
  have hL := h.1
  have hL1 := h1.1
  cases hs : s_l1 g with
  | true =>
    rw [hs] at e1
    refine ⟨_, ?_, zAn_t A1 (by rw [if_neg (by simp)]; exact A2)⟩
    simp only [f_X8_reaches, f_X8_reaches_17, ↓zl_eq, ↓zb_eq, ↓zb2_eq, ↓zc_some, ↓zc_none, ↓zb_pre, ↓zb2_pre, ↓zc_pre, ↓zex_eq, ↓reduceIte, Option.isSome_some, Option.isSome_none, Option.getD_some, n32_lit, hL.1, hL.2.1, hL.2.2.1, hL.2.2.2.1, hL.2.2.2.2.1, hL.2.2.2.2.2.1, hL.2.2.2.2.2.2.1, hL.2.2.2.2.2.2.2.1, hL.2.2.2.2.2.2.2.2.1, hL.2.2.2.2.2.2.2.2.2.1, hL.2.2.2.2.2.2.2.2.2.2.1, hL.2.2.2.2.2.2.2.2.2.2.2.1, hL.2.2.2.2.2.2.2.2.2.2.2.2.1, hL.2.2.2.2.2.2.2.2.2.2.2.2.2.1, hL.2.2.2.2.2.2.2.2.2.2.2.2.2.2.1, hL.2.2.2.2.2.2.2.2.2.2.2.2.2.2.2.1, hL.2.2.2.2.2.2.2.2.2.2.2.2.2.2.2.2.1, hL.2.2.2.2.2.2.2.2.2.2.2.2.2.2.2.2.2.1, hL.2.2.2.2.2.2.2.2.2.2.2.2.2.2.2.2.2.2.1, hL.2.2.2.2.2.2.2.2.2.2.2.2.2.2.2.2.2.2.2.1, hL.2.2.2.2.2.2.2.2.2.2.2.2.2.2.2.2.2.2.2.2.1, hL.2.2.2.2.2.2.2.2.2.2.2.2.2.2.2.2.2.2.2.2.2.1, hL.2.2.2.2.2.2.2.2.2.2.2.2.2.2.2.2.2.2.2.2.2.2.1, hL.2.2.2.2.2.2.2.2.2.2.2.2.2.2.2.2.2.2.2.2.2.2.2.1, hL.2.2.2.2.2.2.2.2.2.2.2.2.2.2.2.2.2.2.2.2.2.2.2.2.1, hL.2.2.2.2.2.2.2.2.2.2.2.2.2.2.2.2.2.2.2.2.2.2.2.2.2, e1, T, bi_0n, Bool.not_true]
    rfl
  | false =>
    rw [hs] at e1
    by_cases hr : s_ring (s_takes g (n32 1)) x = true
    · refine ⟨σ1, ?_, by rw [if_pos ⟨rfl, hr⟩]; exact A1⟩
      simp only [s_ring, Bool.and_eq_true, decide_eq_true_eq] at hr
      obtain ⟨i, hi, rfl⟩ : ∃ i, i < n ∧ ad i = x := by
        rcases c_is h1 hx with h0 | h0
        · rw [h0] at hr; exact absurd hr.1.1 (by decide)
        · exact h0.2
      have F := c_find1 h1 hi
      have RSi := h1.2.2.1.2.2.2.2.2.2.1 i hi
      have hob := (h1.2.1.1 i (by have := h1.2.2.1.2.2.2.2.2.1.1; omega)).2.1
      have hr2 : s_ring (s_takes g (n32 1)) (ad i) = true := by simp only [s_ring, hr.1.1, hr.1.2, hr.2, decide_true, Bool.and_self]
      have e11 : z_I σ1 (pl i) 1 = n32 1 := RSi.2.1.trans hr.1.2
      have e12 : z_I σ1 (pl i) 2 = n32 1 := RSi.2.2.1.trans hr.2
      simp (disch := omega) only [f_X8_reaches, f_X8_reaches_17, ↓zl_eq, ↓zb_eq, ↓zb2_eq, ↓zc_some, ↓zc_none, ↓zb_pre, ↓zb2_pre, ↓zc_pre, ↓zex_eq, ↓reduceIte, Option.isSome_some, Option.isSome_none, Option.getD_some, n32_lit, hL.1, hL1.1, e1, T, bi_0n, F, hob, e11, e12, n32_eq, hr2, Bool.not_false, Bool.true_eq_false]
      simp only [Nat.one_ne_zero, if_false, Bool.and_self]
      rfl
    · refine ⟨_, ?_, zAn_t A1 (by rw [if_neg (by simp [hr])]; exact A2)⟩
      have hrf : s_ring (s_takes g (n32 1)) x = false := by simpa using hr
      rcases c_is h1 hx with h0 | ⟨h0, i, hi, rfl⟩
      · have F := c_find0 h1 hx (by rw [h0]; decide)
        simp (disch := omega) only [f_X8_reaches, f_X8_reaches_17, ↓zl_eq, ↓zb_eq, ↓zb2_eq, ↓zc_some, ↓zc_none, ↓zb_pre, ↓zb2_pre, ↓zc_pre, ↓zex_eq, ↓reduceIte, Option.isSome_some, Option.isSome_none, Option.getD_some, n32_lit, hL.1, hL1.1, e1, T, bi_0n, F, hrf, Bool.not_false, Bool.true_eq_false, Bool.and_false]
        rfl
      · have F := c_find1 h1 hi
        have RSi := h1.2.2.1.2.2.2.2.2.2.1 i hi
        have hob := (h1.2.1.1 i (by have := h1.2.2.1.2.2.2.2.2.1.1; omega)).2.1
        have hst := h1.2.2.2.2 (ad i) hx h0
        simp only [s_ring, h0, decide_true, Bool.true_and, Bool.and_eq_true, decide_eq_true_eq, not_and] at hr
        have e11 := RSi.2.1
        have e12 := RSi.2.2.1
        simp (disch := omega) only [f_X8_reaches, f_X8_reaches_17, ↓zl_eq, ↓zb_eq, ↓zb2_eq, ↓zc_some, ↓zc_none, ↓zb_pre, ↓zb2_pre, ↓zc_pre, ↓zex_eq, ↓reduceIte, Option.isSome_some, Option.isSome_none, Option.getD_some, n32_lit, hL.1, hL1.1, e1, T, bi_0n, F, hob, e11, e12, hrf, Bool.not_false, Bool.true_eq_false, Bool.and_false]
        rcases hst.1 with ho | ho
        · simp only [ho, if_true]; rfl
        · rcases hst.2.1 with hq | hq
          · simp only [hq, if_true, ite_self]; rfl
          · exact absurd hq (hr ho)
end CLASS
end
section
section CLASS
variable {σ : zSt} {a n : Nat} {pl ad : Nat → Nat} {qu : Nat → Nat → Nat} {g : zG}
theorem zRep_holder (hP : zPl σ a pl) (h : zRep σ a pl ad qu n g) (v : Int32) : zRep (z_sA σ a (gu (z_I σ a) 10 v)) a pl ad qu n (gu g 4 v) := by
  obtain ⟨hRL, hRW, hRM, hRN, hRC, hRA, hRS, hRQ⟩ := h
  have hm : sMs g (gu g 4 v) := ⟨gu_ne _ _ (by decide), fun m w _ _ => gu_ne _ _ (by omega)⟩
  have hp : ∀ i, i < n → pl i ≠ a := fun i hi => by have := (hP.1 i (by have := hRA.1; omega)).2.2; omega
  refine ⟨?_, ?_, qM_congr (by simp (disch := omega) only [z_I_sA, z_I_sAn, z_J_sA]) (by simp (disch := omega) only [z_I_sA, z_I_sAn, z_J_sA]) hm hRM, qN_congr (by simp (disch := omega) only [z_I_sA, z_I_sAn, z_J_sA]) (by simp (disch := omega) only [z_I_sA, z_I_sAn, z_J_sA]) (by simp (disch := omega) only [z_I_sA, z_I_sAn, z_J_sA]) (gu_ne _ _ (by decide)) (fun k _ => gu_ne _ _ (by omega)) hRN, qC_congr (σ := σ) (by simp (disch := omega) only [z_I_sA, z_I_sAn, z_J_sA]) rfl (fun j h1 h2 => gu_ne _ _ (by omega)) hm hRC, qA_congr (fun x _ => gu_ne _ _ (by omega)) hRA, ?_, qQ_congr (by simp (disch := omega) only [z_I_sA, z_I_sAn, z_J_sA]) (fun i hi => by rw [z_I_sAn _ _ _ (hp i hi)]; exact ⟨rfl, rfl⟩) hm hRQ⟩
  · obtain ⟨h1, h2, h3, h4, h5, h6⟩ := hRL
    unfold qL
    simp (disch := omega) only [z_I_sA, gu_ne, gu_same]
    exact ⟨h1, h2, h3, h4, h5, trivial⟩
  · unfold qW
    simp (disch := omega) only [z_I_sAn]
    exact hRW
  · intro i hi
    have h32 := (hRA.2.1 i hi).1
    rw [z_I_sAn _ _ _ (hp i hi)]
    simp (disch := omega) only [gu_ne]
    exact hRS i hi
theorem s_sta_gu4 {v : Int32} (H : s_sta g) : s_sta (gu g 4 v) := s_sta_congr (fun j _ _ => gu_ne _ _ (by omega)) H
theorem c_pass (h : zCs σ a pl ad qu n g) {i nx : Nat} (hi : i < n) (hx : nx < 32) (h3 : g (18 + 7 * ad i + 3) = n32 nx) :
    ∃ σ', f_X8_passToNext σ a (pl i) = some (bi (s_tries nx 3 g).1, σ') ∧ zAn σ σ' a pl ad qu n (s_tries nx 3 g).2 ∧ s_sta (s_tries nx 3 g).2 := by
  have key : ∀ (k : Nat) (σ : zSt) (g : zG), k ≤ 3 → zCs σ a pl ad qu n g → g (18 + 7 * ad i + 3) = n32 nx → ∀ N, k < N →
      ∃ σ', zloop (fun (t : zSt × Int32) => b_X8_passToNext_2 a (pl i) t.1 t.2) N (σ, n32 (3 - k)) = some (bi (s_tries nx k g).1, σ') ∧ zAn σ σ' a pl ad qu n (s_tries nx k g).2 ∧ s_sta (s_tries nx k g).2 := by
    intro k
    induction k with
    | zero =>
      intro σ g _ h _ N hN
      obtain ⟨N, rfl⟩ : ∃ N', N = N' + 1 := ⟨N - 1, by omega⟩
      refine ⟨σ, zloop_r ?_, ⟨zFr_r a σ, rfl, h.2.2.1⟩, h.2.2.2.2⟩
      rfl
    | succ k ih =>
      intro σ g hk h h3 N hN
      obtain ⟨N, rfl⟩ : ∃ N', N = N' + 1 := ⟨N - 1, by omega⟩
      have hob := (h.2.1.1 i (by have := h.2.2.1.2.2.2.2.2.1.1; omega)).2.1
      have RSi := h.2.2.1.2.2.2.2.2.2.1 i hi
      have hai := (h.2.2.1.2.2.2.2.2.1.2.1 i hi).1
      have e3 : z_I σ (pl i) 3 = n32 nx := RSi.2.2.2.1.trans h3
      obtain ⟨σ1, E, A⟩ := c_reaches h hx
      have e4 : n32 (3 - (k + 1)) + n32 1 = n32 (3 - k) := by rw [n32_add]; congr 1; omega
      by_cases hc : s_l1 g = false ∧ s_ring (s_takes g (n32 1)) nx = true
      · rw [if_pos hc] at A
        rw [hc.1, hc.2] at E
        have h1 := zCs_step h A (s_takes_ne _ _ (by decide) (by decide)) (s_sta_takes _ h.2.2.2.2)
        have hob1 := (h1.2.1.1 i (by have := h.2.2.1.2.2.2.2.2.1.1; omega)).2.1
        have e31 : z_I σ1 (pl i) 3 = n32 nx := by
          rw [(h1.2.2.1.2.2.2.2.2.2.1 i hi).2.2.2.1, s_takes_ne _ _ (by omega) (by omega)]; exact h3
        have et : s_tries nx (k + 1) g = (true, gu (s_takes g (n32 1)) 4 (n32 nx)) := by rw [s_tries]; rw [if_pos hc]
        rw [et]
        refine ⟨z_sA σ1 a (gu (z_I σ1 a) 10 (n32 nx)), zloop_r ?_, zAn_t A ⟨zFr_sA _ (Nat.le_refl _) (by omega) _, (by simp (disch := omega) only [z_I_sA, z_I_sAn, z_J_sA]), zRep_holder h1.2.1 h1.2.2.1 _⟩, s_sta_gu4 h1.2.2.2.2⟩
        show b_X8_passToNext_2 a (pl i) σ (n32 (3 - (k + 1))) = _
        simp (disch := omega) only [b_X8_passToNext_2, ↓zl_eq, ↓zb_eq, ↓zb2_eq, ↓zc_some, ↓zc_none, ↓zb_pre, ↓zb2_pre, ↓zc_pre, ↓zex_eq, ↓reduceIte, Option.isSome_some, Option.isSome_none, Option.getD_some, n32_lit, n32_le, hob, e3, E, bi_0n, hob1, e31, h1.1.1, z_pI_eq, Bool.not_false, Bool.and_self, Bool.true_eq_false]
        rw [if_neg (by omega)]
        rfl
      · rw [if_neg hc] at A
        have hcf : (!s_l1 g && s_ring (s_takes g (n32 1)) nx) = false := by
          cases hl : s_l1 g <;> cases hr : s_ring (s_takes g (n32 1)) nx <;> simp [hl, hr] at hc ⊢
        rw [hcf] at E
        have h1 := zCs_step h A (by rw [s_tick_ne _ (by decide), s_takes_ne _ _ (by decide) (by decide)]) (s_sta_tick (s_sta_takes _ h.2.2.2.2))
        obtain ⟨σ2, E2, A2, S2⟩ := ih σ1 _ (by omega) h1 (by rw [s_tick_ne _ (by omega), s_takes_ne _ _ (by omega) (by omega)]; exact h3) N (by omega)
        have et : s_tries nx (k + 1) g = s_tries nx k (s_tick (s_takes g (n32 1))) := by rw [s_tries]; rw [if_neg hc]
        rw [et]
        refine ⟨σ2, (zloop_l (t := (σ1, n32 (3 - k))) ?_).trans E2, zAn_t A A2, S2⟩
        show b_X8_passToNext_2 a (pl i) σ (n32 (3 - (k + 1))) = _
        simp (disch := omega) only [b_X8_passToNext_2, ↓zl_eq, ↓zb_eq, ↓zb2_eq, ↓zc_some, ↓zc_none, ↓zb_pre, ↓zb2_pre, ↓zc_pre, ↓zex_eq, ↓reduceIte, Option.isSome_some, Option.isSome_none, Option.getD_some, n32_lit, n32_le, hob, e3, E, bi_0n, e4]
        rw [if_neg (by omega)]
  exact key 3 σ g (Nat.le_refl _) h h3 zN (by decide)
theorem s_sta_drop {h nx : Nat} (H : s_sta g) (hx : nx < 32) : s_sta (s_drop g h nx) := by
  unfold s_drop
  split
  · rename_i hc
    intro y hy h0
    rw [gu_ne _ _ (by omega), gu_ne _ _ (by omega)] at h0
    have := H y hy h0
    by_cases hyx : y = nx
    · subst hyx
      simp (disch := omega) only [gu_ne, gu_same]
      exact ⟨this.1, Or.inl trivial, fun hz => absurd hz (by decide), this.2.2.2⟩
    · simp (disch := omega) only [gu_ne]
      exact this
  · exact H
theorem c_drop (h : zCs σ a pl ad qu n g) {i nx : Nat} (hi : i < n) (hx : nx < 32) (h3 : g (18 + 7 * ad i + 3) = n32 nx) :
    ∃ σ', f_X8_dropSilent σ a (pl i) = some σ' ∧ zAn σ σ' a pl ad qu n (s_drop g (ad i) nx) ∧ s_sta (s_drop g (ad i) nx) := by
  have hS := s_sta_drop (h := ad i) h.2.2.2.2 hx
  have hL := h.1
  have hRA := h.2.2.1.2.2.2.2.2.1
  have hn8 := hRA.1
  have hob := (h.2.1.1 i (by omega)).2.1
  have RSi := h.2.2.1.2.2.2.2.2.2.1 i hi
  have hai := (hRA.2.1 i hi).1
  have e3 : z_I σ (pl i) 3 = n32 nx := RSi.2.2.2.1.trans h3
  have An0 : zAn σ σ a pl ad qu n g := ⟨zFr_r a σ, rfl, h.2.2.1⟩
  have D0 : ¬ (¬ nx = ad i ∧ s_ring g nx = true) → s_drop g (ad i) nx = g := fun hc => by unfold s_drop; rw [if_neg hc]
  rcases c_is h hx with h0 | ⟨h0, k, hk, rfl⟩
  · have F := c_find0 h hx (by rw [h0]; decide)
    have hc : ¬ (¬ nx = ad i ∧ s_ring g nx = true) := by
      intro hc; simp only [s_ring, h0, Bool.and_eq_true, decide_eq_true_eq] at hc; exact absurd hc.2.1.1 (by decide)
    refine ⟨σ, ?_, by rw [D0 hc]; exact An0, hS⟩
    simp only [f_X8_dropSilent, f_X8_dropSilent_43, ↓zl_eq, ↓zb_eq, ↓zb2_eq, ↓zc_some, ↓zc_none, ↓zb_pre, ↓zb2_pre, ↓zc_pre, ↓zex_eq, ↓reduceIte, Option.isSome_some, Option.isSome_none, Option.getD_some, hob, hL.1, e3, F]
    rfl
  · have F := c_find1 h hk
    have hobk := (h.2.1.1 k (by omega)).2.1
    have hplk := (h.2.1.1 k (by omega)).2.2
    have RSk := h.2.2.1.2.2.2.2.2.2.1 k hk
    have hst := h.2.2.2.2 (ad k) hx h0
    by_cases hki : k = i
    · subst hki
      have hc : ¬ (¬ ad k = ad k ∧ s_ring g (ad k) = true) := by simp
      refine ⟨σ, ?_, by rw [D0 hc]; exact An0, hS⟩
      simp only [f_X8_dropSilent, f_X8_dropSilent_43, ↓zl_eq, ↓zb_eq, ↓zb2_eq, ↓zc_some, ↓zc_none, ↓zb_pre, ↓zb2_pre, ↓zc_pre, ↓zex_eq, ↓reduceIte, Option.isSome_some, Option.isSome_none, Option.getD_some, hob, hL.1, e3, F]
    · have hne : ¬ pl k = pl i := fun he => hki (h.2.1.2 k i (by omega) (by omega) he)
      have hadn : ad k ≠ ad i := by
        rcases Nat.lt_or_ge k i with hlt | hge
        · have := hRA.2.2.1 k i hlt hi; omega
        · have := hRA.2.2.1 i k (by omega) hk; omega
      rcases hst.2.1 with hr | hr
      · have hc : ¬ (¬ ad k = ad i ∧ s_ring g (ad k) = true) := by
          intro hc; simp only [s_ring, hr, Bool.and_eq_true, decide_eq_true_eq] at hc; exact absurd hc.2.2 (by decide)
        refine ⟨σ, ?_, by rw [D0 hc]; exact An0, hS⟩
        have e2 : z_I σ (pl k) 2 = n32 0 := RSk.2.2.1.trans hr
        simp only [f_X8_dropSilent, f_X8_dropSilent_43, ↓zl_eq, ↓zb_eq, ↓zb2_eq, ↓zc_some, ↓zc_none, ↓zb_pre, ↓zb2_pre, ↓zc_pre, ↓zex_eq, ↓reduceIte, Option.isSome_some, Option.isSome_none, Option.getD_some, n32_lit, hob, hL.1, e3, F, hobk, e2, Option.some.injEq, hne]
      · have hc : (¬ ad k = ad i ∧ s_ring g (ad k) = true) := ⟨hadn, by simp only [s_ring, h0, hr, hst.2.2.1 hr, decide_true, Bool.and_self]⟩
        have e2 : z_I σ (pl k) 2 = n32 1 := RSk.2.2.1.trans hr
        have A1 : zAn σ (z_sA σ (pl k) (gu (z_I σ (pl k)) 2 (n32 0))) a pl ad qu n (gu g (18 + 7 * ad k + 2) (n32 0)) := ⟨zFr_sA _ (by omega) (by omega) _, (by simp (disch := omega) only [z_I_sA, z_I_sAn, z_J_sA]), zRep_sta h.2.1 h.2.2.1 hk (Or.inr (Or.inl ⟨rfl, rfl⟩)) _⟩
        have h1 := zPl_fr A1.1 h.2.1
        have c5 : z_I σ (a + 8) 5 = g 14 := h.2.2.1.2.2.2.2.1.1 5 (by decide)
        have e8 : z_I (z_sA σ (pl k) (gu (z_I σ (pl k)) 2 (n32 0))) (a + 8) = z_I σ (a + 8) := z_I_sAn _ _ _ (by omega)
        have K2 := zRep_count (i := 5) h1 A1.2.2 (by decide) (g 14 + n32 1)
        rw [e8] at K2
        have ed : s_drop g (ad i) (ad k) = gu (gu g (18 + 7 * ad k + 2) (n32 0)) 14 (g 14 + n32 1) := by unfold s_drop; rw [if_pos hc]
        refine ⟨_, ?_, zAn_t A1 (σ'' := z_sA (z_sA σ (pl k) (gu (z_I σ (pl k)) 2 (n32 0))) (a + 8) (gu (z_I σ (a + 8)) 5 (g 14 + n32 1))) ⟨zFr_sA _ (by omega) (by omega) _, (by simp (disch := omega) only [z_I_sA, z_I_sAn, z_J_sA]), by rw [ed]; exact K2⟩, hS⟩
        simp only [f_X8_dropSilent, f_X8_dropSilent_43, ↓zl_eq, ↓zb_eq, ↓zb2_eq, ↓zc_some, ↓zc_none, ↓zb_pre, ↓zb2_pre, ↓zc_pre, ↓zex_eq, ↓reduceIte, Option.isSome_some, Option.isSome_none, Option.getD_some, n32_lit, hob, hL.1, e3, F, hobk, e2, Option.some.injEq, hne, n32_eq, z_pI_eq, z_ob_sA, z_R_sA, hL.1, hL.2.1, hL.2.2.1, hL.2.2.2.1, hL.2.2.2.2.1, hL.2.2.2.2.2.1, hL.2.2.2.2.2.2.1, hL.2.2.2.2.2.2.2.1, hL.2.2.2.2.2.2.2.2.1, hL.2.2.2.2.2.2.2.2.2.1, hL.2.2.2.2.2.2.2.2.2.2.1, hL.2.2.2.2.2.2.2.2.2.2.2.1, hL.2.2.2.2.2.2.2.2.2.2.2.2.1, hL.2.2.2.2.2.2.2.2.2.2.2.2.2.1, hL.2.2.2.2.2.2.2.2.2.2.2.2.2.2.1, hL.2.2.2.2.2.2.2.2.2.2.2.2.2.2.2.1, hL.2.2.2.2.2.2.2.2.2.2.2.2.2.2.2.2.1, hL.2.2.2.2.2.2.2.2.2.2.2.2.2.2.2.2.2.1, hL.2.2.2.2.2.2.2.2.2.2.2.2.2.2.2.2.2.2.1, hL.2.2.2.2.2.2.2.2.2.2.2.2.2.2.2.2.2.2.2.1, hL.2.2.2.2.2.2.2.2.2.2.2.2.2.2.2.2.2.2.2.2.1, hL.2.2.2.2.2.2.2.2.2.2.2.2.2.2.2.2.2.2.2.2.2.1, hL.2.2.2.2.2.2.2.2.2.2.2.2.2.2.2.2.2.2.2.2.2.2.1, hL.2.2.2.2.2.2.2.2.2.2.2.2.2.2.2.2.2.2.2.2.2.2.2.1, hL.2.2.2.2.2.2.2.2.2.2.2.2.2.2.2.2.2.2.2.2.2.2.2.2.1, hL.2.2.2.2.2.2.2.2.2.2.2.2.2.2.2.2.2.2.2.2.2.2.2.2.2, e8, c5]
        rw [if_neg (by decide)]
end CLASS
end
section
theorem n10 : (n32 1 = n32 0) = False := eq_false (by decide)
/-- a line that is the array, with no more said of it -/
def zC0 (σ : zSt) (a : Nat) (pl ad : Nat → Nat) (qu : Nat → Nat → Nat) (n : Nat) (g : zG) : Prop := zLs σ a ∧ zPl σ a pl ∧ zRep σ a pl ad qu n g
theorem zC0_of {σ : zSt} {a : Nat} {pl ad : Nat → Nat} {qu : Nat → Nat → Nat} {n : Nat} {g : zG} (h : zCs σ a pl ad qu n g) : zC0 σ a pl ad qu n g := ⟨h.1, h.2.1, h.2.2.1⟩
theorem zC0_step {σ σ' : zSt} {a : Nat} {pl ad : Nat → Nat} {qu : Nat → Nat → Nat} {n : Nat} {g g' : zG} (h : zC0 σ a pl ad qu n g) (h2 : zAn σ σ' a pl ad qu n g') : zC0 σ' a pl ad qu n g' :=
  ⟨zLs_fr h2.1 h.1, zPl_fr h2.1 h.2.1, h2.2.2⟩
def s_fw (f w : Nat) : Prop := (f = 1 ∧ w = 1) ∨ (f = 2 ∧ w = 2) ∨ (f = 3 ∧ w = 3) ∨ (f = 4 ∧ w = 4) ∨ (f = 7 ∧ w = 5) ∨ (f = 8 ∧ w = 6)
section CLASS
variable {σ : zSt} {a n : Nat} {pl ad : Nat → Nat} {qu : Nat → Nat → Nat} {g : zG}
theorem c_sta (h : zC0 σ a pl ad qu n g) {i f w : Nat} (hi : i < n) (hfw : s_fw f w) (v : Int32) : zAn σ (z_pI σ (pl i) f v) a pl ad qu n (gu g (18 + 7 * ad i + w) v) := by
  have hn := h.2.2.2.2.2.2.2.1.1
  have hp := (h.2.1.1 i (by omega)).2.2
  rw [z_pI_eq]
  exact ⟨zFr_sA _ (by omega) (by omega) _, (by simp (disch := omega) only [z_I_sA, z_I_sAn, z_J_sA]), zRep_sta h.2.1 h.2.2 hi hfw v⟩
theorem c_cnt (h : zC0 σ a pl ad qu n g) {i : Nat} (hi : i < 7) (v : Int32) : zAn σ (z_pI σ (a + 8) i v) a pl ad qu n (gu g (9 + i) v) := by
  rw [z_pI_eq]
  exact ⟨zFr_sA _ (by omega) (by omega) _, (by simp (disch := omega) only [z_I_sA, z_I_sAn, z_J_sA]), zRep_count h.2.1 h.2.2 hi v⟩
theorem c_hold (h : zC0 σ a pl ad qu n g) (v : Int32) : zAn σ (z_pI σ a 10 v) a pl ad qu n (gu g 4 v) := by
  rw [z_pI_eq]
  exact ⟨zFr_sA _ (by omega) (by omega) _, (by simp (disch := omega) only [z_I_sA, z_I_sAn, z_J_sA]), zRep_holder h.2.1 h.2.2 v⟩
theorem c_time (h : zC0 σ a pl ad qu n g) (v : Int32) : zAn σ (z_pI σ a 9 v) a pl ad qu n (gu g 3 v) := by
  rw [z_pI_eq]
  exact ⟨zFr_sA _ (by omega) (by omega) _, (by simp (disch := omega) only [z_I_sA, z_I_sAn, z_J_sA]), zRep_time h.2.1 h.2.2 v⟩
theorem c_n8 (h : zC0 σ a pl ad qu n g) : n ≤ 8 := h.2.2.2.2.2.2.2.1.1
theorem c_ob (h : zC0 σ a pl ad qu n g) {i : Nat} (hi : i < n) : z_ob σ (pl i) 6 = true := (h.2.1.1 i (by have := c_n8 h; omega)).2.1
theorem c_S (h : zC0 σ a pl ad qu n g) {i : Nat} (hi : i < n) : z_I σ (pl i) 0 = n32 (ad i) ∧ z_I σ (pl i) 1 = g (18 + 7 * ad i + 1) ∧ z_I σ (pl i) 2 = g (18 + 7 * ad i + 2) ∧ z_I σ (pl i) 3 = g (18 + 7 * ad i + 3) ∧ z_I σ (pl i) 4 = g (18 + 7 * ad i + 4) ∧ z_I σ (pl i) 7 = g (18 + 7 * ad i + 5) ∧ z_I σ (pl i) 8 = g (18 + 7 * ad i + 6) := h.2.2.2.2.2.2.2.2.1 i hi
theorem c_ad (h : zC0 σ a pl ad qu n g) {i : Nat} (hi : i < n) : ad i < 32 ∧ g (18 + 7 * ad i + 0) = n32 1 := h.2.2.2.2.2.2.2.1.2.1 i hi
theorem c_L (h : zC0 σ a pl ad qu n g) : z_I σ a 5 = n32 n ∧ z_I σ a 6 = g 0 ∧ z_I σ a 7 = g 1 ∧ z_I σ a 8 = g 2 ∧ z_I σ a 9 = g 3 ∧ z_I σ a 10 = g 4 := h.2.2.1
theorem c_C (h : zC0 σ a pl ad qu n g) {i : Nat} (hi : i < 7) : z_I σ (a + 8) i = g (9 + i) := h.2.2.2.2.2.2.1.1 i hi
theorem c_tickp (h : zC0 σ a pl ad qu n g) : zAn σ (z_pI σ a 9 (g 3 + g 1)) a pl ad qu n (s_tick g) := c_time h _
/-- the others are asked -/
theorem c_ask {i : Nat} (hi : i < n) : ∀ (k : Nat) (σ : zSt) (g : zG) (to c : Nat), to < 32 → zCs σ a pl ad qu n g → g 4 = n32 (ad i) → (ad i + 32 - to) % 32 ≤ k → c + (ad i + 32 - to) % 32 ≤ 31 → ∀ N, k < N →
    ∃ σ', zloop (fun (t : zSt × Int32 × Int32) => b_X8_askOthers_10 a (pl i) t.1 t.2.1 t.2.2) N (σ, n32 to, n32 c) = some σ' ∧ zAn σ σ' a pl ad qu n (s_end (s_ask (ad i) k g to).1 (ad i) (s_ask (ad i) k g to).2) := by
  have stop : ∀ (σ : zSt) (g : zG) (c : Nat), zCs σ a pl ad qu n g → g 4 = n32 (ad i) → c ≤ 31 → ∃ σ', b_X8_askOthers_10 a (pl i) σ (n32 (ad i)) (n32 c) = some (.inr σ') ∧ zAn σ σ' a pl ad qu n (s_end g (ad i) (ad i)) := by
    intro σ g c h h4 hc
    have h0 := zC0_of h
    have A := c_sta h0 hi (f := 3) (w := 3) (by unfold s_fw; omega) (n32 (ad i))
    refine ⟨z_pI σ (pl i) 3 (n32 (ad i)), ?_, ?_⟩
    · simp (disch := omega) only [b_X8_askOthers_10, f_X8_askOthers_54, ↓zl_eq, ↓zb_eq, ↓zb2_eq, ↓zc_some, ↓zc_none, ↓zb_pre, ↓zb2_pre, ↓zc_pre, ↓zex_eq, ↓reduceIte, Option.isSome_some, Option.isSome_none, Option.getD_some, n32_lit, n32_lt, c_ob h0 hi, (c_S h0 hi).1]
      rw [if_neg (by omega)]
    · unfold s_end
      have hai := (c_ad h0 hi).1
      have e : gu g (18 + 7 * ad i + 3) (n32 (ad i)) 4 = n32 (ad i) := by rw [gu_ne _ _ (by omega)]; exact h4
      have e2 : gu (gu g (18 + 7 * ad i + 3) (n32 (ad i))) 4 (n32 (ad i)) = gu g (18 + 7 * ad i + 3) (n32 (ad i)) := by
        conv => lhs; rw [← e]
        have := gu_id (gu g (18 + 7 * ad i + 3) (n32 (ad i))) 4
        rw [e] at this ⊢
        exact this
      rw [e2]
      exact A
  intro k
  induction k with
  | zero =>
    intro σ g to c ht h h4 hd hc N hN
    obtain ⟨N, rfl⟩ : ∃ N', N = N' + 1 := ⟨N - 1, by omega⟩
    have hai := (c_ad (zC0_of h) hi).1
    have : to = ad i := by omega
    subst this
    obtain ⟨σ', E, A⟩ := stop σ g c h h4 (by omega)
    exact ⟨σ', zloop_r E, A⟩
  | succ k ih =>
    intro σ g to c ht h h4 hd hc N hN
    obtain ⟨N, rfl⟩ : ∃ N', N = N' + 1 := ⟨N - 1, by omega⟩
    have h0 := zC0_of h
    have hai := (c_ad h0 hi).1
    by_cases he : to = ad i
    · subst he
      obtain ⟨σ', E, A⟩ := stop σ g c h h4 (by omega)
      refine ⟨σ', zloop_r E, ?_⟩
      have : s_ask (ad i) (k + 1) g (ad i) = (g, ad i) := by rw [s_ask]; rw [if_pos rfl]
      rw [this]
      exact A
    · obtain ⟨σ1, E, A⟩ := c_reaches h ht
      have hm := Nat.mod_lt (to + 1) (show 32 > 0 by decide)
      have B : ∀ r, f_X8_reaches σ a (n32 to) = some r → True := fun _ _ => trivial
      by_cases hcc : s_l1 g = false ∧ s_ring (s_takes g (n32 1)) to = true
      · rw [if_pos hcc] at A
        rw [hcc.1, hcc.2] at E
        have es : s_ask (ad i) (k + 1) g to = (s_takes g (n32 1), to) := by rw [s_ask]; rw [if_neg he, if_pos hcc]
        rw [es]
        have h1 := zC0_step h0 A
        have A2 := c_sta h1 hi (f := 3) (w := 3) (by unfold s_fw; omega) (n32 to)
        have h2 := zC0_step h1 A2
        have A3 := c_hold h2 (n32 to)
        refine ⟨_, zloop_r ?_, zAn_t A (zAn_t A2 A3)⟩
        show b_X8_askOthers_10 a (pl i) σ (n32 to) (n32 c) = _
        simp (disch := omega) only [b_X8_askOthers_10, f_X8_askOthers_54, ↓zl_eq, ↓zb_eq, ↓zb2_eq, ↓zc_some, ↓zc_none, ↓zb_pre, ↓zb2_pre, ↓zc_pre, ↓zex_eq, ↓reduceIte, Option.isSome_some, Option.isSome_none, Option.getD_some, n32_lit, n32_lt, n32_eq, c_ob h0 hi, (c_S h0 hi).1, if_neg he, E, bi_0n, Bool.not_false, Bool.and_self, Bool.true_eq_false, c_ob h1 hi, z_ob_pI, h1.1.1]
        rw [if_neg (by omega)]
      · rw [if_neg hcc] at A
        have hcf : (!s_l1 g && s_ring (s_takes g (n32 1)) to) = false := by
          cases hl : s_l1 g <;> cases hr : s_ring (s_takes g (n32 1)) to <;> simp [hl, hr] at hcc ⊢
        rw [hcf] at E
        have h1 := zCs_step h A (by rw [s_tick_ne _ (by decide), s_takes_ne _ _ (by decide) (by decide)]) (s_sta_tick (s_sta_takes _ h.2.2.2.2))
        obtain ⟨σ2, E2, A2⟩ := ih σ1 _ ((to + 1) % 32) (c + 1) hm h1 (by rw [s_tick_ne _ (by omega), s_takes_ne _ _ (by omega) (by omega)]; exact h4) (by omega) (by omega) N (by omega)
        have es : s_ask (ad i) (k + 1) g to = s_ask (ad i) k (s_tick (s_takes g (n32 1))) ((to + 1) % 32) := by rw [s_ask]; rw [if_neg he, if_neg hcc]
        rw [es]
        refine ⟨σ2, (zloop_l (t := (σ1, n32 ((to + 1) % 32), n32 (c + 1))) ?_).trans E2, zAn_t A A2⟩
        show b_X8_askOthers_10 a (pl i) σ (n32 to) (n32 c) = _
        simp (disch := omega) only [b_X8_askOthers_10, f_X8_askOthers_54, ↓zl_eq, ↓zb_eq, ↓zb2_eq, ↓zc_some, ↓zc_none, ↓zb_pre, ↓zb2_pre, ↓zc_pre, ↓zex_eq, ↓reduceIte, Option.isSome_some, Option.isSome_none, Option.getD_some, n32_lit, n32_lt, n32_eq, c_ob h0 hi, (c_S h0 hi).1, if_neg he, E, bi_0n, c_addr _ ht, n32_add]
        rw [if_neg (by omega)]
theorem c_others (h : zCs σ a pl ad qu n g) {i nx : Nat} (hi : i < n) (hx : nx < 32) (h3 : g (18 + 7 * ad i + 3) = n32 nx) (h4 : g 4 = n32 (ad i)) :
    ∃ σ', f_X8_askOthers σ a (pl i) = some σ' ∧ zAn σ σ' a pl ad qu n (s_end (s_ask (ad i) 32 g ((nx + 1) % 32)).1 (ad i) (s_ask (ad i) 32 g ((nx + 1) % 32)).2) := by
  have h0 := zC0_of h
  have e3 : z_I σ (pl i) 3 = n32 nx := (c_S h0 hi).2.2.2.1.trans h3
  have hm := Nat.mod_lt (nx + 1) (show 32 > 0 by decide)
  obtain ⟨σ', E, A⟩ := c_ask hi 32 σ g ((nx + 1) % 32) 0 hm h h4 (by omega) (by omega) zN (by decide)
  refine ⟨σ', ?_, A⟩
  simp (disch := omega) only [f_X8_askOthers, f_X8_askOthers_10, ↓zl_eq, ↓zb_eq, ↓zb2_eq, ↓zc_some, ↓zc_none, ↓zb_pre, ↓zb2_pre, ↓zc_pre, ↓zex_eq, ↓reduceIte, Option.isSome_some, Option.isSome_none, Option.getD_some, n32_lit, c_ob h0 hi, e3, c_addr _ hx]
  exact E
/-- a station comes into the ring -/
def s_ci (g : zG) (h to : Nat) : Bool × zG :=
  if s_l1 g = true then (false, s_takes g (n32 1)) else if s_free (s_takes g (n32 1)) to = true then (if s_l1 (s_takes g (n32 1)) = true then (false, s_takes (s_takes g (n32 1)) (n32 1)) else (true, s_come (s_takes (s_takes g (n32 1)) (n32 1)) h to)) else (false, s_takes g (n32 1))
theorem s_poll_ci (g : zG) (h to : Nat) : s_poll g h to = if (s_ci (gu g (18 + 7 * h + 4) (n32 to)) h to).1 = true then (s_ci (gu g (18 + 7 * h + 4) (n32 to)) h to).2 else s_tick (s_ci (gu g (18 + 7 * h + 4) (n32 to)) h to).2 := by
  unfold s_poll s_ci s_asked
  generalize gu g (18 + 7 * h + 4) (n32 to) = g1
  generalize s_takes g1 (n32 1) = g2
  cases s_l1 g1 <;> cases s_free g2 to <;> cases s_l1 g2 <;> simp only [↓reduceIte, Bool.false_eq_true]
theorem c_comes (h : zCs σ a pl ad qu n g) {i to : Nat} (hi : i < n) (ht : to < 32) (h4 : g (18 + 7 * ad i + 4) = n32 to) :
    ∃ σ', f_X8_comesIn σ a (pl i) = some (bi (s_ci g (ad i) to).1, σ') ∧ zAn σ σ' a pl ad qu n (s_ci g (ad i) to).2 := by
  have h0 := zC0_of h
  obtain ⟨σ1, e1, A1⟩ := c_trans h (n32 1)
  have h1 := zCs_step h A1 (s_takes_ne _ _ (by decide) (by decide)) (s_sta_takes _ h.2.2.2.2)
  have h10 := zC0_of h1
  have hl : s_loud g (g 3) (g 3 + n32 1 - n32 1) = s_l1 g := rfl
  rw [hl] at e1
  have hai := (c_ad h0 hi).1
  have e4 : z_I σ1 (pl i) 4 = n32 to := by rw [(c_S h10 hi).2.2.2.2.1, s_takes_ne _ _ (by omega) (by omega)]; exact h4
  unfold s_ci
  cases hs : s_l1 g with
  | true =>
    rw [hs] at e1
    refine ⟨σ1, ?_, A1⟩
    simp only [f_X8_comesIn, f_X8_comesIn_20, f_X8_comesIn_39, ↓zl_eq, ↓zb_eq, ↓zb2_eq, ↓zc_some, ↓zc_none, ↓zb_pre, ↓zb2_pre, ↓zc_pre, ↓zex_eq, ↓reduceIte, Option.isSome_some, Option.isSome_none, Option.getD_some, n32_lit, h.1.1, e1, bi_0n, Bool.not_true]
    rfl
  | false =>
    rw [hs] at e1
    simp only [Bool.false_eq_true, if_false]
    rcases c_is h1 ht with hz | ⟨hz, k, hk, rfl⟩
    · have F := c_find0 h1 ht (by rw [hz]; decide)
      have hf : s_free (s_takes g (n32 1)) to = false := by
        unfold s_free; rw [hz]; rfl
      rw [hf]
      refine ⟨σ1, ?_, A1⟩
      simp only [f_X8_comesIn, f_X8_comesIn_20, f_X8_comesIn_39, ↓zl_eq, ↓zb_eq, ↓zb2_eq, ↓zc_some, ↓zc_none, ↓zb_pre, ↓zb2_pre, ↓zc_pre, ↓zex_eq, ↓reduceIte, Option.isSome_some, Option.isSome_none, Option.getD_some, n32_lit, h.1.1, h1.1.1, e1, bi_0n, Bool.not_false, Bool.true_eq_false, c_ob h10 hi, e4, F]
      rfl
    · have F := c_find1 h1 hk
      have hst := h1.2.2.2.2 (ad k) ht hz
      have s1 := (c_S h10 hk).2.1
      have s2 := (c_S h10 hk).2.2.1
      rcases hst.1 with ho | ho
      · have hf : s_free (s_takes g (n32 1)) (ad k) = false := by
          unfold s_free; rw [ho, hz]; rfl
        rw [hf]
        refine ⟨σ1, ?_, A1⟩
        rw [ho] at s1
        simp only [f_X8_comesIn, f_X8_comesIn_20, f_X8_comesIn_39, ↓zl_eq, ↓zb_eq, ↓zb2_eq, ↓zc_some, ↓zc_none, ↓zb_pre, ↓zb2_pre, ↓zc_pre, ↓zex_eq, ↓reduceIte, Option.isSome_some, Option.isSome_none, Option.getD_some, n32_lit, h.1.1, h1.1.1, e1, bi_0n, Bool.not_false, Bool.true_eq_false, c_ob h10 hi, e4, F, c_ob h10 hk, s1]
        rfl
      · rcases hst.2.1 with hr | hr
        · have hf : s_free (s_takes g (n32 1)) (ad k) = true := by
            unfold s_free; rw [ho, hz, hr]; rfl
          rw [hf]
          rw [ho] at s1
          rw [hr] at s2
          obtain ⟨σ2, e2, A2⟩ := c_trans h1 (n32 1)
          have hl2 : s_loud (s_takes g (n32 1)) (s_takes g (n32 1) 3) (s_takes g (n32 1) 3 + n32 1 - n32 1) = s_l1 (s_takes g (n32 1)) := rfl
          rw [hl2] at e2
          have h20 := zC0_step h10 A2
          cases hs2 : s_l1 (s_takes g (n32 1)) with
          | true =>
            rw [hs2] at e2
            refine ⟨σ2, ?_, zAn_t A1 A2⟩
            simp (disch := omega) only [f_X8_comesIn, f_X8_comesIn_20, f_X8_comesIn_39, ↓zl_eq, ↓zb_eq, ↓zb2_eq, ↓zc_some, ↓zc_none, ↓zb_pre, ↓zb2_pre, ↓zc_pre, ↓zex_eq, ↓reduceIte, Option.isSome_some, Option.isSome_none, Option.getD_some, n32_lit, h.1.1, h1.1.1, e1, bi_0n, Bool.not_false, Bool.not_true, Bool.true_eq_false, c_ob h10 hi, e4, F, c_ob h10 hk, s1, s2, n10, e2]
            rfl
          | false =>
            rw [hs2] at e2
            have A3 := c_sta h20 hk (f := 2) (w := 2) (by unfold s_fw; omega) (n32 1)
            generalize hg3 : s_takes (s_takes g (n32 1)) (n32 1) = g2 at *
            generalize hσ3 : z_pI σ2 (pl k) 2 (n32 1) = σ3 at A3
            have h30 := zC0_step h20 A3
            have r3 : z_I σ3 (pl i) 3 = g2 (18 + 7 * ad i + 3) := by rw [(c_S h30 hi).2.2.2.1, gu_ne _ _ (by omega)]
            have A4 := c_sta h30 hk (f := 3) (w := 3) (by unfold s_fw; omega) (g2 (18 + 7 * ad i + 3))
            generalize hσ4 : z_pI σ3 (pl k) 3 (g2 (18 + 7 * ad i + 3)) = σ4 at A4
            have h40 := zC0_step h30 A4
            have A5 := c_sta h40 hk (f := 4) (w := 4) (by unfold s_fw; omega) (n32 (ad k))
            generalize hσ5 : z_pI σ4 (pl k) 4 (n32 (ad k)) = σ5 at A5
            have h50 := zC0_step h40 A5
            have A6 := c_sta h50 hi (f := 3) (w := 3) (by unfold s_fw; omega) (n32 (ad k))
            generalize hσ6 : z_pI σ5 (pl i) 3 (n32 (ad k)) = σ6 at A6
            have h60 := zC0_step h50 A6
            have c4 : z_I σ6 (a + 8) 4 = g2 13 := by
              rw [c_C h60 (by decide)]
              simp (disch := omega) only [gu_ne]
            have A7 := c_cnt h60 (i := 4) (by decide) (g2 13 + n32 1)
            have L6 := h60.1
            refine ⟨_, ?_, zAn_t A1 (zAn_t A2 (zAn_t A3 (zAn_t A4 (zAn_t A5 (zAn_t A6 A7)))))⟩
            simp (disch := omega) only [f_X8_comesIn, f_X8_comesIn_20, f_X8_comesIn_39, ↓zl_eq, ↓zb_eq, ↓zb2_eq, ↓zc_some, ↓zc_none, ↓zb_pre, ↓zb2_pre, ↓zc_pre, ↓zex_eq, ↓reduceIte, Option.isSome_some, Option.isSome_none, Option.getD_some, n32_lit, h.1.1, h1.1.1, e1, bi_0n, Bool.not_false, Bool.true_eq_false, c_ob h10 hi, e4, F, c_ob h10 hk, s1, s2, n10, e2, c_ob h20 hk, hσ3, c_ob h30 hi, c_ob h30 hk, r3, hσ4, c_ob h40 hk, (c_S h40 hk).1, hσ5, c_ob h50 hk, c_ob h50 hi, (c_S h50 hk).1, hσ6, L6.1, L6.2.2.2.2.1, L6.2.2.2.2.2.2.2.2.2.2.2.2.2.2.2.2.2.2.2.2.2.1, c4]
            rfl
        · have hf : s_free (s_takes g (n32 1)) (ad k) = false := by
            unfold s_free; rw [hr]; simp only [Bool.and_eq_false_iff]; exact Or.inr rfl
          rw [hf]
          refine ⟨σ1, ?_, A1⟩
          rw [ho] at s1
          rw [hr] at s2
          simp (disch := omega) only [f_X8_comesIn, f_X8_comesIn_20, f_X8_comesIn_39, ↓zl_eq, ↓zb_eq, ↓zb2_eq, ↓zc_some, ↓zc_none, ↓zb_pre, ↓zb2_pre, ↓zc_pre, ↓zex_eq, ↓reduceIte, Option.isSome_some, Option.isSome_none, Option.getD_some, n32_lit, h.1.1, h1.1.1, e1, bi_0n, Bool.not_false, Bool.true_eq_false, c_ob h10 hi, e4, F, c_ob h10 hk, s1, s2, n10]
          rfl
end CLASS
end
section
theorem s_sta_gap {g : zG} {h to : Nat} (H : s_sta g) (ht : to < 32) : s_sta (gu g (18 + 7 * h + 4) (n32 to)) := by
  intro y hy h0
  rw [gu_ne _ _ (by omega)] at h0
  have := H y hy h0
  by_cases hyh : y = h
  · subst hyh
    simp (disch := omega) only [gu_ne, gu_same]
    exact ⟨this.1, this.2.1, this.2.2.1, this.2.2.2.1, to, ht, rfl⟩
  · simp (disch := omega) only [gu_ne]
    exact this
theorem s_sta_come {g : zG} {h to nx : Nat} (H : s_sta g) (hh : h < 32) (ht : to < 32) (hx : nx < 32) (h3 : g (18 + 7 * h + 3) = n32 nx) (hf : s_free g to = true) : s_sta (s_come g h to) := by
  simp only [s_free, Bool.and_eq_true, decide_eq_true_eq] at hf
  intro y hy h0
  unfold s_come at h0 ⊢
  have e0 : g (18 + 7 * y + 0) = n32 1 := by
    rw [gu_ne _ _ (by omega), gu_ne _ _ (by omega), gu_ne _ _ (by omega), gu_ne _ _ (by omega), gu_ne _ _ (by omega)] at h0; exact h0
  have := H y hy e0
  by_cases hyt : y = to
  · subst hyt
    by_cases hyh : y = h
    · subst hyh
      simp (disch := omega) only [gu_ne, gu_same]
      exact ⟨this.1, Or.inr trivial, fun _ => hf.1.2, ⟨y, hy, rfl⟩, y, hy, rfl⟩
    · simp (disch := omega) only [gu_ne, gu_same, h3]
      exact ⟨this.1, Or.inr trivial, fun _ => hf.1.2, ⟨nx, hx, rfl⟩, y, hy, rfl⟩
  · by_cases hyh : y = h
    · subst hyh
      simp (disch := omega) only [gu_ne, gu_same]
      exact ⟨this.1, this.2.1, this.2.2.1, ⟨to, ht, rfl⟩, this.2.2.2.2⟩
    · simp (disch := omega) only [gu_ne]
      exact this
theorem s_sta_ci {g : zG} {h to : Nat} (H : s_sta g) (hh : h < 32) (ht : to < 32) (hz : g (18 + 7 * h + 0) = n32 1) : s_sta (s_ci g h to).2 := by
  obtain ⟨nx, hx, h3⟩ := (H h hh hz).2.2.2.1
  unfold s_ci
  split
  · exact s_sta_takes _ H
  · split
    · split
      · exact s_sta_takes _ (s_sta_takes _ H)
      · rename_i hf hl
        refine s_sta_come (s_sta_takes _ (s_sta_takes _ H)) hh ht hx (by rw [s_takes_ne _ _ (by omega) (by omega), s_takes_ne _ _ (by omega) (by omega)]; exact h3) ?_
        unfold s_free at hf ⊢
        simp (disch := omega) only [s_takes_ne] at hf ⊢
        exact hf
    · exact s_sta_takes _ H
theorem s_sta_poll {g : zG} {h to : Nat} (H : s_sta g) (hh : h < 32) (ht : to < 32) (hz : g (18 + 7 * h + 0) = n32 1) : s_sta (s_poll g h to) := by
  have A := s_sta_ci (h := h) (to := to) (s_sta_gap (h := h) H ht) hh ht (by rw [gu_ne _ _ (by omega)]; exact hz)
  rw [s_poll_ci]
  split
  · exact A
  · exact s_sta_tick A
section CLASS
variable {σ : zSt} {a n : Nat} {pl ad : Nat → Nat} {qu : Nat → Nat → Nat} {g : zG}
theorem c_poll97 (h : zCs σ a pl ad qu n g) {i to : Nat} (hi : i < n) (ht : to < 32) :
    ∃ σ', f_X8_pollGap_97 σ a (pl i) (n32 to) (some (pl i)) = some σ' ∧ zAn σ σ' a pl ad qu n (s_poll g (ad i) to) := by
  have h0 := zC0_of h
  have hai := c_ad h0 hi
  have A1 := c_sta h0 hi (f := 4) (w := 4) (by unfold s_fw; omega) (n32 to)
  generalize hσ1 : z_pI σ (pl i) 4 (n32 to) = σ1 at A1
  have h1 := zCs_step h A1 (gu_ne _ _ (by omega)) (s_sta_gap h.2.2.2.2 ht)
  obtain ⟨σ2, e2, A2⟩ := c_comes h1 hi ht (gu_same _ _ _)
  have h2 := zC0_step (zC0_of h1) A2
  rw [s_poll_ci]
  generalize hci : s_ci (gu g (18 + 7 * ad i + 4) (n32 to)) (ad i) to = r at *
  obtain ⟨b, g2⟩ := r
  have e9 := (c_L h2).2.2.2.2.1
  have e7 := (c_L h2).2.2.1
  cases b with
  | true =>
    refine ⟨σ2, ?_, zAn_t A1 A2⟩
    simp only [f_X8_pollGap_97, f_X8_pollGap_121, ↓zl_eq, ↓zb_eq, ↓zb2_eq, ↓zc_some, ↓zc_none, ↓zb_pre, ↓zb2_pre, ↓zc_pre, ↓zex_eq, ↓reduceIte, Option.isSome_some, Option.isSome_none, Option.getD_some, n32_lit, c_ob h0 hi, hσ1, e2, bi_0n, Bool.true_eq_false]
  | false =>
    refine ⟨z_pI σ2 a 9 (g2 3 + g2 1), ?_, zAn_t A1 (zAn_t A2 (c_tickp h2))⟩
    simp only [f_X8_pollGap_97, f_X8_pollGap_121, ↓zl_eq, ↓zb_eq, ↓zb2_eq, ↓zc_some, ↓zc_none, ↓zb_pre, ↓zb2_pre, ↓zc_pre, ↓zex_eq, ↓reduceIte, Option.isSome_some, Option.isSome_none, Option.getD_some, n32_lit, c_ob h0 hi, hσ1, e2, bi_0n, h2.1.1, e9, e7]
theorem c_poll (h : zCs σ a pl ad qu n g) {i nx gp gg : Nat} (hi : i < n) (hx : nx < 32) (hp : gp < 32) (hg1 : 1 ≤ gg) (hg2 : gg ≤ 20) (h3 : g (18 + 7 * ad i + 3) = n32 nx) (h4 : g (18 + 7 * ad i + 4) = n32 gp) (h2 : g 2 = n32 gg) :
    ∃ σ', f_X8_pollGap σ a (pl i) = some σ' ∧ zAn σ σ' a pl ad qu n (s_polls g (ad i) nx gp) ∧ s_sta (s_polls g (ad i) nx gp) := by
  have h0 := zC0_of h
  have hai := c_ad h0 hi
  have S := c_S h0 hi
  have e8 : z_I σ a 8 = n32 gg := (c_L h0).2.2.2.1.trans h2
  have e3 : z_I σ (pl i) 3 = n32 nx := S.2.2.2.1.trans h3
  have e4 : z_I σ (pl i) 4 = n32 gp := S.2.2.2.2.1.trans h4
  have e7 := S.2.2.2.2.2.1
  have An0 : zAn σ σ a pl ad qu n g := ⟨zFr_r a σ, rfl, h.2.2.1⟩
  have hm1 := Nat.mod_lt (gp + 1) (show 32 > 0 by decide)
  have hm2 := Nat.mod_lt (ad i + 1) (show 32 > 0 by decide)
  have bw := n32_bw (ad i) hai.1 nx hx
  have ds := n32_ds (ad i) hai.1 ((gp + 1) % 32) hm1
  have hb1 := s_bhd_le (ad i) nx
  have hb2 := s_bhd_le (ad i) ((gp + 1) % 32)
  unfold s_polls
  rw [h2]
  by_cases hv : g (18 + 7 * ad i + 5) - g (18 + 7 * ad i + 5) / n32 gg * n32 gg = n32 0
  · rw [if_pos hv]
    by_cases hz : s_bhd (ad i) nx - 1 = 0
    · rw [if_pos hz]
      refine ⟨σ, ?_, An0, h.2.2.2.2⟩
      simp (disch := omega) only [f_X8_pollGap, ↓zl_eq, ↓zb_eq, ↓zb2_eq, ↓zc_some, ↓zc_none, ↓zb_pre, ↓zb2_pre, ↓zc_pre, ↓zex_eq, ↓reduceIte, Option.isSome_some, Option.isSome_none, Option.getD_some, n32_lit, h.1.1, e8, n32_lt, n32_eq, c_ob h0 hi, e7, hv, e3, S.1, bw, hz]
      rw [if_neg (by omega), if_pos (by omega)]
    · rw [if_neg hz]
      have P1 := c_poll97 h hi (s_to_lt (ad i) nx gp)
      have hst := s_sta_poll (h := ad i) (to := s_to (ad i) nx gp) h.2.2.2.2 hai.1 (s_to_lt _ _ _) hai.2
      obtain ⟨σ', E, A⟩ := P1
      refine ⟨σ', ?_, A, hst⟩
      rw [← E]
      simp (disch := omega) only [f_X8_pollGap, f_X8_pollGap_71, f_X8_pollGap_72, ↓zl_eq, ↓zb_eq, ↓zb2_eq, ↓zc_some, ↓zc_none, ↓zb_pre, ↓zb2_pre, ↓zc_pre, ↓zex_eq, ↓reduceIte, Option.isSome_some, Option.isSome_none, Option.getD_some, n32_lit, h.1.1, e8, n32_lt, n32_eq, c_ob h0 hi, e7, hv, e3, S.1, bw, hz, e4, c_addr _ hp, ds, c_addr _ hai.1]
      rw [if_neg (by omega), if_pos (by omega)]
      unfold s_to
      by_cases h32 : s_bhd (ad i) ((gp + 1) % 32) = 32
      · rw [if_pos h32, if_pos (by decide), if_neg (by omega)]
      · rw [if_neg h32, if_neg (by rw [n32_lt (by omega) (by omega)]; omega)]
        by_cases hq : s_bhd (ad i) nx - 1 < s_bhd (ad i) ((gp + 1) % 32)
        · rw [if_pos (by rw [n32_lt (by omega) (by omega)]; exact hq), if_neg (by omega)]
        · rw [if_neg (by rw [n32_lt (by omega) (by omega)]; exact hq), if_neg (by omega), if_pos (by omega)]
  · rw [if_neg hv]
    refine ⟨σ, ?_, An0, h.2.2.2.2⟩
    simp (disch := omega) only [f_X8_pollGap, f_X8_pollGap_20, ↓zl_eq, ↓zb_eq, ↓zb2_eq, ↓zc_some, ↓zc_none, ↓zb_pre, ↓zb2_pre, ↓zc_pre, ↓zex_eq, ↓reduceIte, Option.isSome_some, Option.isSome_none, Option.getD_some, n32_lit, h.1.1, e8, n32_lt, n32_eq, c_ob h0 hi, e7, hv]
    rw [if_neg (by omega), if_pos (by omega)]
end CLASS
end
section
theorem s_low_no {P : Nat → Bool} {h0 : Int32} (h : ∀ x, x < 32 → P x = false) : ∀ k, k ≤ 32 → s_low P h0 k = h0
  | 0, _ => rfl
  | k + 1, hk => by
    unfold s_low
    rw [h (31 - k) (by omega), s_low_no h k (by omega)]
    rfl
theorem s_low_yes {P : Nat → Bool} {h0 : Int32} {x : Nat} (hx : x < 32) (hP : P x = true) (hlt : ∀ y, y < x → P y = false) : ∀ k, 32 - x ≤ k → k ≤ 32 → s_low P h0 k = n32 x
  | 0, h1, _ => by omega
  | k + 1, h1, h2 => by
    unfold s_low
    by_cases he : 31 - k = x
    · rw [he, hP]; rfl
    · rw [hlt (31 - k) (by omega), s_low_yes hx hP hlt k (by omega) (by omega)]; rfl
def s_pick (g : zG) (b : Bool) (x : Nat) : Bool := if b = true then s_ring g x else s_isOn g x
theorem s_pick_is {g : zG} {b : Bool} {x : Nat} (h : s_pick g b x = true) : g (18 + 7 * x + 0) = n32 1 := by
  unfold s_pick at h
  cases b
  · simp only [Bool.false_eq_true, if_false, s_isOn, Bool.and_eq_true, decide_eq_true_eq] at h; exact h.1
  · simp only [if_true, s_ring, Bool.and_eq_true, decide_eq_true_eq] at h; exact h.1.1
section CLASS
variable {σ : zSt} {a n : Nat} {pl ad : Nat → Nat} {qu : Nat → Nat → Nat} {g : zG}
theorem c_in (h : zC0 σ a pl ad qu n g) {i : Nat} (hi : i < n) : f_X2_stationIn σ a (n32 i) = some (some (pl i)) := c_stationIn h.1 h.2.1 (c_n8 h) (c_L h).1 hi
theorem c_lowest (h : zCs σ a pl ad qu n g) (b : Bool) :
    (f_X8_lowest σ a (bi b) = some none ∧ ∀ x, x < 32 → s_pick g b x = false) ∨ ∃ i, i < n ∧ s_pick g b (ad i) = true ∧ (∀ y, y < ad i → s_pick g b y = false) ∧ f_X8_lowest σ a (bi b) = some (some (pl i)) := by
  have h0 := zC0_of h
  have hn := c_n8 h0
  have hRA := h.2.2.1.2.2.2.2.2.1
  obtain ⟨r, hr, hr2⟩ := zloop_inv (N := zN) (s := (0 : Int32)) (body := fun (t : Int32) => b_X8_lowest_2 σ a (bi b) t) (Inv := fun k s => s = n32 k ∧ ∀ j, j < k → s_pick g b (ad j) = false)
    (Post := fun r => (r = none ∧ ∀ j, j < n → s_pick g b (ad j) = false) ∨ ∃ i, i < n ∧ s_pick g b (ad i) = true ∧ (∀ j, j < i → s_pick g b (ad j) = false) ∧ r = some (pl i)) n (fun k s hk hi => by
      obtain ⟨rfl, hi⟩ := hi
      by_cases hkn : k = n
      · subst hkn
        refine Or.inl ⟨none, ?_, Or.inl ⟨rfl, hi⟩⟩
        simp (disch := omega) only [b_X8_lowest_2, ↓zl_eq, ↓zb_eq, ↓zb2_eq, ↓zc_some, ↓zc_none, ↓zb_pre, ↓zb2_pre, ↓zc_pre, ↓zex_eq, ↓reduceIte, Option.isSome_some, Option.isSome_none, Option.getD_some, h0.1.1, (c_L h0).1, n32_le, Nat.le_refl]
      · have hk2 : k < n := by omega
        have hk3 := c_ad h0 hk2
        have S := c_S h0 hk2
        have st := h.2.2.2.2 (ad k) hk3.1 hk3.2
        have e5 := (c_L h0).1
        have T : ∀ r, s_pick g b (ad k) = r → (b_X8_lowest_2 σ a (bi b) (n32 k)) = if r = true then some (.inr (some (pl k))) else some (.inl (n32 (k + 1))) := by
          intro r hr
          subst hr
          simp (disch := omega) only [b_X8_lowest_2, f_X8_lowest_40, f_X8_lowest_38, ↓zl_eq, ↓zb_eq, ↓zb2_eq, ↓zc_some, ↓zc_none, ↓zb_pre, ↓zb2_pre, ↓zc_pre, ↓zex_eq, ↓reduceIte, Option.isSome_some, Option.isSome_none, Option.getD_some, n32_lit, h0.1.1, e5, n32_le, c_in h0 hk2, c_ob h0 hk2, S.2.1, S.2.2.1, bi_0n, n32_add]
          rw [if_neg (by omega)]
          unfold s_pick s_ring s_isOn
          rw [hk3.2]
          rcases st.1 with ho | ho
          · rw [ho]
            cases b <;> simp [n10]
            all_goals exact fun hz => absurd hz (by decide)
          · rw [ho]
            rcases st.2.1 with hq | hq
            · rw [hq]
              cases b
              · simp only [n10, if_true, if_false, Bool.false_eq_true, decide_true, Bool.and_self]
              · simp only [n10, if_true, if_false, Bool.true_eq_false, decide_true, Bool.and_self, Bool.true_and, decide_eq_true_eq]
                rw [if_neg (by decide)]
            · rw [hq]
              cases b <;> simp only [n10, if_true, if_false, Bool.false_eq_true, decide_true, Bool.and_self]
        by_cases hp : s_pick g b (ad k) = true
        · exact Or.inl ⟨some (pl k), (T true hp), Or.inr ⟨k, hk2, hp, hi, rfl⟩⟩
        · have hpf : s_pick g b (ad k) = false := by simpa using hp
          refine Or.inr ⟨hk2, n32 (k + 1), (T false hpf), rfl, fun j hj => ?_⟩
          by_cases hjk : j = k
          · subst hjk; exact hpf
          · exact hi j (by omega)) (by unfold zN; omega) ⟨rfl, fun j hj => by omega⟩
  have hf : f_X8_lowest σ a (bi b) = some r := hr
  rcases hr2 with ⟨rfl, hn2⟩ | ⟨i, hi, hp, hlt, rfl⟩
  · refine Or.inl ⟨hf, fun x hx => ?_⟩
    cases hpx : s_pick g b x with
    | false => rfl
    | true =>
      rcases hRA.2.2.2 x hx with h0' | ⟨_, i, hi, rfl⟩
      · rw [s_pick_is hpx] at h0'; exact absurd h0' (by decide)
      · rw [hn2 i hi] at hpx; cases hpx
  · refine Or.inr ⟨i, hi, hp, fun y hy => ?_, hf⟩
    have hai := c_ad h0 hi
    cases hpx : s_pick g b y with
    | false => rfl
    | true =>
      rcases hRA.2.2.2 y (by omega) with h0' | ⟨_, j, hj, rfl⟩
      · rw [s_pick_is hpx] at h0'; exact absurd h0' (by decide)
      · have hji : j < i := by
          rcases Nat.lt_or_ge j i with hlt' | hge
          · exact hlt'
          · rcases Nat.lt_or_ge i j with h1 | h1
            · have := hRA.2.2.1 i j h1 hj; omega
            · have : i = j := by omega
              subst this; omega
        rw [hlt j hji] at hpx; cases hpx
theorem s_sta_tok {x : Nat} (H : s_sta g) (hx : x < 32) (hon : g (18 + 7 * x + 1) = n32 1) : s_sta (s_tok g x) := by
  intro y hy h0
  unfold s_tok at h0 ⊢
  by_cases hr : s_ring g x = true
  · simp only [hr, if_true] at h0 ⊢
    simp (disch := omega) only [gu_ne] at h0 ⊢
    exact H y hy h0
  · simp only [hr, if_false, Bool.false_eq_true] at h0 ⊢
    simp (disch := omega) only [gu_ne] at h0
    have := H y hy h0
    by_cases hyx : y = x
    · subst hyx
      simp (disch := omega) only [gu_ne, gu_same]
      exact ⟨this.1, Or.inr trivial, fun _ => hon, ⟨y, hy, rfl⟩, this.2.2.2.2⟩
    · simp (disch := omega) only [gu_ne]
      exact this
theorem c_anew16 (h : zCs σ a pl ad qu n g) {i : Nat} (hi : i < n) (hon : g (18 + 7 * ad i + 1) = n32 1) :
    ∃ σ', f_X8_makeAnew_16 σ a (some (pl i)) = some (some (pl i), σ') ∧ zAn σ σ' a pl ad qu n (s_tok g (ad i)) := by
  have h0 := zC0_of h
  have hai := c_ad h0 hi
  have S := c_S h0 hi
  have st := h.2.2.2.2 (ad i) hai.1 hai.2
  have e9 := (c_L h0).2.2.2.2.1
  have e7 := (c_L h0).2.2.1
  have hL := h0.1
  have A1 := c_time h0 (g 3 + g 1 * n32 (6 + 2 * ad i))
  generalize hσ1 : z_pI σ a 9 (g 3 + g 1 * n32 (6 + 2 * ad i)) = σ1 at A1
  have h1 := zC0_step h0 A1
  have S1 := c_S h1 hi
  have fin : ∀ (σ2 : zSt) (g2 : zG), zC0 σ2 a pl ad qu n g2 → g2 12 = g 12 → ∃ σ', f_X8_makeAnew_65 σ2 a (pl i) = some (some (pl i), σ') ∧ zAn σ2 σ' a pl ad qu n (gu (gu g2 4 (n32 (ad i))) 12 (g 12 + n32 1)) := by
    intro σ2 g2 h2 e12
    have A3 := c_hold h2 (n32 (ad i))
    generalize hσ3 : z_pI σ2 a 10 (n32 (ad i)) = σ3 at A3
    have h3 := zC0_step h2 A3
    have c3 : z_I σ3 (a + 8) 3 = g 12 := by rw [c_C h3 (by decide), gu_ne _ _ (by decide)]; exact e12
    refine ⟨_, ?_, zAn_t A3 (c_cnt h3 (i := 3) (by decide) (g 12 + n32 1))⟩
    have hL3 := h3.1
    simp only [f_X8_makeAnew_65, ↓zl_eq, ↓zb_eq, ↓zb2_eq, ↓zc_some, ↓zc_none, ↓zb_pre, ↓zb2_pre, ↓zc_pre, ↓zex_eq, ↓reduceIte, Option.isSome_some, Option.isSome_none, Option.getD_some, n32_lit, c_ob h2 hi, h2.1.1, (c_S h2 hi).1, hσ3, hL.1, hL.2.1, hL.2.2.1, hL.2.2.2.1, hL.2.2.2.2.1, hL.2.2.2.2.2.1, hL.2.2.2.2.2.2.1, hL.2.2.2.2.2.2.2.1, hL.2.2.2.2.2.2.2.2.1, hL.2.2.2.2.2.2.2.2.2.1, hL.2.2.2.2.2.2.2.2.2.2.1, hL.2.2.2.2.2.2.2.2.2.2.2.1, hL.2.2.2.2.2.2.2.2.2.2.2.2.1, hL.2.2.2.2.2.2.2.2.2.2.2.2.2.1, hL.2.2.2.2.2.2.2.2.2.2.2.2.2.2.1, hL.2.2.2.2.2.2.2.2.2.2.2.2.2.2.2.1, hL.2.2.2.2.2.2.2.2.2.2.2.2.2.2.2.2.1, hL.2.2.2.2.2.2.2.2.2.2.2.2.2.2.2.2.2.1, hL.2.2.2.2.2.2.2.2.2.2.2.2.2.2.2.2.2.2.1, hL.2.2.2.2.2.2.2.2.2.2.2.2.2.2.2.2.2.2.2.1, hL.2.2.2.2.2.2.2.2.2.2.2.2.2.2.2.2.2.2.2.2.1, hL.2.2.2.2.2.2.2.2.2.2.2.2.2.2.2.2.2.2.2.2.2.1, hL.2.2.2.2.2.2.2.2.2.2.2.2.2.2.2.2.2.2.2.2.2.2.1, hL.2.2.2.2.2.2.2.2.2.2.2.2.2.2.2.2.2.2.2.2.2.2.2.1, hL.2.2.2.2.2.2.2.2.2.2.2.2.2.2.2.2.2.2.2.2.2.2.2.2.1, hL.2.2.2.2.2.2.2.2.2.2.2.2.2.2.2.2.2.2.2.2.2.2.2.2.2, hL3.1, hL3.2.2.2.2.1, hL3.2.2.2.2.2.2.2.2.2.2.2.2.2.2.2.2.2.2.2.2.2.1, c3]
  have r1 : z_I σ1 (pl i) 2 = g (18 + 7 * ad i + 2) := by rw [S1.2.2.1, gu_ne _ _ (by omega)]
  have e12 : gu g 3 (g 3 + g 1 * n32 (6 + 2 * ad i)) 12 = g 12 := gu_ne _ _ (by decide)
  rcases st.2.1 with hr | hr
  · have hrf : ¬ s_ring g (ad i) = true := by
      simp only [s_ring, hr, Bool.and_eq_true, decide_eq_true_eq, not_and]; intro _; decide
    have A2 := c_sta h1 hi (f := 2) (w := 2) (by unfold s_fw; omega) (n32 1)
    generalize hσ2 : z_pI σ1 (pl i) 2 (n32 1) = σ2 at A2
    have h2 := zC0_step h1 A2
    have A3 := c_sta h2 hi (f := 3) (w := 3) (by unfold s_fw; omega) (n32 (ad i))
    generalize hσ3 : z_pI σ2 (pl i) 3 (n32 (ad i)) = σ3 at A3
    have h3 := zC0_step h2 A3
    obtain ⟨σ', E, A⟩ := fin σ3 _ h3 (by simp (disch := omega) only [gu_ne])
    refine ⟨σ', ?_, ?_⟩
    · simp only [f_X8_makeAnew_16, ↓zl_eq, ↓zb_eq, ↓zb2_eq, ↓zc_some, ↓zc_none, ↓zb_pre, ↓zb2_pre, ↓zc_pre, ↓zex_eq, ↓reduceIte, Option.isSome_some, Option.isSome_none, Option.getD_some, n32_lit, h0.1.1, c_ob h0 hi, e9, e7, S.1, n32_mul, n32_add, hσ1, c_ob h1 hi, r1, hr, hσ2, c_ob h2 hi, (c_S h2 hi).1, hσ3, E]
    · have et : s_tok g (ad i) = gu (gu (gu (gu (gu g 3 (g 3 + g 1 * n32 (6 + 2 * ad i))) (18 + 7 * ad i + 2) (n32 1)) (18 + 7 * ad i + 3) (n32 (ad i))) 4 (n32 (ad i))) 12 (g 12 + n32 1) := by
        unfold s_tok; simp only [hrf, if_false, Bool.false_eq_true]
      rw [et]
      exact zAn_t A1 (zAn_t A2 (zAn_t A3 A))
  · have hrt : s_ring g (ad i) = true := by simp only [s_ring, hr, hon, hai.2, decide_true, Bool.and_self]
    obtain ⟨σ', E, A⟩ := fin σ1 _ h1 e12
    refine ⟨σ', ?_, ?_⟩
    · simp only [f_X8_makeAnew_16, ↓zl_eq, ↓zb_eq, ↓zb2_eq, ↓zc_some, ↓zc_none, ↓zb_pre, ↓zb2_pre, ↓zc_pre, ↓zex_eq, ↓reduceIte, Option.isSome_some, Option.isSome_none, Option.getD_some, n32_lit, h0.1.1, c_ob h0 hi, e9, e7, S.1, n32_mul, n32_add, hσ1, c_ob h1 hi, r1, hr, n10, E]
    · have et : s_tok g (ad i) = gu (gu (gu g 3 (g 3 + g 1 * n32 (6 + 2 * ad i))) 4 (n32 (ad i))) 12 (g 12 + n32 1) := by
        unfold s_tok; simp only [hrt, if_true]
      rw [et]
      exact zAn_t A1 A
theorem c_anew (h : zCs σ a pl ad qu n g) :
    (s_h2 g = nn ∧ f_X8_makeAnew σ a = some (none, σ)) ∨ ∃ i σ', i < n ∧ s_h2 g = n32 (ad i) ∧ g (18 + 7 * ad i + 1) = n32 1 ∧ f_X8_makeAnew σ a = some (some (pl i), σ') ∧ zAn σ σ' a pl ad qu n (s_tok g (ad i)) := by
  have h0 := zC0_of h
  have b1 : (1 : Int32) = bi true := rfl
  have b0 : (0 : Int32) = bi false := rfl
  rcases c_lowest h true with ⟨E, hno⟩ | ⟨i, hi, hp, hlt, E⟩
  · rcases c_lowest h false with ⟨E2, hno2⟩ | ⟨i, hi, hp, hlt, E2⟩
    · refine Or.inl ⟨?_, ?_⟩
      · unfold s_h2 s_h1
        rw [s_low_no (P := s_ring g) (fun x hx => hno x hx) 32 (Nat.le_refl _), s_low_no (P := s_isOn g) (fun x hx => hno2 x hx) 32 (Nat.le_refl _)]
      · simp only [f_X8_makeAnew, f_X8_makeAnew_16, ↓zl_eq, ↓zb_eq, ↓zb2_eq, ↓zc_some, ↓zc_none, ↓zb_pre, ↓zb2_pre, ↓zc_pre, ↓zex_eq, ↓reduceIte, Option.isSome_some, Option.isSome_none, Option.getD_some, Bool.false_eq_true, b1, b0, E, E2]
    · have hai := c_ad h0 hi
      have hon : g (18 + 7 * ad i + 1) = n32 1 := by
        simp only [s_pick, Bool.false_eq_true, if_false, s_isOn, Bool.and_eq_true, decide_eq_true_eq] at hp; exact hp.2
      obtain ⟨σ', E3, A⟩ := c_anew16 h hi hon
      refine Or.inr ⟨i, σ', hi, ?_, hon, ?_, A⟩
      · unfold s_h2 s_h1
        rw [s_low_no (P := s_ring g) (fun x hx => hno x hx) 32 (Nat.le_refl _)]
        exact s_low_yes hai.1 hp hlt 32 (by omega) (Nat.le_refl _)
      · simp only [f_X8_makeAnew, ↓zl_eq, ↓zb_eq, ↓zb2_eq, ↓zc_some, ↓zc_none, ↓zb_pre, ↓zb2_pre, ↓zc_pre, ↓zex_eq, ↓reduceIte, Option.isSome_some, Option.isSome_none, Option.getD_some, Bool.false_eq_true, b1, b0, E, E2, E3]
  · have hai := c_ad h0 hi
    have hon : g (18 + 7 * ad i + 1) = n32 1 := by
      simp only [s_pick, if_true, s_ring, Bool.and_eq_true, decide_eq_true_eq] at hp; exact hp.1.2
    obtain ⟨σ', E3, A⟩ := c_anew16 h hi hon
    refine Or.inr ⟨i, σ', hi, ?_, hon, ?_, A⟩
    · unfold s_h2
      exact s_low_yes hai.1 hp hlt 32 (by omega) (Nat.le_refl _)
    · simp only [f_X8_makeAnew, ↓zl_eq, ↓zb_eq, ↓zb2_eq, ↓zc_some, ↓zc_none, ↓zb_pre, ↓zb2_pre, ↓zc_pre, ↓zex_eq, ↓reduceIte, Option.isSome_some, Option.isSome_none, Option.getD_some, b1, E, E3]
end CLASS
end
section
/-! QUEUES -/
theorem s_prec_i {g : zG} {m m' : Nat} : s_prec g m m' ↔ ((g (242 + 5 * m' + 1)).toInt < (g (242 + 5 * m + 1)).toInt ∨ ((g (242 + 5 * m + 1)).toInt = (g (242 + 5 * m' + 1)).toInt ∧ m < m')) := by
  unfold s_prec
  rw [Int32.lt_iff_toInt_lt, Int32.toInt_inj]
theorem s_nx_min (g : zG) (x b : Int32) : ∀ k, k < 2147483648 →
    (s_nx g x b k = nn ∧ ∀ m, m < k → (s_wt g x m && s_bh g b m) = false) ∨ ∃ c, c < k ∧ s_nx g x b k = n32 c ∧ (s_wt g x c && s_bh g b c) = true ∧ ∀ m, m < k → (s_wt g x m && s_bh g b m) = true → m = c ∨ s_prec g c m := by
  intro k
  induction k with
  | zero => intro _; exact Or.inl ⟨rfl, fun m hm => by omega⟩
  | succ k ih =>
    intro hk
    have e : s_nx g x b (k + 1) = if (s_wt g x k && s_bh g b k && (decide (s_nx g x b k = nn) || decide (g (242 + 5 * (s_nx g x b k).toNatClampNeg + 1) < g (242 + 5 * k + 1)))) = true then n32 k else s_nx g x b k := rfl
    cases hc : (s_wt g x k && s_bh g b k) with
    | false =>
      rw [hc] at e
      simp only [Bool.false_and, Bool.false_eq_true, if_false] at e
      rw [e]
      rcases ih (by omega) with ⟨h1, h2⟩ | ⟨c, h1, h2, h3, h4⟩
      · refine Or.inl ⟨h1, fun m hm => ?_⟩
        by_cases hmk : m = k
        · subst hmk; exact hc
        · exact h2 m (by omega)
      · refine Or.inr ⟨c, by omega, h2, h3, fun m hm hw => ?_⟩
        by_cases hmk : m = k
        · subst hmk; rw [hc] at hw; cases hw
        · exact h4 m (by omega) hw
    | true =>
      rw [hc] at e
      rcases ih (by omega) with ⟨h1, h2⟩ | ⟨c, h1, h2, h3, h4⟩
      · rw [h1] at e
        simp only [decide_true, Bool.true_or, Bool.and_self, if_true] at e
        refine Or.inr ⟨k, by omega, e, hc, fun m hm hw => ?_⟩
        by_cases hmk : m = k
        · exact Or.inl hmk
        · rw [h2 m (by omega)] at hw; cases hw
      · rw [h2, n32_toNat (by omega)] at e
        have hn : (n32 c = nn) = False := propext (n32_ne (by omega))
        simp only [hn, decide_false, Bool.false_or, Bool.true_and, decide_eq_true_eq] at e
        by_cases hlt : g (242 + 5 * c + 1) < g (242 + 5 * k + 1)
        · rw [if_pos hlt] at e
          refine Or.inr ⟨k, by omega, e, hc, fun m hm hw => ?_⟩
          by_cases hmk : m = k
          · exact Or.inl hmk
          · right
            rw [Int32.lt_iff_toInt_lt] at hlt
            rw [s_prec_i]
            rcases h4 m (by omega) hw with hmc | hp
            · subst hmc; exact Or.inl hlt
            · rw [s_prec_i] at hp; left; omega
        · rw [if_neg hlt] at e
          refine Or.inr ⟨c, by omega, e, h3, fun m hm hw => ?_⟩
          by_cases hmk : m = k
          · subst hmk
            right
            rw [Int32.lt_iff_toInt_lt] at hlt
            rw [s_prec_i]
            omega
          · exact h4 m (by omega) hw
theorem s_prec_asym {g : zG} {m m' : Nat} (h : s_prec g m m') (h2 : s_prec g m' m) : False := by
  rw [s_prec_i] at h h2; omega
/-- the first of a queue -/
theorem s_next0 {g : zG} {x : Nat} {f : Nat → Nat} (hq : s_qok g x f) (h5 : s_nat g 5 ≤ 100) : s_next g (n32 x) nn = if 0 < s_len g x then n32 (f 0) else nn := by
  obtain ⟨q1, q2, q3⟩ := hq
  have bh : ∀ m, s_bh g nn m = true := s_bh_nn g
  have e : s_next g (n32 x) nn = s_nx g (n32 x) nn (s_nat g 5) := rfl
  rw [e]
  rcases s_nx_min g (n32 x) nn (s_nat g 5) (by omega) with ⟨h1, h2⟩ | ⟨c, h1, h2, h3, h4⟩
  · by_cases hl : 0 < s_len g x
    · have := h2 (f 0) (q1 0 hl).1
      rw [(q1 0 hl).2, bh] at this; cases this
    · rw [if_neg hl]; exact h1
  · rw [bh, Bool.and_true] at h3
    obtain ⟨j, hj, hjc⟩ := q3 c h1 h3
    have hl : 0 < s_len g x := by omega
    rw [if_pos hl, h2]
    congr 1
    rcases h4 (f 0) (q1 0 hl).1 (by rw [(q1 0 hl).2, bh]; rfl) with h | h
    · exact h.symm
    · rcases Nat.eq_zero_or_pos j with hj0 | hj0
      · subst hj0; exact hjc.symm
      · have := q2 0 j hj0 hj
        rw [hjc] at this
        exact (s_prec_asym this h).elim
/-- the next one of a queue -/
theorem s_next1 {g : zG} {x : Nat} {f : Nat → Nat} (hq : s_qok g x f) (h5 : s_nat g 5 ≤ 100) {j : Nat} (hj : j < s_len g x) : s_next g (n32 x) (n32 (f j)) = if j + 1 < s_len g x then n32 (f (j + 1)) else nn := by
  obtain ⟨q1, q2, q3⟩ := hq
  have hfj := (q1 j hj).1
  have bh : ∀ m, m < s_nat g 5 → (s_bh g (n32 (f j)) m = true ↔ s_prec g (f j) m) := by
    intro m hm
    rw [s_bh_n g (by omega) m (by omega)]
    unfold s_prec
    simp only [Bool.or_eq_true, Bool.and_eq_true, decide_eq_true_eq]
    constructor
    · rintro (h | h)
      · exact Or.inl h
      · exact Or.inr ⟨h.1.symm, h.2⟩
    · rintro (h | h)
      · exact Or.inl h
      · exact Or.inr ⟨h.1.symm, h.2⟩
  have e : s_next g (n32 x) (n32 (f j)) = s_nx g (n32 x) (n32 (f j)) (s_nat g 5) := rfl
  rw [e]
  rcases s_nx_min g (n32 x) (n32 (f j)) (s_nat g 5) (by omega) with ⟨h1, h2⟩ | ⟨c, h1, h2, h3, h4⟩
  · by_cases hl : j + 1 < s_len g x
    · have h6 := h2 (f (j + 1)) (q1 _ hl).1
      have h7 := (bh (f (j + 1)) (q1 _ hl).1).2 (q2 j (j + 1) (by omega) hl)
      rw [(q1 _ hl).2, h7] at h6; cases h6
    · rw [if_neg hl]; exact h1
  · simp only [Bool.and_eq_true] at h3 h4
    obtain ⟨i, hi, hic⟩ := q3 c h1 h3.1
    have hpc := (bh c h1).1 h3.2
    have hij : j < i := by
      rcases Nat.lt_or_ge j i with h | h
      · exact h
      · rcases Nat.eq_or_lt_of_le h with h' | h'
        · subst h'; rw [hic] at hpc; rw [s_prec_i] at hpc; omega
        · have := q2 i j h' hj
          rw [hic] at this
          exact (s_prec_asym this hpc).elim
    have hl : j + 1 < s_len g x := by omega
    rw [if_pos hl, h2]
    congr 1
    rcases h4 (f (j + 1)) (q1 _ hl).1 ⟨(q1 _ hl).2, (bh _ (q1 _ hl).1).2 (q2 j (j + 1) (by omega) hl)⟩ with h | h
    · exact h.symm
    · rcases Nat.eq_or_lt_of_le (show j + 1 ≤ i by omega) with h' | h'
      · subst h'; exact hic.symm
      · have := q2 (j + 1) i h' hi
        rw [hic] at this
        exact (s_prec_asym this h).elim
theorem s_cnt_upd {P P' : Nat → Bool} {m : Nat} (hP : P m = true) (hP' : P' m = false) (he : ∀ k, k ≠ m → P' k = P k) : ∀ k, (k ≤ m → s_cnt P' k = s_cnt P k) ∧ (m < k → s_cnt P' k + 1 = s_cnt P k)
  | 0 => ⟨fun _ => rfl, fun h => by omega⟩
  | k + 1 => by
    obtain ⟨h1, h2⟩ := s_cnt_upd hP hP' he k
    have e1 : s_cnt P' (k + 1) = s_cnt P' k + (if P' k = true then 1 else 0) := rfl
    have e2 : s_cnt P (k + 1) = s_cnt P k + (if P k = true then 1 else 0) := rfl
    refine ⟨fun h => ?_, fun h => ?_⟩
    · rw [e1, e2, h1 (by omega), he k (by omega)]
    · rw [e1, e2]
      by_cases hk : k = m
      · subst hk
        rw [hP, hP', h1 (Nat.le_refl _)]
        simp
      · rw [he k hk]
        have := h2 (by omega)
        omega
/-- the array behind a message's wait -/
def s_wset (g : zG) (m : Nat) (v : Int32) : zG := gu g (242 + 5 * m + 4) v
theorem s_wset_wt {g : zG} {m : Nat} {v x : Int32} (hv : v ≠ nn) (k : Nat) : s_wt (s_wset g m v) x k = if k = m then false else s_wt g x k := by
  unfold s_wt s_wset
  by_cases hk : k = m
  · subst hk
    rw [if_pos rfl, gu_same]
    have : (v = nn) = False := eq_false hv
    simp only [this, decide_false, Bool.and_false]
  · rw [if_neg hk, gu_ne _ _ (by omega), gu_ne _ _ (by omega)]
theorem s_wset_5 {g : zG} {m : Nat} {v : Int32} : s_nat (s_wset g m v) 5 = s_nat g 5 := by
  unfold s_nat s_wset; rw [gu_ne _ _ (by omega)]
theorem s_wset_prec {g : zG} {m : Nat} {v : Int32} (i j : Nat) : s_prec (s_wset g m v) i j ↔ s_prec g i j := by
  unfold s_prec s_wset
  rw [gu_ne _ _ (by omega), gu_ne _ _ (by omega)]
/-- a queue whose first one is sent -/
theorem s_qok_sent {g : zG} {x : Nat} {f : Nat → Nat} (hq : s_qok g x f) (hl : 0 < s_len g x) {v : Int32} (hv : v ≠ nn) :
    s_len (s_wset g (f 0) v) x + 1 = s_len g x ∧ s_qok (s_wset g (f 0) v) x (fun j => f (j + 1)) := by
  obtain ⟨q1, q2, q3⟩ := hq
  have el : s_len (s_wset g (f 0) v) x + 1 = s_len g x := by
    unfold s_len
    rw [s_wset_5]
    exact (s_cnt_upd (m := f 0) (q1 0 hl).2 (by rw [s_wset_wt hv, if_pos rfl]) (fun k hk => by rw [s_wset_wt hv, if_neg hk]) _).2 (q1 0 hl).1
  refine ⟨el, ?_, ?_, ?_⟩
  · intro j hj
    have h1 := q1 (j + 1) (by omega)
    rw [s_wset_5, s_wset_wt hv]
    refine ⟨h1.1, ?_⟩
    have h2 := q2 0 (j + 1) (by omega) (by omega)
    rw [if_neg]
    · exact h1.2
    · intro he
      have he' : f (j + 1) = f 0 := he
      rw [he', s_prec_i] at h2
      omega
  · intro i j hij hj
    rw [s_wset_prec]
    exact q2 (i + 1) (j + 1) (by omega) (by omega)
  · intro m hm hw
    rw [s_wset_5] at hm
    rw [s_wset_wt hv] at hw
    by_cases hm0 : m = f 0
    · rw [if_pos hm0] at hw; cases hw
    · rw [if_neg hm0] at hw
      obtain ⟨j, hj, hjm⟩ := q3 m hm hw
      rcases j with _ | j
      · exact absurd hjm.symm hm0
      · exact ⟨j, by omega, hjm⟩
theorem s_qok_other {g : zG} {x : Nat} {f : Nat → Nat} {m : Nat} {v : Int32} (hq : s_qok g x f) (hv : v ≠ nn) (hx : s_wt g (n32 x) m = false) :
    s_len (s_wset g m v) x = s_len g x ∧ s_qok (s_wset g m v) x f := by
  obtain ⟨q1, q2, q3⟩ := hq
  have ew : ∀ k, s_wt (s_wset g m v) (n32 x) k = s_wt g (n32 x) k := by
    intro k
    rw [s_wset_wt hv]
    by_cases hk : k = m
    · subst hk; rw [if_pos rfl, hx]
    · rw [if_neg hk]
  have el : s_len (s_wset g m v) x = s_len g x := by
    unfold s_len
    rw [s_wset_5]
    exact s_cnt_congr _ (fun k _ => ew k)
  refine ⟨el, ?_, ?_, ?_⟩
  · intro j hj
    rw [el] at hj
    rw [s_wset_5, ew]
    exact q1 j hj
  · intro i j hij hj
    rw [el] at hj
    rw [s_wset_prec]
    exact q2 i j hij hj
  · intro k hk hw
    rw [s_wset_5] at hk
    rw [ew] at hw
    rw [el]
    exact q3 k hk hw
theorem s_most_nn (g : zG) : ∀ k, 0 ≤ (s_most g k).toInt
  | 0 => by unfold s_most; rw [n32_toInt (by omega)]; omega
  | k + 1 => by
    have := s_most_nn g k
    unfold s_most
    split
    · exact this
    · rename_i h
      rw [Int32.le_iff_toInt_le] at h
      omega
theorem s_most_upd {g : zG} {m : Nat} (hm : g (242 + 5 * m + 4) = nn) (v : Int32) : ∀ k, (k ≤ m → s_most (s_wset g m v) k = s_most g k) ∧ (m < k → s_most (s_wset g m v) k = if s_most g k < v then v else s_most g k)
  | 0 => ⟨fun _ => rfl, fun h => by omega⟩
  | k + 1 => by
    obtain ⟨h1, h2⟩ := s_most_upd hm v k
    have n0 := s_most_nn g k
    have e1 : s_most (s_wset g m v) (k + 1) = if s_wset g m v (242 + 5 * k + 4) ≤ s_most (s_wset g m v) k then s_most (s_wset g m v) k else s_wset g m v (242 + 5 * k + 4) := rfl
    have e2 : s_most g (k + 1) = if g (242 + 5 * k + 4) ≤ s_most g k then s_most g k else g (242 + 5 * k + 4) := rfl
    refine ⟨fun h => ?_, fun h => ?_⟩
    · rw [e1, e2, h1 (by omega)]
      have : s_wset g m v (242 + 5 * k + 4) = g (242 + 5 * k + 4) := gu_ne _ _ (by omega)
      rw [this]
    · by_cases hk : k = m
      · subst hk
        have e3 : s_wset g k v (242 + 5 * k + 4) = v := gu_same _ _ _
        rw [e1, e2, h1 (Nat.le_refl _), e3, hm]
        have e4 : nn ≤ s_most g k := by
          rw [Int32.le_iff_toInt_le]
          have : nn.toInt = -1 := rfl
          omega
        rw [if_pos e4]
        by_cases hv : v ≤ s_most g k
        · rw [if_pos hv, if_neg (by rw [Int32.not_lt]; exact hv)]
        · rw [if_neg hv, if_pos (by rw [Int32.not_le] at hv; exact hv)]
      · have e3 : s_wset g m v (242 + 5 * k + 4) = g (242 + 5 * k + 4) := gu_ne _ _ (by omega)
        rw [e1, e2, h2 (by omega), e3]
        generalize g (242 + 5 * k + 4) = w
        generalize s_most g k = M
        simp only [Int32.le_iff_toInt_le, Int32.lt_iff_toInt_lt]
        by_cases c1 : M.toInt < v.toInt <;> by_cases c2 : w.toInt ≤ M.toInt <;> simp only [c1, c2, if_true, if_false]
        · rw [if_pos (by omega)]
        · by_cases c3 : w.toInt ≤ v.toInt
          · rw [if_pos c3]
            by_cases c4 : w.toInt < v.toInt
            · rw [if_pos c4]
            · rw [if_neg c4]
              have : v.toInt = w.toInt := by omega
              exact Int32.toInt_inj.1 this
          · rw [if_neg c3, if_neg (by omega)]
        · rw [if_neg (by omega)]
theorem s_sumw_upd {g : zG} {m : Nat} (hm : g (242 + 5 * m + 4) = nn) {v : Int32} (hv : v ≠ nn) : ∀ k, (k ≤ m → s_sumw (s_wset g m v) k = s_sumw g k) ∧ (m < k → s_sumw (s_wset g m v) k = s_sumw g k + v.toInt64)
  | 0 => ⟨fun _ => rfl, fun h => by omega⟩
  | k + 1 => by
    obtain ⟨h1, h2⟩ := s_sumw_upd hm hv k
    have e1 : s_sumw (s_wset g m v) (k + 1) = s_sumw (s_wset g m v) k + (if s_wset g m v (242 + 5 * k + 4) = nn then 0 else (s_wset g m v (242 + 5 * k + 4)).toInt64) := rfl
    have e2 : s_sumw g (k + 1) = s_sumw g k + (if g (242 + 5 * k + 4) = nn then 0 else (g (242 + 5 * k + 4)).toInt64) := rfl
    refine ⟨fun h => ?_, fun h => ?_⟩
    · have e3 : s_wset g m v (242 + 5 * k + 4) = g (242 + 5 * k + 4) := gu_ne _ _ (by omega)
      rw [e1, e2, h1 (by omega), e3]
    · by_cases hk : k = m
      · subst hk
        have e3 : s_wset g k v (242 + 5 * k + 4) = v := gu_same _ _ _
        rw [e1, e2, h1 (Nat.le_refl _), e3, hm, if_neg hv, if_pos rfl, Int64.add_zero]
      · have e3 : s_wset g m v (242 + 5 * k + 4) = g (242 + 5 * k + 4) := gu_ne _ _ (by omega)
        rw [e1, e2, h2 (by omega), e3]
        rw [Int64.add_assoc, Int64.add_assoc, Int64.add_comm v.toInt64]
end
section
/-- the queues behind a sending -/
def s_tl (qu : Nat → Nat → Nat) (x : Nat) : Nat → Nat → Nat := fun y => if y = x then fun j => qu x (j + 1) else qu y
section CLASS
variable {σ σ' : zSt} {a n : Nat} {pl ad : Nat → Nat} {qu : Nat → Nat → Nat} {g : zG}
theorem zRep_sent (h : zC0 σ a pl ad qu n g) (h5 : s_nat g 5 ≤ 100) {i : Nat} (hi : i < n) (hl : 0 < s_len g (ad i)) {v : Int32} (hv : v ≠ nn) (L : Int32) {fo : Int32}
    (hfo : fo = z_I σ (a + 4) (6 * qu (ad i) 0 + 5))
    (h4 : z_I σ' (a + 4) = gu (z_I σ (a + 4)) (6 * qu (ad i) 0 + 4) v)
    (hp : z_I σ' (pl i) = gu (gu (z_I σ (pl i)) 5 fo) 6 (z_I σ (pl i) 6 - n32 1))
    (h8 : z_I σ' (a + 8) = gu (gu (gu (z_I σ (a + 8)) 1 (g 10 + n32 1)) 6 (g 15 + L)) 8 (if z_I σ (a + 8) 8 < v then v else z_I σ (a + 8) 8))
    (hJ : z_J σ' (a + 8) 9 = z_J σ (a + 8) 9 + v.toInt64)
    (ho : ∀ q, q ≠ a + 4 → q ≠ pl i → q ≠ a + 8 → z_I σ' q = z_I σ q) :
    zRep σ' a pl ad (s_tl qu (ad i)) n (gu (gu (s_wset g (qu (ad i) 0) v) 10 (g 10 + n32 1)) 15 (g 15 + L)) := by
  have hn := c_n8 h
  have hpi := (h.2.1.1 i (by omega)).2.2
  have hai := c_ad h hi
  obtain ⟨hRL, hRW, hRM, hRN, hRC, hRA, hRS, hRQ⟩ := h.2.2
  obtain ⟨Q1, Q2, Q3, Q4⟩ := hRQ i hi
  have hm := (Q4.1 0 hl).1
  have hw0 := (Q4.1 0 hl).2
  have hwait : g (242 + 5 * qu (ad i) 0 + 4) = nn := by
    simp only [s_wt, Bool.and_eq_true, decide_eq_true_eq] at hw0; exact hw0.2
  have hwho : g (242 + 5 * qu (ad i) 0 + 2) = n32 (ad i) := by
    simp only [s_wt, Bool.and_eq_true, decide_eq_true_eq] at hw0; exact hw0.1
  generalize hmm : qu (ad i) 0 = m at *
  have G : ∀ j, j ≠ 15 → j ≠ 10 → j ≠ 242 + 5 * m + 4 → gu (gu (s_wset g m v) 10 (g 10 + n32 1)) 15 (g 15 + L) j = g j := fun j a b c => by
    rw [gu_ne _ _ a, gu_ne _ _ b]; unfold s_wset; rw [gu_ne _ _ c]
  have MS : sMs (s_wset g m v) (gu (gu (s_wset g m v) 10 (g 10 + n32 1)) 15 (g 15 + L)) := ⟨by rw [gu_ne _ _ (by decide), gu_ne _ _ (by decide)], fun k w _ _ => by rw [gu_ne _ _ (by omega), gu_ne _ _ (by omega)]⟩
  have e5 : s_nat (gu (gu (s_wset g m v) 10 (g 10 + n32 1)) 15 (g 15 + L)) 5 = s_nat g 5 := by unfold s_nat; rw [G _ (by omega) (by omega) (by omega)]
  refine ⟨?_, ?_, ?_, ?_, ?_, ?_, ?_, ?_⟩
  · unfold qL
    rw [ho a (by omega) (by omega) (by omega), G _ (by omega) (by omega) (by omega), G _ (by omega) (by omega) (by omega), G _ (by omega) (by omega) (by omega), G _ (by omega) (by omega) (by omega), G _ (by omega) (by omega) (by omega)]
    exact hRL
  · unfold qW
    rw [ho _ (by omega) (by omega) (by omega), ho _ (by omega) (by omega) (by omega)]
    exact hRW
  · refine ⟨by rw [ho _ (by omega) (by omega) (by omega), G _ (by omega) (by omega) (by omega)]; exact hRM.1, fun k w hk hw => ?_⟩
    rw [e5] at hk
    rw [h4, gu_ne _ _ (show 242 + 5 * k + w ≠ 15 by omega), gu_ne _ _ (show 242 + 5 * k + w ≠ 10 by omega)]
    unfold s_wset
    by_cases hkm : 6 * k + w = 6 * m + 4
    · have : k = m ∧ w = 4 := by omega
      obtain ⟨rfl, rfl⟩ := this
      rw [gu_same, gu_same]
    · rw [gu_ne _ _ hkm, gu_ne _ _ (by omega)]
      exact hRM.2 k w hk hw
  · exact qN_congr (ho _ (by omega) (by omega) (by omega)) (ho _ (by omega) (by omega) (by omega)) (ho _ (by omega) (by omega) (by omega)) (G _ (by omega) (by omega) (by omega)) (fun k _ => G _ (by omega) (by omega) (by omega)) hRN
  · refine ⟨fun k hk => ?_, ?_, ?_, ?_⟩
    · rw [h8, gu_ne _ _ (show k ≠ 8 by omega)]
      by_cases k1 : k = 6
      · subst k1; rw [gu_same]; rw [show 9 + 6 = 15 from rfl, gu_same]
      · rw [gu_ne _ _ k1]
        by_cases k2 : k = 1
        · subst k2; rw [gu_same]; rw [show 9 + 1 = 10 from rfl, gu_ne _ _ (by decide), gu_same]
        · rw [gu_ne _ _ k2, G _ (by omega) (by omega) (by omega)]; exact hRC.1 k hk
    · rw [h8, gu_ne _ _ (by decide), gu_ne _ _ (by decide), gu_ne _ _ (by decide), G _ (by omega) (by omega) (by omega)]; exact hRC.2.1
    · rw [h8, gu_same, e5, s_most_congr _ (fun k hk => MS.2 k 4 (by rw [s_wset_5]; exact hk) (by decide)), (s_most_upd hwait v (s_nat g 5)).2 hm, hRC.2.2.1]
    · rw [hJ, e5, s_sumw_congr _ (fun k hk => MS.2 k 4 (by rw [s_wset_5]; exact hk) (by decide)), (s_sumw_upd hwait hv (s_nat g 5)).2 hm, hRC.2.2.2]
  · exact qA_congr (fun x hx => G _ (by omega) (by omega) (by omega)) hRA
  · intro k hk
    have hk32 := (hRA.2.1 k hk).1
    have hpk := (h.2.1.1 k (by omega)).2.2
    have key := hRS k hk
    rw [G _ (by omega) (by omega) (by omega), G _ (by omega) (by omega) (by omega), G _ (by omega) (by omega) (by omega), G _ (by omega) (by omega) (by omega), G _ (by omega) (by omega) (by omega), G _ (by omega) (by omega) (by omega)]
    by_cases hki : k = i
    · subst hki
      rw [hp]
      simp (disch := omega) only [gu_ne]
      exact key
    · have hne : pl k ≠ pl i := fun he => hki (h.2.1.2 k i (by omega) (by omega) he)
      rw [ho _ (by omega) hne (by omega)]
      exact key
  · intro k hk
    have hk32 := (hRA.2.1 k hk).1
    have hpk := (h.2.1.1 k (by omega)).2.2
    obtain ⟨P1, P2, P3, P4⟩ := hRQ k hk
    rw [s_len_congr MS]
    by_cases hki : k = i
    · subst hki
      have hq := s_qok_sent Q4 hl (v := v) hv
      rw [hmm] at hq
      obtain ⟨el, eq⟩ := hq
      have et : s_tl qu (ad k) (ad k) = fun j => qu (ad k) (j + 1) := by unfold s_tl; rw [if_pos rfl]
      rw [et, hp]
      refine ⟨?_, ?_, ?_, s_qok_congr MS eq⟩
      · rw [gu_same, Q1, n32_sub (by omega)]
        congr 1; omega
      · rw [gu_ne _ _ (by decide), gu_same, hfo]
        have := Q3 0 hl
        rw [hmm] at this
        rw [this]
        by_cases c1 : 0 + 1 < s_len g (ad k)
        · rw [if_pos c1, if_pos (by omega)]
        · rw [if_neg c1, if_neg (by omega)]
      · intro j hj
        rw [h4, gu_ne _ _ (by omega), Q3 (j + 1) (by omega)]
        by_cases c1 : j + 1 + 1 < s_len g (ad k)
        · rw [if_pos c1, if_pos (by omega)]
        · rw [if_neg c1, if_neg (by omega)]
    · have hne : pl k ≠ pl i := fun he => hki (h.2.1.2 k i (by omega) (by omega) he)
      have hadn : ad k ≠ ad i := by
        rcases Nat.lt_or_ge k i with hlt | hge
        · have := hRA.2.2.1 k i hlt hi; omega
        · have := hRA.2.2.1 i k (by omega) hk; omega
      have hx : s_wt g (n32 (ad k)) m = false := by
        unfold s_wt
        rw [hwho]
        have : (n32 (ad i) = n32 (ad k)) = False := by rw [n32_eq (by omega) (by omega)]; exact eq_false (by omega)
        simp only [this, decide_false, Bool.false_and]
      obtain ⟨el, eq⟩ := s_qok_other P4 hv hx
      have et : s_tl qu (ad i) (ad k) = qu (ad k) := by unfold s_tl; rw [if_neg hadn]
      rw [et, el, ho _ (by omega) hne (by omega)]
      refine ⟨P1, P2, ?_, s_qok_congr MS eq⟩
      intro j hj
      rw [h4, gu_ne _ _ (by omega)]
      exact P3 j hj
/-- one sending -/
theorem c_sendFirst (h : zCs σ a pl ad qu n g) (h5 : s_nat g 5 ≤ 100) {i : Nat} (hi : i < n) (hl : 0 < s_len g (ad i)) (hv : g 3 - g (242 + 5 * qu (ad i) 0 + 3) ≠ nn) :
    ∃ σ', f_X8_sendFirst σ a (pl i) = some (bi (!s_spoilt g (qu (ad i) 0)), σ') ∧ zAn σ σ' a pl ad (if s_spoilt g (qu (ad i) 0) = true then qu else s_tl qu (ad i)) n (s_sends g (qu (ad i) 0)) := by
  have h0 := zC0_of h
  have hn := c_n8 h0
  have hL := h.1
  obtain ⟨hRL, hRW, hRM, hRN, hRC, hRA, hRS, hRQ⟩ := h.2.2.1
  obtain ⟨Q1, Q2, Q3, Q4⟩ := hRQ i hi
  have hm := (Q4.1 0 hl).1
  rw [if_pos hl] at Q2
  have hai := c_ad h0 hi
  have hpi := (h.2.1.1 i (by omega)).2.2
  have e9 := hRL.2.2.2.2.1
  have vL := hRM.2 (qu (ad i) 0) 0 hm (by decide)
  obtain ⟨σ1, E1, A1⟩ := c_trans h (g (242 + 5 * qu (ad i) 0 + 0))
  have hsp : s_loud g (g 3) (g 3 + g (242 + 5 * qu (ad i) 0 + 0) - n32 1) = s_spoilt g (qu (ad i) 0) := rfl
  rw [hsp] at E1
  have hval := c_value hL hRW.1 (m := qu (ad i) 0) (w := 0) (by omega) (by decide)
  rw [vL] at hval
  unfold s_sends
  cases hs : s_spoilt g (qu (ad i) 0) with
  | true =>
    rw [hs] at E1
    refine ⟨σ1, ?_, A1⟩
    simp only [f_X8_sendFirst, ↓zl_eq, ↓zb_eq, ↓zb2_eq, ↓zc_some, ↓zc_none, ↓zb_pre, ↓zb2_pre, ↓zc_pre, ↓zex_eq, ↓reduceIte, Option.isSome_some, Option.isSome_none, Option.getD_some, n32_lit, hL.1, hL.2.1, hL.2.2.1, hL.2.2.2.1, hL.2.2.2.2.1, hL.2.2.2.2.2.1, hL.2.2.2.2.2.2.1, hL.2.2.2.2.2.2.2.1, hL.2.2.2.2.2.2.2.2.1, hL.2.2.2.2.2.2.2.2.2.1, hL.2.2.2.2.2.2.2.2.2.2.1, hL.2.2.2.2.2.2.2.2.2.2.2.1, hL.2.2.2.2.2.2.2.2.2.2.2.2.1, hL.2.2.2.2.2.2.2.2.2.2.2.2.2.1, hL.2.2.2.2.2.2.2.2.2.2.2.2.2.2.1, hL.2.2.2.2.2.2.2.2.2.2.2.2.2.2.2.1, hL.2.2.2.2.2.2.2.2.2.2.2.2.2.2.2.2.1, hL.2.2.2.2.2.2.2.2.2.2.2.2.2.2.2.2.2.1, hL.2.2.2.2.2.2.2.2.2.2.2.2.2.2.2.2.2.2.1, hL.2.2.2.2.2.2.2.2.2.2.2.2.2.2.2.2.2.2.2.1, hL.2.2.2.2.2.2.2.2.2.2.2.2.2.2.2.2.2.2.2.2.1, hL.2.2.2.2.2.2.2.2.2.2.2.2.2.2.2.2.2.2.2.2.2.1, hL.2.2.2.2.2.2.2.2.2.2.2.2.2.2.2.2.2.2.2.2.2.2.1, hL.2.2.2.2.2.2.2.2.2.2.2.2.2.2.2.2.2.2.2.2.2.2.2.1, hL.2.2.2.2.2.2.2.2.2.2.2.2.2.2.2.2.2.2.2.2.2.2.2.2.1, hL.2.2.2.2.2.2.2.2.2.2.2.2.2.2.2.2.2.2.2.2.2.2.2.2.2, c_ob h0 hi, Q2, hval, e9, E1, bi_0n, Bool.not_true]
    rfl
  | false =>
    rw [hs] at E1
    have h1 := zC0_step h0 A1
    generalize hg1 : s_takes g (g (242 + 5 * qu (ad i) 0 + 0)) = g1 at *
    have tk : ∀ j, j ≠ 3 → j ≠ 11 → g1 j = g j := fun j a b => by rw [← hg1]; exact s_takes_ne _ _ a b
    have hms : sMs g g1 := ⟨tk _ (by decide) (by decide), fun m w _ _ => tk _ (by omega) (by omega)⟩
    have hl1 : s_len g1 (ad i) = s_len g (ad i) := s_len_congr hms _
    have h51 : s_nat g1 5 = s_nat g 5 := by unfold s_nat; rw [hms.1]
    have hRQ1 := h1.2.2.2.2.2.2.2.2.2 i hi
    rw [hl1, if_pos hl] at hRQ1
    have hRM1 := h1.2.2.2.2.1
    have w3 := hRM1.2 (qu (ad i) 0) 3 (by omega) (by decide)
    rw [tk _ (by omega) (by omega)] at w3
    have hL1 := h1.1
    have hRW1 := h1.2.2.2.1
    have hat := c_at hL1 hRW1.1 (m := qu (ad i) 0) (w := 3) (by omega) (by decide)
    rw [w3] at hat
    have hput := c_put hL1 hRW1.1 (m := qu (ad i) 0) (w := 4) (by omega) (by decide) (g 3 - g (242 + 5 * qu (ad i) 0 + 3))
    generalize hvv : g 3 - g (242 + 5 * qu (ad i) 0 + 3) = v at *
    have c1 : z_I σ1 (a + 8) 1 = g 10 := by rw [c_C h1 (by decide)]; exact tk _ (by decide) (by decide)
    have c6 : z_I σ1 (a + 8) 6 = g 15 := by rw [c_C h1 (by decide)]; exact tk _ (by decide) (by decide)
    have hfol := c_follower (σ := z_sA σ1 (a + 4) (gu (z_I σ1 (a + 4)) (6 * qu (ad i) 0 + 4) v)) (a := a) hL1 (by rw [z_I_sAn _ _ _ (by omega)]; exact hRW1.1) (m := qu (ad i) 0) (by omega)
    rw [z_I_sA, gu_ne _ _ (by omega)] at hfol
    have hob1 := c_ob h1 hi
    let fin : zSt := z_pI (z_pJ (z_pI (z_pI (z_pI (z_pI (z_sA σ1 (a + 4) (gu (z_I σ1 (a + 4)) (6 * qu (ad i) 0 + 4) v)) (pl i) 5 (z_I σ1 (a + 4) (6 * qu (ad i) 0 + 5))) (pl i) 6 (z_I σ1 (pl i) 6 - n32 1)) (a + 8) 1 (g 10 + n32 1)) (a + 8) 6 (g 15 + g (242 + 5 * qu (ad i) 0 + 0))) (a + 8) 9 (z_J σ1 (a + 8) 9 + v.toInt64)) (a + 8) 8 (if z_I σ1 (a + 8) 8 < v then v else z_I σ1 (a + 8) 8)
    have hfin : fin = z_pI (z_pJ (z_pI (z_pI (z_pI (z_pI (z_sA σ1 (a + 4) (gu (z_I σ1 (a + 4)) (6 * qu (ad i) 0 + 4) v)) (pl i) 5 (z_I σ1 (a + 4) (6 * qu (ad i) 0 + 5))) (pl i) 6 (z_I σ1 (pl i) 6 - n32 1)) (a + 8) 1 (g 10 + n32 1)) (a + 8) 6 (g 15 + g (242 + 5 * qu (ad i) 0 + 0))) (a + 8) 9 (z_J σ1 (a + 8) 9 + v.toInt64)) (a + 8) 8 (if z_I σ1 (a + 8) 8 < v then v else z_I σ1 (a + 8) 8) := rfl
    refine ⟨fin, ?_, zFr_t A1.1 ?_, Eq.trans ?_ A1.2.1, ?_⟩
    · rw [hfin]
      have d1 : z_I (z_sA σ1 (a + 4) (gu (z_I σ1 (a + 4)) (6 * qu (ad i) 0 + 4) v)) (pl i) = z_I σ1 (pl i) := z_I_sAn _ _ _ (by omega)
      have d2 : z_I (z_sA σ1 (a + 4) (gu (z_I σ1 (a + 4)) (6 * qu (ad i) 0 + 4) v)) (a + 8) = z_I σ1 (a + 8) := z_I_sAn _ _ _ (by omega)
      have p1 : (pl i = a + 8) = False := eq_false (by omega)
      have p2 : (a + 8 = pl i) = False := eq_false (by omega)
      simp only [f_X8_sendFirst, f_X3_takeFirst, f_X0_addSent, ↓zl_eq, ↓zb_eq, ↓zb2_eq, ↓zc_some, ↓zc_none, ↓zb_pre, ↓zb2_pre, ↓zc_pre, ↓zex_eq, ↓reduceIte, Option.isSome_some, Option.isSome_none, Option.getD_some, n32_lit, hL.1, hL.2.1, hL.2.2.1, hL.2.2.2.1, hL.2.2.2.2.1, hL.2.2.2.2.2.1, hL.2.2.2.2.2.2.1, hL.2.2.2.2.2.2.2.1, hL.2.2.2.2.2.2.2.2.1, hL.2.2.2.2.2.2.2.2.2.1, hL.2.2.2.2.2.2.2.2.2.2.1, hL.2.2.2.2.2.2.2.2.2.2.2.1, hL.2.2.2.2.2.2.2.2.2.2.2.2.1, hL.2.2.2.2.2.2.2.2.2.2.2.2.2.1, hL.2.2.2.2.2.2.2.2.2.2.2.2.2.2.1, hL.2.2.2.2.2.2.2.2.2.2.2.2.2.2.2.1, hL.2.2.2.2.2.2.2.2.2.2.2.2.2.2.2.2.1, hL.2.2.2.2.2.2.2.2.2.2.2.2.2.2.2.2.2.1, hL.2.2.2.2.2.2.2.2.2.2.2.2.2.2.2.2.2.2.1, hL.2.2.2.2.2.2.2.2.2.2.2.2.2.2.2.2.2.2.2.1, hL.2.2.2.2.2.2.2.2.2.2.2.2.2.2.2.2.2.2.2.2.1, hL.2.2.2.2.2.2.2.2.2.2.2.2.2.2.2.2.2.2.2.2.2.1, hL.2.2.2.2.2.2.2.2.2.2.2.2.2.2.2.2.2.2.2.2.2.2.1, hL.2.2.2.2.2.2.2.2.2.2.2.2.2.2.2.2.2.2.2.2.2.2.2.1, hL.2.2.2.2.2.2.2.2.2.2.2.2.2.2.2.2.2.2.2.2.2.2.2.2.1, hL.2.2.2.2.2.2.2.2.2.2.2.2.2.2.2.2.2.2.2.2.2.2.2.2.2, c_ob h0 hi, Q2, hval, e9, E1, bi_0n, Bool.not_false, Bool.true_eq_false, hL1.1, hL1.2.1, hL1.2.2.1, hL1.2.2.2.2.1, hL1.2.2.2.2.2.2.2.2.1, hL1.2.2.2.2.2.2.2.2.2.1, hL1.2.2.2.2.2.2.2.2.2.2.1, hL1.2.2.2.2.2.2.2.2.2.2.2.2.2.2.2.2.2.2.2.2.2.1, hob1, hRQ1.2.1, hat, hvv, hput, z_ob_sA, z_R_sA, z_ob_pI, z_R_pI, hfol, z_I_pI, d1, d2, p1, p2, false_and, and_self, true_and, z_J_pI, z_I_pJ, z_ob_pJ, c1, c6, z_J_sA, Nat.reduceEqDiff, and_false]
      rfl
    · rw [hfin]
      simp only [z_pI_eq]
      exact zFr_t (zFr_t (zFr_t (zFr_t (zFr_t (zFr_t (zFr_sA _ (by omega) (by omega) _) (zFr_sA _ (by omega) (by omega) _)) (zFr_sA _ (by omega) (by omega) _)) (zFr_sA _ (by omega) (by omega) _)) (zFr_sA _ (by omega) (by omega) _)) (zFr_pJ _ (by omega) (by omega) _ _)) (zFr_sA _ (by omega) (by omega) _)
    · rw [hfin]
      simp (disch := omega) only [z_pI_eq, z_I_sAn, z_I_pJ]
    · have R := zRep_sent (σ' := fin) h1 (by rw [h51]; exact h5) hi (by rw [hl1]; exact hl) hv (g (242 + 5 * qu (ad i) 0 + 0)) rfl (by rw [hfin]; simp (disch := omega) only [z_pI_eq, z_I_sA, z_I_sAn, z_I_pJ]) (by rw [hfin]; simp (disch := omega) only [z_pI_eq, z_I_sA, z_I_sAn, z_I_pJ]) (by rw [hfin, tk 10 (by decide) (by decide), tk 15 (by decide) (by decide)]; simp (disch := omega) only [z_pI_eq, z_I_sA, z_I_sAn, z_I_pJ]) (by rw [hfin]; simp only [z_J_pI, z_J_pJ, and_self, if_true]) (fun q q1 q2 q3 => by rw [hfin]; simp (disch := omega) only [z_pI_eq, z_I_sAn, z_I_pJ])
      rw [tk 10 (by decide) (by decide), tk 15 (by decide) (by decide)] at R
      have es : s_sent g g1 (qu (ad i) 0) = gu (gu (s_wset g1 (qu (ad i) 0) v) 10 (g 10 + n32 1)) 15 (g 15 + g (242 + 5 * qu (ad i) 0 + 0)) := by
        unfold s_sent s_wset; rw [hvv]
      simp only [Bool.false_eq_true, if_false]
      rw [es]
      exact R
end CLASS
end
section
/-- the time is a number, and what is said of messages by it -/
def s_mo (g : zG) : Prop := g 3 = n32 (s_nat g 3) ∧ ∀ m, m < s_nat g 5 → (∃ l, 1 ≤ l ∧ l ≤ 20 ∧ g (242 + 5 * m + 0) = n32 l) ∧ ∃ w, w ≤ s_nat g 3 ∧ g (242 + 5 * m + 3) = n32 w
theorem s_nat_n32 {g : zG} {j k : Nat} (h : g j = n32 k) (hk : k < 2147483648) : s_nat g j = k := by unfold s_nat; rw [h, n32_toNat hk]
theorem s_mo_t {g g' : zG} (H : s_mo g) {d : Nat} (h3 : g' 3 = n32 (s_nat g 3 + d)) (hb : s_nat g 3 + d < 2147483648) (h5 : g' 5 = g 5) (hm : ∀ m, m < s_nat g 5 → g' (242 + 5 * m + 0) = g (242 + 5 * m + 0) ∧ g' (242 + 5 * m + 3) = g (242 + 5 * m + 3)) : s_mo g' := by
  have e3 := s_nat_n32 h3 hb
  have e5 : s_nat g' 5 = s_nat g 5 := by unfold s_nat; rw [h5]
  refine ⟨by rw [e3]; exact h3, fun m hm' => ?_⟩
  rw [e5] at hm'
  obtain ⟨h1, w, h2, h4⟩ := H.2 m hm'
  rw [(hm m hm').1, (hm m hm').2, e3]
  exact ⟨h1, w, by omega, h4⟩
theorem s_sends_3 (g : zG) (m : Nat) : s_sends g m 3 = g 3 + g (242 + 5 * m + 0) := by
  unfold s_sends s_sent
  split
  · exact s_takes_3 _ _
  · rw [gu_ne _ _ (by decide), gu_ne _ _ (by decide), gu_ne _ _ (by omega), s_takes_3]
theorem s_mo_sends {g : zG} (H : s_mo g) {m : Nat} (hm : m < s_nat g 5) {B : Nat} (hb : s_nat g 3 + 20 ≤ B) (hB : B < 2147483648) : s_mo (s_sends g m) ∧ s_nat (s_sends g m) 3 ≤ s_nat g 3 + 20 ∧ s_nat (s_sends g m) 5 = s_nat g 5 := by
  obtain ⟨⟨l, h1, h2, h3⟩, _⟩ := H.2 m hm
  have e3 : s_sends g m 3 = n32 (s_nat g 3 + l) := by
    rw [s_sends_3, h3]
    conv => lhs; rw [H.1]
    rw [n32_add]
  have e5 : s_sends g m 5 = g 5 := s_sends_ne _ _ (by decide) (by decide) (by decide) (by decide) (by omega)
  refine ⟨s_mo_t H e3 (by omega) e5 (fun k _ => ⟨s_sends_ne _ _ (by omega) (by omega) (by omega) (by omega) (by omega), s_sends_ne _ _ (by omega) (by omega) (by omega) (by omega) (by omega)⟩), ?_, by unfold s_nat; rw [e5]⟩
  rw [s_nat_n32 e3 (by omega)]; omega
theorem s_sends_len {g : zG} {x : Nat} {f : Nat → Nat} (hq : s_qok g x f) (hl : 0 < s_len g x) (hv : g 3 - g (242 + 5 * f 0 + 3) ≠ nn) : (s_spoilt g (f 0) = true → s_len (s_sends g (f 0)) x = s_len g x) ∧ (s_spoilt g (f 0) = false → s_len (s_sends g (f 0)) x + 1 = s_len g x) := by
  constructor
  · intro hs
    unfold s_sends
    rw [if_pos hs]
    exact s_len_congr ⟨s_takes_ne _ _ (by decide) (by decide), fun m w _ _ => s_takes_ne _ _ (by omega) (by omega)⟩ x
  · intro hs
    unfold s_sends
    rw [if_neg (by simp [hs])]
    have hms : sMs (s_wset g (f 0) (g 3 - g (242 + 5 * f 0 + 3))) (s_sent g (s_takes g (g (242 + 5 * f 0 + 0))) (f 0)) := by
      unfold s_sent s_wset
      refine ⟨?_, fun m w _ _ => ?_⟩
      · rw [gu_ne _ _ (by decide), gu_ne _ _ (by decide), gu_ne _ _ (by omega), gu_ne _ _ (by omega), s_takes_ne _ _ (by decide) (by decide)]
      · rw [gu_ne _ _ (by omega), gu_ne _ _ (by omega)]
        unfold gu
        by_cases he : 242 + 5 * m + w = 242 + 5 * f 0 + 4
        · rw [if_pos he, if_pos he]
        · rw [if_neg he, if_neg he, s_takes_ne _ _ (by omega) (by omega)]
    rw [s_len_congr hms]
    exact (s_qok_sent hq hl hv).1
theorem s_sends_10 (g : zG) (m : Nat) : s_sends g m 10 = if s_spoilt g m = true then g 10 else g 10 + n32 1 := by
  unfold s_sends s_sent
  split
  · rw [s_takes_ne _ _ (by decide) (by decide)]
  · rw [gu_ne _ _ (by decide), gu_same]
theorem n32_1ne : n32 0 ≠ nn := by decide
section CLASS
variable {a n : Nat} {pl ad : Nat → Nat}
theorem c_wait {g : zG} (H : s_mo g) {m : Nat} (hm : m < s_nat g 5) (hb : s_nat g 3 < 2147483648) : g 3 - g (242 + 5 * m + 3) ≠ nn := by
  obtain ⟨_, w, h1, h2⟩ := H.2 m hm
  rw [h2]
  conv => lhs; lhs; rw [H.1]
  rw [n32_sub h1]
  intro he
  rw [n32_ne (by omega)] at he
  exact he
theorem c_sendLoop {i : Nat} (hi : i < n) (t0 al : Int32) {B : Nat} (hB : B < 2147483648) : ∀ (k : Nat) (σ : zSt) (qu : Nat → Nat → Nat) (g : zG) (c : Nat), zCs σ a pl ad qu n g → s_nat g 5 ≤ 100 → s_mo g → s_len g (ad i) ≤ k → c + s_len g (ad i) ≤ 100 → s_nat g 3 + 20 * s_len g (ad i) + 20 ≤ B → ∀ N, k < N →
    ∃ σ' c' qu', zloop (fun (t : zSt × Int32 × Int32) => b_X8_sendMessages_21 a (pl i) al t0 t.1 t.2.1 t.2.2) N (σ, n32 c, n32 0) = some (n32 c', σ') ∧ zAn σ σ' a pl ad qu' n (s_sl (n32 (ad i)) t0 al k g false) ∧ s_fin (n32 (ad i)) t0 al k g false ∧ c ≤ c' ∧ s_sl (n32 (ad i)) t0 al k g false 10 = g 10 + n32 (c' - c) ∧ s_nat (s_sl (n32 (ad i)) t0 al k g false) 3 ≤ s_nat g 3 + 20 * s_len g (ad i) + 20 ∧ s_mo (s_sl (n32 (ad i)) t0 al k g false) := by
  have stop : ∀ (σ : zSt) (qu : Nat → Nat → Nat) (g : zG) (c : Nat), zCs σ a pl ad qu n g → s_nat g 5 ≤ 100 → c + s_len g (ad i) ≤ 100 → s_stop (n32 (ad i)) t0 al g false = true → b_X8_sendMessages_21 a (pl i) al t0 σ (n32 c) (n32 0) = some (.inr (n32 c, σ)) := by
    intro σ qu g c h h5 hc hst
    have h0 := zC0_of h
    have hQ := h.2.2.1.2.2.2.2.2.2.2 i hi
    have hnx := s_next0 hQ.2.2.2 h5
    have e9 := (c_L h0).2.2.2.2.1
    simp (disch := omega) only [b_X8_sendMessages_21, f_X8_sendMessages_73, ↓zl_eq, ↓zb_eq, ↓zb2_eq, ↓zc_some, ↓zc_none, ↓zb_pre, ↓zb2_pre, ↓zc_pre, ↓zex_eq, ↓reduceIte, Option.isSome_some, Option.isSome_none, Option.getD_some, n32_lit, n32_le, c_ob h0 hi, hQ.1, h0.1.1, e9]
    by_cases hl : 0 < s_len g (ad i)
    · rw [if_neg (by omega), if_neg (by omega)]
      unfold s_stop at hst
      rw [hnx, if_pos hl] at hst
      have hn : (n32 (qu (ad i) 0) = nn) = False := propext (n32_ne (by have := (hQ.2.2.2.1 0 hl).1; omega))
      simp only [hn, Bool.false_or, decide_false, decide_eq_true_eq] at hst
      rw [if_neg (by rw [Int32.not_lt]; exact hst)]
    · by_cases hc2 : 100 ≤ c
      · rw [if_pos hc2]
      · rw [if_neg hc2, if_pos (by omega)]
  intro k
  induction k with
  | zero =>
    intro σ qu g c h h5 hmo hk hc hb N hN
    obtain ⟨N, rfl⟩ : ∃ N', N = N' + 1 := ⟨N - 1, by omega⟩
    have hQ := h.2.2.1.2.2.2.2.2.2.2 i hi
    have hnx := s_next0 hQ.2.2.2 h5
    rw [if_neg (by omega)] at hnx
    have hst : s_stop (n32 (ad i)) t0 al g false = true := by unfold s_stop; rw [hnx]; simp
    refine ⟨σ, c, qu, zloop_r (stop σ qu g c h h5 hc hst), ⟨zFr_r a σ, rfl, h.2.2.1⟩, hst, Nat.le_refl _, ?_, by show s_nat g 3 ≤ _; omega, hmo⟩
    rw [Nat.sub_self]
    exact (Int32.add_zero _).symm
  | succ k ih =>
    intro σ qu g c h h5 hmo hk hc hb N hN
    obtain ⟨N, rfl⟩ : ∃ N', N = N' + 1 := ⟨N - 1, by omega⟩
    have h0 := zC0_of h
    have hQ := h.2.2.1.2.2.2.2.2.2.2 i hi
    have hnx := s_next0 hQ.2.2.2 h5
    by_cases hst : s_stop (n32 (ad i)) t0 al g false = true
    · have es : s_sl (n32 (ad i)) t0 al (k + 1) g false = g := by rw [s_sl]; rw [if_pos hst]
      rw [es]
      refine ⟨σ, c, qu, zloop_r (stop σ qu g c h h5 hc hst), ⟨zFr_r a σ, rfl, h.2.2.1⟩, Or.inl hst, Nat.le_refl _, ?_, by omega, hmo⟩
      rw [Nat.sub_self]
      exact (Int32.add_zero _).symm
    · have hl : 0 < s_len g (ad i) := by
        rcases Nat.eq_zero_or_pos (s_len g (ad i)) with hz | hz
        · rw [if_neg (by omega)] at hnx
          exact absurd (by unfold s_stop; rw [hnx]; simp) hst
        · exact hz
      rw [if_pos hl] at hnx
      have hm := (hQ.2.2.2.1 0 hl).1
      have hv := c_wait hmo hm (by omega)
      obtain ⟨σ1, E, A⟩ := c_sendFirst h h5 hi hl hv
      have hne : ¬ n32 (qu (ad i) 0) = nn := by rw [n32_ne (by omega)]; exact not_false
      have hal : ¬ al ≤ g 3 - t0 := by
        intro hz
        exact hst (by unfold s_stop; simp [hz])
      have e9 := (c_L h0).2.2.2.2.1
      have hjn : (s_next g (n32 (ad i)) nn).toNatClampNeg = qu (ad i) 0 := by rw [hnx, n32_toNat (by omega)]
      have es : s_sl (n32 (ad i)) t0 al (k + 1) g false = s_sl (n32 (ad i)) t0 al k (s_sends g (qu (ad i) 0)) (s_spoilt g (qu (ad i) 0)) := by
        rw [s_sl]; rw [if_neg hst, hjn]
      obtain ⟨mo1, mo2, mo3⟩ := s_mo_sends hmo hm (B := B) (by omega) hB
      have hlen := s_sends_len hQ.2.2.2 hl hv
      have hbody : b_X8_sendMessages_21 a (pl i) al t0 σ (n32 c) (n32 0) = (if s_spoilt g (qu (ad i) 0) = true then some (.inr (n32 c, σ1)) else some (.inl (σ1, n32 (c + 1), n32 0))) := by
        simp (disch := omega) only [b_X8_sendMessages_21, f_X8_sendMessages_53, f_X8_sendMessages_73, ↓zl_eq, ↓zb_eq, ↓zb2_eq, ↓zc_some, ↓zc_none, ↓zb_pre, ↓zb2_pre, ↓zc_pre, ↓zex_eq, ↓reduceIte, Option.isSome_some, Option.isSome_none, Option.getD_some, n32_lit, n32_le, c_ob h0 hi, hQ.1, h0.1.1, e9, E, bi_0n, n32_add]
        rw [if_neg (by omega), if_neg (by omega), if_pos (by rw [← Int32.not_le]; exact hal)]
        cases s_spoilt g (qu (ad i) 0) <;> rfl
      rw [es]
      cases hs : s_spoilt g (qu (ad i) 0) with
      | true =>
        rw [hs] at hbody A
        simp only [if_true] at A hbody
        have hst2 : s_stop (n32 (ad i)) t0 al (s_sends g (qu (ad i) 0)) true = true := by simp [s_stop]
        have es2 : s_sl (n32 (ad i)) t0 al k (s_sends g (qu (ad i) 0)) true = s_sends g (qu (ad i) 0) := by
          cases k with
          | zero => rfl
          | succ k => rw [s_sl]; rw [if_pos hst2]
        rw [es2]
        refine ⟨σ1, c, qu, zloop_r hbody, A, Or.inr ?_, Nat.le_refl _, ?_, by omega, mo1⟩
        · rw [hjn, hs]
          cases k with
          | zero => exact hst2
          | succ k => exact Or.inl hst2
        · rw [Nat.sub_self, s_sends_10, if_pos hs]
          exact (Int32.add_zero _).symm
      | false =>
        rw [hs] at hbody A
        simp only [if_false, Bool.false_eq_true] at A hbody
        have h1 : zCs σ1 a pl ad (s_tl qu (ad i)) n (s_sends g (qu (ad i) 0)) := by
          refine ⟨zLs_fr A.1 h.1, zPl_fr A.1 h.2.1, A.2.2, ?_, s_sta_congr (fun j _ _ => s_sends_ne _ _ (by omega) (by omega) (by omega) (by omega) (by omega)) h.2.2.2.2⟩
          rw [s_sends_ne _ _ (by decide) (by decide) (by decide) (by decide) (by omega)]
          exact h.2.2.2.1
        have hl2 := hlen.2 hs
        obtain ⟨σ2, c2, qu2, E2, A2, F2, C2, D2, T2, M2⟩ := ih σ1 (s_tl qu (ad i)) (s_sends g (qu (ad i) 0)) (c + 1) h1 (by rw [mo3]; exact h5) mo1 (by omega) (by omega) (by omega) N (by omega)
        refine ⟨σ2, c2, qu2, (zloop_l hbody).trans E2, ⟨zFr_t A.1 A2.1, A2.2.1.trans A.2.1, A2.2.2⟩, Or.inr ?_, by omega, ?_, by omega, M2⟩
        · rw [hjn, hs]; exact F2
        · rw [D2, s_sends_10, if_neg (by rw [hs]; decide), Int32.add_assoc, n32_add]
          congr 2; omega
end CLASS
end
section
theorem s_ask_ne (h : Nat) : ∀ (k : Nat) (g : zG) (to : Nat) {j : Nat}, j ≠ 3 → j ≠ 11 → (s_ask h k g to).1 j = g j := by
  intro k
  induction k with
  | zero => intro g to j _ _; rfl
  | succ k ih =>
    intro g to j h3 h11
    rw [s_ask]
    split
    · rfl
    · split
      · exact s_takes_ne _ _ h3 h11
      · rw [ih _ _ h3 h11, s_tick_ne _ h3, s_takes_ne _ _ h3 h11]
theorem s_drop_ne (g : zG) {h nx j : Nat} (hx : nx < 32) (h14 : j ≠ 14) (hj : j < 18 ∨ 242 ≤ j) : s_drop g h nx j = g j := by
  unfold s_drop
  split
  · rw [gu_ne _ _ h14, gu_ne _ _ (by omega)]
  · rfl
theorem s_passes_ne (g : zG) {h nx j : Nat} (hh : h < 32) (hx : nx < 32) (h3 : j ≠ 3) (h11 : j ≠ 11) (h4 : j ≠ 4) (h14 : j ≠ 14) (hj : j < 18 ∨ 242 ≤ j) : s_passes g h nx j = g j := by
  unfold s_passes
  split
  · exact s_tries_ne _ _ _ h3 h11 h4
  · unfold s_end
    rw [gu_ne _ _ h4, gu_ne _ _ (by omega), s_ask_ne _ _ _ _ h3 h11, s_drop_ne _ hx h14 hj, s_tries_ne _ _ _ h3 h11 h4]
theorem s_vis_ne (g : zG) {h nx gp k : Nat} (hh : h < 32) (hx : nx < 32) (hp : gp < 32) (h3 : s_logged g h k (s_nat g 7) (18 + 7 * h + 3) = n32 nx) {j : Nat} (j3 : j ≠ 3) (j11 : j ≠ 11) (j4 : j ≠ 4) (j13 : j ≠ 13) (j14 : j ≠ 14) (hj : j < 18 ∨ 242 ≤ j) : s_vis g h k j = s_logged g h k (s_nat g 7) j := by
  unfold s_vis s_ps
  obtain ⟨ny, hny, e⟩ := s_polls_next (gp := s_nat (s_logged g h k (s_nat g 7)) (18 + 7 * h + 4)) (s_logged g h k (s_nat g 7)) hh hx h3
  have e2 : s_nat (s_logged g h k (s_nat g 7)) (18 + 7 * h + 3) = nx := s_nat_n32 h3 (by omega)
  have ey : s_nat (s_pl (s_logged g h k (s_nat g 7)) h) (18 + 7 * h + 3) = ny := s_nat_n32 (by unfold s_pl; rw [e2]; exact e) (by omega)
  rw [ey, s_passes_ne _ hh hny j3 j11 j4 j14 hj]
  unfold s_pl
  exact s_polls_ne _ j13 hj j3 j11 hh
section CLASS
variable {σ : zSt} {a n : Nat} {pl ad : Nat → Nat} {qu : Nat → Nat → Nat} {g : zG}
theorem s_len_le (g : zG) (x : Nat) : s_len g x ≤ s_nat g 5 := s_cnt_le _ _
theorem c_urgent (h : zC0 σ a pl ad qu n g) (h5 : s_nat g 5 ≤ 100) (h52 : g 5 = n32 (s_nat g 5)) {i : Nat} (hi : i < n) : f_X3_isUrgent σ (a + 2) (z_I σ (pl i) 5) = some (bi (s_urg g (n32 (ad i)))) := by
  have hQ := h.2.2.2.2.2.2.2.2.2 i hi
  have hnx := s_next0 hQ.2.2.2 h5
  have hL := h.1
  have hRM := h.2.2.2.2.1
  have hRW := h.2.2.2.1
  rw [hQ.2.1]
  by_cases hl : 0 < s_len g (ad i)
  · rw [if_pos hl] at hnx ⊢
    have hm := (hQ.2.2.2.1 0 hl).1
    have v1 := hRM.2 (qu (ad i) 0) 1 hm (by decide)
    have hat := c_at hL hRW.1 (m := qu (ad i) 0) (w := 1) (by omega) (by decide)
    rw [v1] at hat
    have hnum : z_I σ (a + 2) 1 = n32 (s_nat g 5) := by rw [hRM.1]; exact h52
    have hn : (n32 (qu (ad i) 0) = nn) = False := propext (n32_ne (by omega))
    have hf1 : (s_nat g 5 ≤ qu (ad i) 0) = False := eq_false (by omega)
    have hf2 : (qu (ad i) 0 < 0) = False := eq_false (by omega)
    have z_bl1 : z_bl (n32 1) = true := rfl
    unfold s_urg
    rw [hnx, n32_toNat (by omega)]
    simp (disch := omega) only [f_X3_isUrgent, f_X3_isUrgent_25, f_X3_isUrgent_26, f_X3_has, f_X3_has_16, f_X3_has_17, ↓zl_eq, ↓zb_eq, ↓zb2_eq, ↓zc_some, ↓zc_none, ↓zb_pre, ↓zb2_pre, ↓zc_pre, ↓zex_eq, ↓reduceIte, Option.isSome_some, Option.isSome_none, Option.getD_some, n32_lit, hL.1, hL.2.1, hL.2.2.1, hL.2.2.2.1, hL.2.2.2.2.1, hL.2.2.2.2.2.1, hL.2.2.2.2.2.2.1, hL.2.2.2.2.2.2.2.1, hL.2.2.2.2.2.2.2.2.1, hL.2.2.2.2.2.2.2.2.2.1, hL.2.2.2.2.2.2.2.2.2.2.1, hL.2.2.2.2.2.2.2.2.2.2.2.1, hL.2.2.2.2.2.2.2.2.2.2.2.2.1, hL.2.2.2.2.2.2.2.2.2.2.2.2.2.1, hL.2.2.2.2.2.2.2.2.2.2.2.2.2.2.1, hL.2.2.2.2.2.2.2.2.2.2.2.2.2.2.2.1, hL.2.2.2.2.2.2.2.2.2.2.2.2.2.2.2.2.1, hL.2.2.2.2.2.2.2.2.2.2.2.2.2.2.2.2.2.1, hL.2.2.2.2.2.2.2.2.2.2.2.2.2.2.2.2.2.2.1, hL.2.2.2.2.2.2.2.2.2.2.2.2.2.2.2.2.2.2.2.1, hL.2.2.2.2.2.2.2.2.2.2.2.2.2.2.2.2.2.2.2.2.1, hL.2.2.2.2.2.2.2.2.2.2.2.2.2.2.2.2.2.2.2.2.2.1, hL.2.2.2.2.2.2.2.2.2.2.2.2.2.2.2.2.2.2.2.2.2.2.1, hL.2.2.2.2.2.2.2.2.2.2.2.2.2.2.2.2.2.2.2.2.2.2.2.1, hL.2.2.2.2.2.2.2.2.2.2.2.2.2.2.2.2.2.2.2.2.2.2.2.2.1, hL.2.2.2.2.2.2.2.2.2.2.2.2.2.2.2.2.2.2.2.2.2.2.2.2.2, n32_lt, n32_le, hnum, hat, hn, hf1, hf2, n10, decide_false, Bool.not_false, Bool.true_and, z_bl1]
    by_cases hu : g (242 + 5 * qu (ad i) 0 + 1) < n32 5
    · simp only [hu, decide_true, Bool.not_true, if_true]; rfl
    · simp only [hu, decide_false, Bool.not_false, if_false]; rfl
  · rw [if_neg hl] at hnx ⊢
    unfold s_urg
    rw [hnx]
    have e0 : nn < n32 0 := by decide
    simp only [f_X3_isUrgent, f_X3_isUrgent_25, f_X3_isUrgent_26, f_X3_has, f_X3_has_16, f_X3_has_17, ↓zl_eq, ↓zb_eq, ↓zb2_eq, ↓zc_some, ↓zc_none, ↓zb_pre, ↓zb2_pre, ↓zc_pre, ↓zex_eq, ↓reduceIte, Option.isSome_some, Option.isSome_none, Option.getD_some, n32_lit, hL.2.2.2.2.2.2.2.2.1, e0, decide_true, Bool.not_true, Bool.false_and]
    rfl
theorem c_sendMsgs (h : zCs σ a pl ad qu n g) (h5 : s_nat g 5 ≤ 100) (h52 : g 5 = n32 (s_nat g 5)) (hmo : s_mo g) (hb : s_nat g 3 ≤ 2000000000) {i : Nat} (hi : i < n) (al : Int32) :
    ∃ σ' c' qu', f_X8_sendMessages σ a (pl i) al = some (n32 c', σ') ∧ zAn σ σ' a pl ad qu' n (s_all (n32 (ad i)) (g 3) al 101 g) ∧ s_allfin (n32 (ad i)) (g 3) al 101 g ∧ s_all (n32 (ad i)) (g 3) al 101 g 10 = g 10 + n32 c' ∧ s_nat (s_all (n32 (ad i)) (g 3) al 101 g) 3 ≤ s_nat g 3 + 2040 ∧ s_mo (s_all (n32 (ad i)) (g 3) al 101 g) := by
  have h0 := zC0_of h
  have hQ := h.2.2.1.2.2.2.2.2.2.2 i hi
  have hnx := s_next0 hQ.2.2.2 h5
  have hU := c_urgent h0 h5 h52 hi
  have hL := h.1
  have e9 := (c_L h0).2.2.2.2.1
  have hle := s_len_le g (ad i)
  have start : f_X8_sendMessages σ a (pl i) al = f_X8_sendMessages_21 a (pl i) al (g 3) σ (n32 0) (bi (s_urg g (n32 (ad i)))) := by
    simp only [f_X8_sendMessages, ↓zl_eq, ↓zb_eq, ↓zb2_eq, ↓zc_some, ↓zc_none, ↓zb_pre, ↓zb2_pre, ↓zc_pre, ↓zex_eq, ↓reduceIte, Option.isSome_some, Option.isSome_none, Option.getD_some, n32_lit, hL.1, hL.2.1, hL.2.2.1, hL.2.2.2.1, hL.2.2.2.2.1, hL.2.2.2.2.2.1, hL.2.2.2.2.2.2.1, hL.2.2.2.2.2.2.2.1, hL.2.2.2.2.2.2.2.2.1, hL.2.2.2.2.2.2.2.2.2.1, hL.2.2.2.2.2.2.2.2.2.2.1, hL.2.2.2.2.2.2.2.2.2.2.2.1, hL.2.2.2.2.2.2.2.2.2.2.2.2.1, hL.2.2.2.2.2.2.2.2.2.2.2.2.2.1, hL.2.2.2.2.2.2.2.2.2.2.2.2.2.2.1, hL.2.2.2.2.2.2.2.2.2.2.2.2.2.2.2.1, hL.2.2.2.2.2.2.2.2.2.2.2.2.2.2.2.2.1, hL.2.2.2.2.2.2.2.2.2.2.2.2.2.2.2.2.2.1, hL.2.2.2.2.2.2.2.2.2.2.2.2.2.2.2.2.2.2.1, hL.2.2.2.2.2.2.2.2.2.2.2.2.2.2.2.2.2.2.2.1, hL.2.2.2.2.2.2.2.2.2.2.2.2.2.2.2.2.2.2.2.2.1, hL.2.2.2.2.2.2.2.2.2.2.2.2.2.2.2.2.2.2.2.2.2.1, hL.2.2.2.2.2.2.2.2.2.2.2.2.2.2.2.2.2.2.2.2.2.2.1, hL.2.2.2.2.2.2.2.2.2.2.2.2.2.2.2.2.2.2.2.2.2.2.2.1, hL.2.2.2.2.2.2.2.2.2.2.2.2.2.2.2.2.2.2.2.2.2.2.2.2.1, hL.2.2.2.2.2.2.2.2.2.2.2.2.2.2.2.2.2.2.2.2.2.2.2.2.2, e9, c_ob h0 hi, hU]
  rw [start]
  unfold s_all s_allfin
  cases hu : s_urg g (n32 (ad i)) with
  | false =>
    simp only [if_false, Bool.false_eq_true]
    obtain ⟨σ', c', qu', E, A, F, C, D, T, M⟩ := c_sendLoop (a := a) hi (g 3) al (B := 2100000000) (by omega) 101 σ qu g 0 h h5 hmo (by omega) (by omega) (by omega) zN (by decide)
    exact ⟨σ', c', qu', E, A, F, D, by omega, M⟩
  | true =>
    simp only [if_true]
    have hl : 0 < s_len g (ad i) := by
      rcases Nat.eq_zero_or_pos (s_len g (ad i)) with hz | hz
      · rw [if_neg (by omega)] at hnx
        unfold s_urg at hu; rw [hnx] at hu; simp at hu
      · exact hz
    rw [if_pos hl] at hnx
    have hm := (hQ.2.2.2.1 0 hl).1
    have hv := c_wait hmo hm (by omega)
    obtain ⟨σ1, E, A⟩ := c_sendFirst h h5 hi hl hv
    have hjn : (s_next g (n32 (ad i)) nn).toNatClampNeg = qu (ad i) 0 := by rw [hnx, n32_toNat (by omega)]
    rw [hjn]
    obtain ⟨mo1, mo2, mo3⟩ := s_mo_sends hmo hm (B := 2100000000) (by omega) (by omega)
    have hlen := s_sends_len hQ.2.2.2 hl hv
    have hbody : b_X8_sendMessages_21 a (pl i) al (g 3) σ (n32 0) (bi true) = (if s_spoilt g (qu (ad i) 0) = true then some (.inr (n32 0, σ1)) else some (.inl (σ1, n32 1, n32 0))) := by
      simp (disch := omega) only [b_X8_sendMessages_21, f_X8_sendMessages_53, f_X8_sendMessages_73, ↓zl_eq, ↓zb_eq, ↓zb2_eq, ↓zc_some, ↓zc_none, ↓zb_pre, ↓zb2_pre, ↓zc_pre, ↓zex_eq, ↓reduceIte, Option.isSome_some, Option.isSome_none, Option.getD_some, n32_lit, n32_le, c_ob h0 hi, hQ.1, h0.1.1, e9, E, bi_0n, n32_add, Bool.true_eq_false]
      rw [if_neg (by omega), if_neg (by omega)]
      cases s_spoilt g (qu (ad i) 0) <;> rfl
    cases hs : s_spoilt g (qu (ad i) 0) with
    | true =>
      rw [hs] at hbody A
      simp only [if_true] at A hbody
      have hst2 : s_stop (n32 (ad i)) (g 3) al (s_sends g (qu (ad i) 0)) true = true := by simp [s_stop]
      have es2 : s_sl (n32 (ad i)) (g 3) al 101 (s_sends g (qu (ad i) 0)) true = s_sends g (qu (ad i) 0) := by
        rw [s_sl]; rw [if_pos hst2]
      rw [es2]
      refine ⟨σ1, 0, qu, zloop_r (N := 4999) hbody, A, Or.inl hst2, ?_, by omega, mo1⟩
      rw [s_sends_10, if_pos hs]
      exact (Int32.add_zero _).symm
    | false =>
      rw [hs] at hbody A
      simp only [if_false, Bool.false_eq_true] at A hbody
      have h1 : zCs σ1 a pl ad (s_tl qu (ad i)) n (s_sends g (qu (ad i) 0)) := by
        refine ⟨zLs_fr A.1 h.1, zPl_fr A.1 h.2.1, A.2.2, ?_, s_sta_congr (fun j _ _ => s_sends_ne _ _ (by omega) (by omega) (by omega) (by omega) (by omega)) h.2.2.2.2⟩
        rw [s_sends_ne _ _ (by decide) (by decide) (by decide) (by decide) (by omega)]
        exact h.2.2.2.1
      have hl2 := hlen.2 hs
      obtain ⟨σ', c', qu', E2, A2, F, C, D, T, M⟩ := c_sendLoop (a := a) hi (g 3) al (B := 2100000000) (by omega) 101 σ1 (s_tl qu (ad i)) (s_sends g (qu (ad i) 0)) 1 h1 (by rw [mo3]; exact h5) mo1 (by omega) (by omega) (by omega) 4999 (by decide)
      refine ⟨σ', c', qu', (zloop_l (N := 4999) hbody).trans E2, ⟨zFr_t A.1 A2.1, A2.2.1.trans A.2.1, A2.2.2⟩, F, ?_, by omega, M⟩
      rw [D, s_sends_10, if_neg (by rw [hs]; decide), Int32.add_assoc, n32_add]
      congr 2; omega
theorem zRep_great (hP : zPl σ a pl) (h : zRep σ a pl ad qu n g) (v : Int32) : zRep (z_sA σ (a + 8) (gu (z_I σ (a + 8)) 7 v)) a pl ad qu n (gu g 8 v) := by
  obtain ⟨hRL, hRW, hRM, hRN, hRC, hRA, hRS, hRQ⟩ := h
  have hm : sMs g (gu g 8 v) := ⟨gu_ne _ _ (by omega), fun m w _ _ => gu_ne _ _ (by omega)⟩
  have hp : ∀ i, i < n → pl i ≠ a + 8 := fun i hi => by have := (hP.1 i (by have := hRA.1; omega)).2.2; omega
  refine ⟨?_, ?_, qM_congr (by simp (disch := omega) only [z_I_sA, z_I_sAn, z_J_sA]) (by simp (disch := omega) only [z_I_sA, z_I_sAn, z_J_sA]) hm hRM, qN_congr (by simp (disch := omega) only [z_I_sA, z_I_sAn, z_J_sA]) (by simp (disch := omega) only [z_I_sA, z_I_sAn, z_J_sA]) (by simp (disch := omega) only [z_I_sA, z_I_sAn, z_J_sA]) (gu_ne _ _ (by omega)) (fun k _ => gu_ne _ _ (by omega)) hRN, ?_, qA_congr (fun x _ => gu_ne _ _ (by omega)) hRA, ?_, qQ_congr (by simp (disch := omega) only [z_I_sA, z_I_sAn, z_J_sA]) (fun i hi => by rw [z_I_sAn _ _ _ (hp i hi)]; exact ⟨rfl, rfl⟩) hm hRQ⟩
  · unfold qL
    simp (disch := omega) only [z_I_sAn, gu_ne]
    exact hRL
  · unfold qW
    simp (disch := omega) only [z_I_sAn]
    exact hRW
  · obtain ⟨h1, h2, h3, h4⟩ := hRC
    have e5 : s_nat (gu g 8 v) 5 = s_nat g 5 := by unfold s_nat; rw [gu_ne _ _ (by omega)]
    refine ⟨fun k hk => ?_, ?_, ?_, ?_⟩
    · rw [z_I_sA, gu_ne _ _ (by omega), gu_ne _ _ (by omega)]; exact h1 k hk
    · rw [z_I_sA, gu_same, gu_same]
    · rw [z_I_sA, gu_ne _ _ (by omega), e5, s_most_congr _ (fun m hm => gu_ne _ _ (by omega))]; exact h3
    · rw [z_J_sA, e5, s_sumw_congr _ (fun m hm => gu_ne _ _ (by omega))]; exact h4
  · intro k hk
    have h32 := (hRA.2.1 k hk).1
    rw [z_I_sAn _ _ _ (hp k hk)]
    simp (disch := omega) only [gu_ne]
    exact hRS k hk
theorem c_great (h : zC0 σ a pl ad qu n g) (v : Int32) : zAn σ (z_pI σ (a + 8) 7 v) a pl ad qu n (gu g 8 v) := by
  rw [z_pI_eq]
  exact ⟨zFr_sA _ (by omega) (by omega) _, (by simp (disch := omega) only [z_I_sA, z_I_sAn, z_J_sA]), zRep_great h.2.1 h.2.2 v⟩
theorem c_begin (h : zCs σ a pl ad qu n g) {i : Nat} (hi : i < n) : ∃ σ', f_X8_beginVisit σ a (pl i) = some (s_rot g (ad i), σ') ∧ zAn σ σ' a pl ad qu n (s_begin g (ad i)) := by
  have h0 := zC0_of h
  have hai := c_ad h0 hi
  have S := c_S h0 hi
  have e9 := (c_L h0).2.2.2.2.1
  have A1 := c_sta h0 hi (f := 8) (w := 6) (by unfold s_fw; omega) (g 3)
  generalize hσ1 : z_pI σ (pl i) 8 (g 3) = σ1 at A1
  have h1 := zC0_step h0 A1
  have r7 : z_I σ1 (pl i) 7 = g (18 + 7 * ad i + 5) := by rw [(c_S h1 hi).2.2.2.2.2.1, gu_ne _ _ (by omega)]
  have A2 := c_sta h1 hi (f := 7) (w := 5) (by unfold s_fw; omega) (g (18 + 7 * ad i + 5) + n32 1)
  generalize hσ2 : z_pI σ1 (pl i) 7 (g (18 + 7 * ad i + 5) + n32 1) = σ2 at A2
  have h2 := zC0_step h1 A2
  have r0 : z_I σ2 (a + 8) 0 = g 9 := by rw [c_C h2 (by decide), gu_ne _ _ (by omega), gu_ne _ _ (by omega)]
  have A3 := c_cnt h2 (i := 0) (by decide) (g 9 + n32 1)
  generalize hσ3 : z_pI σ2 (a + 8) 0 (g 9 + n32 1) = σ3 at A3
  have h3 := zC0_step h2 A3
  have r8 : z_I σ3 (a + 8) 7 = g 8 := by rw [h3.2.2.2.2.2.2.1.2.1, gu_ne _ _ (by omega), gu_ne _ _ (by omega), gu_ne _ _ (by omega)]
  have eb : (if g 8 < s_rot g (ad i) then s_rot g (ad i) else g 8) = (if s_rot g (ad i) ≤ g 8 then g 8 else s_rot g (ad i)) := by
    by_cases hc : s_rot g (ad i) ≤ g 8
    · rw [if_pos hc, if_neg (by rw [Int32.not_lt]; exact hc)]
    · rw [if_neg hc, if_pos (by rw [Int32.not_le] at hc; exact hc)]
  have A4 := c_great h3 (if s_rot g (ad i) ≤ g 8 then g 8 else s_rot g (ad i))
  have hL1 := h1.1
  have hL2 := h2.1
  have hL3 := h3.1
  have key : f_X8_beginVisit_21 σ a (pl i) (s_rot g (ad i)) = some (s_rot g (ad i), z_pI σ3 (a + 8) 7 (if s_rot g (ad i) ≤ g 8 then g 8 else s_rot g (ad i))) := by
    simp only [f_X8_beginVisit_21, ↓zl_eq, ↓zb_eq, ↓zb2_eq, ↓zc_some, ↓zc_none, ↓zb_pre, ↓zb2_pre, ↓zc_pre, ↓zex_eq, ↓reduceIte, Option.isSome_some, Option.isSome_none, Option.getD_some, n32_lit, c_ob h0 hi, h0.1.1, e9, hσ1, c_ob h1 hi, r7, hσ2, hL2.1, hL2.2.2.2.2.1, hL2.2.2.2.2.2.2.2.2.2.2.2.2.2.2.2.2.2.2.2.2.2.1, r0, hσ3, hL3.1, hL3.2.2.2.2.1, hL3.2.2.2.2.2.2.2.2.2.2.2.2.2.2.2.2.2.2.2.2.2.1, r8, eb]
  refine ⟨_, ?_, zAn_t A1 (zAn_t A2 (zAn_t A3 A4))⟩
  by_cases hl : g (18 + 7 * ad i + 6) = nn
  · have er : s_rot g (ad i) = n32 0 := by unfold s_rot; rw [if_pos hl]
    rw [← key]
    simp only [f_X8_beginVisit, ↓zl_eq, ↓zb_eq, ↓zb2_eq, ↓zc_some, ↓zc_none, ↓zb_pre, ↓zb2_pre, ↓zc_pre, ↓zex_eq, ↓reduceIte, Option.isSome_some, Option.isSome_none, Option.getD_some, n32_lit, n32_nn, n32_nn2, n32_add, n32_mul, n32_toNat, n32_ix, c_ob h0 hi, S.2.2.2.2.2.2, if_pos hl, er]
  · have er : s_rot g (ad i) = g 3 - g (18 + 7 * ad i + 6) := by unfold s_rot; rw [if_neg hl]
    rw [← key]
    simp only [f_X8_beginVisit, ↓zl_eq, ↓zb_eq, ↓zb2_eq, ↓zc_some, ↓zc_none, ↓zb_pre, ↓zb2_pre, ↓zc_pre, ↓zex_eq, ↓reduceIte, Option.isSome_some, Option.isSome_none, Option.getD_some, n32_lit, n32_nn, n32_nn2, n32_add, n32_mul, n32_toNat, n32_ix, c_ob h0 hi, h0.1.1, e9, S.2.2.2.2.2.2, if_neg hl, er]
end CLASS
end
section
theorem s_tries_f4 (nx : Nat) : ∀ (k : Nat) (g : zG), (s_tries nx k g).1 = false → (s_tries nx k g).2 4 = g 4 := by
  intro k
  induction k with
  | zero => intro g _; rfl
  | succ k ih =>
    intro g
    rw [s_tries]
    split
    · intro h; cases h
    · intro h
      rw [ih _ h, s_tick_ne _ (by decide), s_takes_ne _ _ (by decide) (by decide)]
theorem s_sta_begin {g : zG} {h : Nat} (hh : h < 32) (H : s_sta g) : s_sta (s_begin g h) := by
  intro x hx h0
  rw [s_begin_ne _ _ (by omega) (by omega) (by omega) (by omega)] at h0
  rw [s_begin_ne _ _ (by omega) (by omega) (by omega) (by omega), s_begin_ne _ _ (by omega) (by omega) (by omega) (by omega), s_begin_ne _ _ (by omega) (by omega) (by omega) (by omega), s_begin_ne _ _ (by omega) (by omega) (by omega) (by omega)]
  exact H x hx h0
section CLASS
variable {σ σ' : zSt} {a n : Nat} {pl ad : Nat → Nat} {qu : Nat → Nat → Nat} {g g' : zG}
theorem zRep_congr (hg : ∀ j, j ≠ 7 → j < 782 → g' j = g j) (h6 : s_nat g 6 ≤ 20) (h5 : s_nat g 5 ≤ 100) (h : zRep σ a pl ad qu n g) : zRep σ a pl ad qu n g' := by
  obtain ⟨hRL, hRW, hRM, hRN, hRC, hRA, hRS, hRQ⟩ := h
  have hm : sMs g g' := ⟨hg _ (by omega) (by omega), fun m w _ _ => hg _ (by omega) (by omega)⟩
  refine ⟨?_, hRW, qM_congr (σ := σ) rfl rfl hm hRM, qN_congr (σ := σ) rfl rfl rfl (hg _ (by omega) (by omega)) (fun k _ => hg _ (by omega) (by omega)) hRN, qC_congr (σ := σ) rfl rfl (fun j _ _ => hg _ (by omega) (by omega)) hm hRC, qA_congr (fun x _ => hg _ (by omega) (by omega)) hRA, ?_, qQ_congr (σ := σ) rfl (fun i _ => ⟨rfl, rfl⟩) hm hRQ⟩
  · unfold qL
    rw [hg _ (by omega) (by omega), hg _ (by omega) (by omega), hg _ (by omega) (by omega), hg _ (by omega) (by omega), hg _ (by omega) (by omega)]
    exact hRL
  · intro i hi
    have := (hRA.2.1 i hi).1
    rw [hg _ (by omega) (by omega), hg _ (by omega) (by omega), hg _ (by omega) (by omega), hg _ (by omega) (by omega), hg _ (by omega) (by omega), hg _ (by omega) (by omega)]
    exact hRS i hi
/-- only the log's cells have changed -/
theorem zRep_10 (hP : zPl σ a pl) (hI : ∀ q, q ≠ a + 10 → z_I σ' q = z_I σ q) (hJ : z_J σ' = z_J σ) (h : zRep σ a pl ad qu n g) : zRep σ' a pl ad qu n g := by
  obtain ⟨hRL, hRW, hRM, hRN, hRC, hRA, hRS, hRQ⟩ := h
  have hp : ∀ i, i < n → z_I σ' (pl i) = z_I σ (pl i) := fun i hi => hI _ (by have := (hP.1 i (by have := hRA.1; omega)).2.2; omega)
  refine ⟨?_, ?_, qM_congr (hI _ (by omega)) (hI _ (by omega)) (sMs_r g) hRM, qN_congr (hI _ (by omega)) (hI _ (by omega)) (hI _ (by omega)) rfl (fun _ _ => rfl) hRN, qC_congr (hI _ (by omega)) (by rw [hJ]) (fun _ _ _ => rfl) (sMs_r g) hRC, hRA, ?_, qQ_congr (hI _ (by omega)) (fun i hi => by rw [hp i hi]; exact ⟨rfl, rfl⟩) (sMs_r g) hRQ⟩
  · unfold qL; rw [hI _ (by omega)]; exact hRL
  · unfold qW; rw [hI _ (by omega), hI _ (by omega)]; exact hRW
  · intro i hi; rw [hp i hi]; exact hRS i hi
theorem c_logVisit (h : zC0 σ a pl ad qu n g) {mv : Nat} (hmv : mv + 1 < 2147483648) (h9 : g 9 = n32 (mv + 1)) (l1 l2 l3 l4 : Int32) :
    f_X2_logVisit σ a l1 l2 l3 l4 = some (z_sA σ (a + 10) (gu (gu (gu (gu (z_I σ (a + 10)) (4 * (mv % 40) + 0) l1) (4 * (mv % 40) + 1) l2) (4 * (mv % 40) + 2) l3) (4 * (mv % 40) + 3) l4)) := by
  have hL := h.1
  have hW := h.2.2.2.1.2
  have c0 : z_I σ (a + 8) 0 = n32 (mv + 1) := (c_C h (i := 0) (by decide)).trans h9
  have hlt := Nat.mod_lt mv (show 40 > 0 by decide)
  have e1 : n32 (mv + 1) - n32 1 = n32 mv := n32_sub (by omega)
  have p : ∀ (f : zG) (w : Nat) (v : Int32), w < 4 → f_X7_put (z_sA σ (a + 10) f) (a + 9) (n32 (mv % 40)) (n32 w) v = some (z_sA σ (a + 10) (gu f (4 * (mv % 40) + w) v)) := by
    intro f w v hw
    have := c_put4 (σ := z_sA σ (a + 10) f) (a := a) hL (by rw [z_I_sAn _ _ _ (by omega)]; exact hW) hlt hw v
    rw [z_I_sA, z_sA_sA] at this
    exact this
  have p0 := p (z_I σ (a + 10)) 0 l1 (by decide)
  rw [z_sA_id] at p0
  simp (disch := omega) only [f_X2_logVisit, ↓zl_eq, ↓zb_eq, ↓zb2_eq, ↓zc_some, ↓zc_none, ↓zb_pre, ↓zb2_pre, ↓zc_pre, ↓zex_eq, ↓reduceIte, Option.isSome_some, Option.isSome_none, Option.getD_some, n32_lit, hL.1, hL.2.1, hL.2.2.1, hL.2.2.2.1, hL.2.2.2.2.1, hL.2.2.2.2.2.1, hL.2.2.2.2.2.2.1, hL.2.2.2.2.2.2.2.1, hL.2.2.2.2.2.2.2.2.1, hL.2.2.2.2.2.2.2.2.2.1, hL.2.2.2.2.2.2.2.2.2.2.1, hL.2.2.2.2.2.2.2.2.2.2.2.1, hL.2.2.2.2.2.2.2.2.2.2.2.2.1, hL.2.2.2.2.2.2.2.2.2.2.2.2.2.1, hL.2.2.2.2.2.2.2.2.2.2.2.2.2.2.1, hL.2.2.2.2.2.2.2.2.2.2.2.2.2.2.2.1, hL.2.2.2.2.2.2.2.2.2.2.2.2.2.2.2.2.1, hL.2.2.2.2.2.2.2.2.2.2.2.2.2.2.2.2.2.1, hL.2.2.2.2.2.2.2.2.2.2.2.2.2.2.2.2.2.2.1, hL.2.2.2.2.2.2.2.2.2.2.2.2.2.2.2.2.2.2.2.1, hL.2.2.2.2.2.2.2.2.2.2.2.2.2.2.2.2.2.2.2.2.1, hL.2.2.2.2.2.2.2.2.2.2.2.2.2.2.2.2.2.2.2.2.2.1, hL.2.2.2.2.2.2.2.2.2.2.2.2.2.2.2.2.2.2.2.2.2.2.1, hL.2.2.2.2.2.2.2.2.2.2.2.2.2.2.2.2.2.2.2.2.2.2.2.1, hL.2.2.2.2.2.2.2.2.2.2.2.2.2.2.2.2.2.2.2.2.2.2.2.2.1, hL.2.2.2.2.2.2.2.2.2.2.2.2.2.2.2.2.2.2.2.2.2.2.2.2.2, c0, e1, n32_mod, p0, p, z_ob_sA, z_R_sA]
theorem qG_log {mv : Nat} (hmv : mv + 1 < 2147483648) (h9 : g 9 = n32 mv) (h7 : g 7 = n32 (min mv 40)) (H : qG σ a g) {t0 h rot sent : Int32}
    (h9' : g' 9 = n32 (mv + 1)) (h10 : z_I σ' (a + 10) = z_I σ (a + 10)) {gm : zG} (hgm : ∀ j, 782 ≤ j → gm j = g j) (hg7 : g' 7 = s_log gm (min mv 40) t0 h rot sent 7) (hg : ∀ j, 782 ≤ j → g' j = s_log gm (min mv 40) t0 h rot sent j) :
    qG (z_sA σ' (a + 10) (gu (gu (gu (gu (z_I σ' (a + 10)) (4 * (mv % 40) + 0) t0) (4 * (mv % 40) + 1) h) (4 * (mv % 40) + 2) rot) (4 * (mv % 40) + 3) sent)) a g' := by
  have m9 := s_nat_n32 h9 (by omega)
  have m7 := s_nat_n32 h7 (by omega)
  have m9' := s_nat_n32 h9' (by omega)
  have e7 : g' 7 = n32 (min (mv + 1) 40) := by
    rw [hg7]
    unfold s_log
    by_cases hc : min mv 40 = 40
    · rw [if_pos hc]
      unfold s_put; rw [gu_same]; congr 1; omega
    · rw [if_neg hc]
      unfold s_put; rw [gu_same]; congr 1; omega
  have m7' := s_nat_n32 e7 (by omega)
  intro i w hi hw
  rw [m7'] at hi ⊢
  rw [m9', z_I_sA, h10, hg _ (by omega)]
  have old := fun i w => H i w
  rw [m7, m9] at old
  unfold s_log
  by_cases hc : min mv 40 = 40
  · rw [if_pos hc]
    by_cases hi39 : i = 39
    · subst hi39
      have er : (mv + 1 - min (mv + 1) 40 + 39) % 40 = mv % 40 := by congr 1; omega
      rw [er]
      unfold s_put
      rw [gu_ne _ _ (show 782 + 4 * 39 + w ≠ 7 by omega)]
      unfold gu
      rcases (show w = 0 ∨ w = 1 ∨ w = 2 ∨ w = 3 by omega) with rfl | rfl | rfl | rfl <;> simp
    · have hne : (mv + 1 - min (mv + 1) 40 + i) % 40 ≠ mv % 40 := by omega
      have er : (mv + 1 - min (mv + 1) 40 + i) % 40 = (mv - min mv 40 + (i + 1)) % 40 := by congr 1; omega
      rw [gu_ne _ _ (by omega), gu_ne _ _ (by omega), gu_ne _ _ (by omega), gu_ne _ _ (by omega), er, old (i + 1) w (by omega) hw]
      unfold s_put
      rw [gu_ne _ _ (by omega), gu_ne _ _ (by omega), gu_ne _ _ (by omega), gu_ne _ _ (by omega), gu_ne _ _ (by omega), gu_ne _ _ (by omega)]
      unfold s_shift
      rw [if_pos (by omega), hgm _ (by omega)]
      congr 1; omega
  · rw [if_neg hc]
    have hm40 : mv < 40 := by omega
    have er : (mv + 1 - min (mv + 1) 40 + i) % 40 = i := by
      have : min (mv + 1) 40 = mv + 1 := by omega
      rw [this, Nat.sub_self, Nat.zero_add]; exact Nat.mod_eq_of_lt (by omega)
    have em : mv % 40 = mv := Nat.mod_eq_of_lt hm40
    have emin : min mv 40 = mv := by omega
    rw [er, em, emin]
    by_cases him : i = mv
    · subst him
      unfold s_put
      rw [gu_ne _ _ (show 782 + 4 * i + w ≠ 7 by omega)]
      unfold gu
      rcases (show w = 0 ∨ w = 1 ∨ w = 2 ∨ w = 3 by omega) with rfl | rfl | rfl | rfl <;> simp
    · rw [gu_ne _ _ (by omega), gu_ne _ _ (by omega), gu_ne _ _ (by omega), gu_ne _ _ (by omega)]
      have o := old i w (by omega) hw
      rw [emin, Nat.sub_self, Nat.zero_add, Nat.mod_eq_of_lt (show i < 40 by omega)] at o
      rw [o]
      unfold s_put
      rw [gu_ne _ _ (by omega), gu_ne _ _ (by omega), gu_ne _ _ (by omega), gu_ne _ _ (by omega), gu_ne _ _ (by omega), hgm _ (by omega)]
end CLASS
end
section
/-- what is said of an array before a visit -/
def s_num (g : zG) : Prop := s_nat g 5 ≤ 100 ∧ g 5 = n32 (s_nat g 5) ∧ (∃ z, z ≤ 20 ∧ g 6 = n32 z) ∧ (∃ gg, 1 ≤ gg ∧ gg ≤ 20 ∧ g 2 = n32 gg) ∧ s_mo g ∧ s_nat g 3 ≤ 2000000000 ∧ s_sta g ∧ ∃ mv, mv ≤ 2000000000 ∧ g 9 = n32 mv ∧ g 7 = n32 (min mv 40)
section CLASS
variable {σ : zSt} {a n : Nat} {pl ad : Nat → Nat} {qu : Nat → Nat → Nat} {g : zG}
theorem s_okv_of (hN : s_num g) {h : Nat} (hh : h < 32) (hz : g (18 + 7 * h + 0) = n32 1) : s_okv g h := by
  obtain ⟨h5, h52, h6, h2, hmo, hb, hst, mv, _, h9, h7⟩ := hN
  have st := hst h hh hz
  exact ⟨hh, ⟨h6, ⟨_, h5, h52⟩⟩, ⟨_, Nat.min_le_right _ _, h7⟩, st.2.2.2.1, st.2.2.2.2, h2⟩
theorem c_vis70 (h : zC0 σ a pl ad qu n g) {i : Nat} (hi : i < n) (l2 l3 l4 : Int32) : f_X8_makeVisit_70 σ a (pl i) l2 l3 l4 = f_X2_logVisit σ a l2 (n32 (ad i)) l3 l4 := by
  have e : ∀ x : Option zSt, zb x (fun s => some s) = x := by intro x; cases x <;> rfl
  unfold f_X8_makeVisit_70
  rw [if_pos (c_ob h hi), if_pos h.1.1, (c_S h hi).1]
  exact e _
theorem c_vis18 (hL : zLs σ a) (hP : zPl σ a pl) (hR : zRep σ a pl ad qu n g) (hG : qG σ a g) (hN : s_num g) {i : Nat} (hi : i < n) (h4 : g 4 = n32 (ad i)) :
    ∃ σ' qu', f_X8_makeVisit_18 σ a (some (pl i)) = some σ' ∧ zFr a σ σ' ∧ zRep σ' a pl ad qu' n (s_vis g (ad i) 101) ∧ qG σ' a (s_vis g (ad i) 101) ∧ s_go g (ad i) ∧ s_mo (s_mid g (ad i) 101) ∧ s_nat (s_mid g (ad i) 101) 3 ≤ s_nat g 3 + 2040 := by
  have hN' := hN
  obtain ⟨h5, h52, h6, ⟨gg, hg1, hg2, h2⟩, hmo, hb, hst, mv, hmv, h9, h7⟩ := hN
  have h : zCs σ a pl ad qu n g := ⟨hL, hP, hR, h6, hst⟩
  have h0 := zC0_of h
  have hai := c_ad h0 hi
  have e9 := (c_L h0).2.2.2.2.1
  obtain ⟨z, hz, h6z⟩ := h6
  have n6 : s_nat g 6 = z := s_nat_n32 h6z (by omega)
  have okv := s_okv_of hN' hai.1 hai.2
  have stA := hst (ad i) hai.1 hai.2
  obtain ⟨nx, hnx, e3⟩ := stA.2.2.2.1
  obtain ⟨gp, hgp, e4⟩ := stA.2.2.2.2
  -- begin
  obtain ⟨σ1, E1, A1⟩ := c_begin h hi
  have bn : ∀ {j : Nat}, j ≠ 8 → j ≠ 9 → j ≠ 18 + 7 * ad i + 5 → j ≠ 18 + 7 * ad i + 6 → s_begin g (ad i) j = g j := fun a b c d => s_begin_ne _ _ a b c d
  have hC1 : zCs σ1 a pl ad qu n (s_begin g (ad i)) := zCs_step h A1 (bn (by omega) (by omega) (by omega) (by omega)) (s_sta_begin hai.1 hst)
  have b3 : s_begin g (ad i) 3 = g 3 := bn (by omega) (by omega) (by omega) (by omega)
  have b5 : s_begin g (ad i) 5 = g 5 := bn (by omega) (by omega) (by omega) (by omega)
  have nb3 : s_nat (s_begin g (ad i)) 3 = s_nat g 3 := by unfold s_nat; rw [b3]
  have nb5 : s_nat (s_begin g (ad i)) 5 = s_nat g 5 := by unfold s_nat; rw [b5]
  have hmo1 : s_mo (s_begin g (ad i)) := s_mo_t (d := 0) hmo (by rw [b3, Nat.add_zero]; exact hmo.1) (by omega) b5 (fun m _ => ⟨bn (by omega) (by omega) (by omega) (by omega), bn (by omega) (by omega) (by omega) (by omega)⟩)
  -- sendings
  obtain ⟨σ2, c', qu', E2, A2, F2, D2, T2, M2⟩ := c_sendMsgs hC1 (by rw [nb5]; exact h5) (by rw [nb5, b5]; exact h52) hmo1 (by rw [nb3]; exact hb) hi (g 0 - s_rot g (ad i))
  rw [b3] at A2 F2 D2 T2 M2
  have go : s_go g (ad i) := ⟨okv, F2⟩
  have emid : s_all (n32 (ad i)) (g 3) (g 0 - s_rot g (ad i)) 101 (s_begin g (ad i)) = s_mid g (ad i) 101 := rfl
  rw [emid] at A2 D2 T2 M2
  have ob := s_ok_begin (show s_ok g from ⟨⟨z, hz, h6z⟩, ⟨_, h5, h52⟩⟩) (ad i)
  have mid : ∀ {j : Nat}, j ≠ 3 → j ≠ 11 → j ≠ 10 → j ≠ 15 → (j < 242 ∨ 742 ≤ j) → s_mid g (ad i) 101 j = s_begin g (ad i) j := fun a b c d e => s_all_ne _ _ _ _ _ a b c d e ob
  have n7 : s_nat g 7 = min mv 40 := s_nat_n32 h7 (by omega)
  have b10 : s_begin g (ad i) 10 = g 10 := bn (by omega) (by omega) (by omega) (by omega)
  have esent : s_mid g (ad i) 101 10 - g 10 = n32 c' := by rw [D2, b10, Int32.add_comm, Int32.add_sub_cancel]
  have elog : s_logged g (ad i) 101 (s_nat g 7) = s_log (s_mid g (ad i) 101) (min mv 40) (g 3) (n32 (ad i)) (s_rot g (ad i)) (n32 c') := by
    unfold s_logged; rw [n7, esent]
  generalize hgl : s_logged g (ad i) 101 (s_nat g 7) = gl at *
  have lgd : ∀ {j : Nat}, j ≠ 7 → j < 782 → gl j = s_mid g (ad i) 101 j := fun a b => by rw [elog]; exact s_log_ne _ _ _ _ _ _ a b
  have lg2 : ∀ {j : Nat}, j ≠ 7 → j ≠ 3 → j ≠ 11 → j ≠ 10 → j ≠ 15 → j ≠ 8 → j ≠ 9 → j ≠ 18 + 7 * ad i + 5 → j ≠ 18 + 7 * ad i + 6 → j < 242 → gl j = g j := fun a b c d e f p q r s => by
    rw [lgd a (by omega), mid b c d e (Or.inl s), bn f p q r]
  have hA5 : s_nat (s_mid g (ad i) 101) 5 = s_nat g 5 := by unfold s_nat; rw [mid (by omega) (by omega) (by omega) (by omega) (by omega), b5]
  have hA6 : s_nat (s_mid g (ad i) 101) 6 = s_nat g 6 := by unfold s_nat; rw [mid (by omega) (by omega) (by omega) (by omega) (by omega), bn (by omega) (by omega) (by omega) (by omega)]
  have R2 := zRep_congr (g' := gl) (fun j a b => lgd a b) (by rw [hA6]; omega) (by rw [hA5]; exact h5) A2.2.2
  have stmid : s_sta gl := by
    refine s_sta_congr (g := s_begin g (ad i)) (fun j h18 h242 => ?_) (s_sta_begin hai.1 hst)
    rw [lgd (by omega) (by omega), mid (by omega) (by omega) (by omega) (by omega) (Or.inl h242)]
  have l6 : gl 6 = n32 z := by rw [lg2 (by omega) (by omega) (by omega) (by omega) (by omega) (by omega) (by omega) (by omega) (by omega) (by omega)]; exact h6z
  have l3 : gl (18 + 7 * ad i + 3) = n32 nx := by rw [lg2 (by omega) (by omega) (by omega) (by omega) (by omega) (by omega) (by omega) (by omega) (by omega) (by omega)]; exact e3
  have l4 : gl (18 + 7 * ad i + 4) = n32 gp := by rw [lg2 (by omega) (by omega) (by omega) (by omega) (by omega) (by omega) (by omega) (by omega) (by omega) (by omega)]; exact e4
  have l2 : gl 2 = n32 gg := by rw [lg2 (by omega) (by omega) (by omega) (by omega) (by omega) (by omega) (by omega) (by omega) (by omega) (by omega)]; exact h2
  have lh : gl 4 = n32 (ad i) := by rw [lg2 (by omega) (by omega) (by omega) (by omega) (by omega) (by omega) (by omega) (by omega) (by omega) (by omega)]; exact h4
  have F12 : zFr a σ σ2 := zFr_t A1.1 A2.1
  have hC2 : zCs σ2 a pl ad qu' n gl := ⟨zLs_fr F12 hL, zPl_fr F12 hP, R2, ⟨z, hz, l6⟩, stmid⟩
  -- polling
  obtain ⟨σ3, E3, A3, S3⟩ := c_poll hC2 hi hnx hgp hg1 hg2 l3 l4 l2
  have epl : s_polls gl (ad i) nx gp = s_pl gl (ad i) := by
    unfold s_pl; rw [s_nat_n32 l3 (by omega), s_nat_n32 l4 (by omega)]
  obtain ⟨ny, hny, hny2⟩ := s_polls_next (gp := gp) gl hai.1 hnx l3
  have p6 : s_polls gl (ad i) nx gp 6 = gl 6 := s_polls_ne _ (by omega) (by omega) (by omega) (by omega) hai.1
  have p4 : s_polls gl (ad i) nx gp 4 = n32 (ad i) := by rw [s_polls_ne _ (by omega) (by omega) (by omega) (by omega) hai.1]; exact lh
  rw [epl] at A3 S3 hny2 p6 p4
  have hC3 := zCs_step hC2 A3 p6 S3
  -- passing
  have evis : s_vis g (ad i) 101 = s_passes (s_pl gl (ad i)) (ad i) ny := by
    unfold s_vis s_ps
    rw [hgl, s_nat_n32 hny2 (by omega)]
  obtain ⟨σ4, E4, A4, S4⟩ := c_pass hC3 hi hny hny2
  have q6 : (s_tries ny 3 (s_pl gl (ad i))).2 6 = s_pl gl (ad i) 6 := s_tries_ne _ _ _ (by omega) (by omega) (by omega)
  have hC4 := zCs_step hC3 A4 q6 S4
  have fin : ∃ σ5, (if bi (s_tries ny 3 (s_pl gl (ad i))).1 = 0 then zb (f_X8_dropSilent σ4 a (pl i)) (fun σ18 => zb (f_X8_askOthers σ18 a (pl i)) (fun σ20 => f_X8_makeVisit_70 σ20 a (pl i) (g 3) (s_rot g (ad i)) (n32 c'))) else f_X8_makeVisit_70 σ4 a (pl i) (g 3) (s_rot g (ad i)) (n32 c')) = f_X8_makeVisit_70 σ5 a (pl i) (g 3) (s_rot g (ad i)) (n32 c') ∧ zAn σ4 σ5 a pl ad qu' n (s_vis g (ad i) 101) := by
    rw [evis]
    unfold s_passes
    cases ht : (s_tries ny 3 (s_pl gl (ad i))).1 with
    | true =>
      refine ⟨σ4, by rw [if_neg (by decide)], ?_⟩
      simp only [if_true]
      exact ⟨zFr_r a σ4, rfl, A4.2.2⟩
    | false =>
      simp only [if_false, Bool.false_eq_true]
      have t3 : (s_tries ny 3 (s_pl gl (ad i))).2 (18 + 7 * ad i + 3) = n32 ny := by rw [s_tries_ne _ _ _ (by omega) (by omega) (by omega)]; exact hny2
      obtain ⟨σ5, E5, A5, S5⟩ := c_drop hC4 hi hny t3
      have d6 : s_drop (s_tries ny 3 (s_pl gl (ad i))).2 (ad i) ny 6 = (s_tries ny 3 (s_pl gl (ad i))).2 6 := s_drop_ne _ hny (by omega) (by omega)
      have hC5 := zCs_step hC4 A5 d6 S5
      have d3 : s_drop (s_tries ny 3 (s_pl gl (ad i))).2 (ad i) ny (18 + 7 * ad i + 3) = n32 ny := by
        unfold s_drop
        split
        · rw [gu_ne _ _ (by omega), gu_ne _ _ (by omega)]; exact t3
        · exact t3
      have d4 : s_drop (s_tries ny 3 (s_pl gl (ad i))).2 (ad i) ny 4 = n32 (ad i) := by
        rw [s_drop_ne _ hny (by omega) (by omega), s_tries_f4 _ _ _ ht]; exact p4
      obtain ⟨σ6, E6, A6⟩ := c_others hC5 hi hny d3 d4
      refine ⟨σ6, ?_, zAn_t A5 A6⟩
      rw [if_pos (by decide), E5]
      show zb (f_X8_askOthers σ5 a (pl i)) _ = _
      rw [E6]
      rfl
  obtain ⟨σ5, E5, A5⟩ := fin
  have F25 : zFr a σ2 σ5 := zFr_t A3.1 (zFr_t A4.1 A5.1)
  have F05 : zFr a σ σ5 := zFr_t F12 F25
  have hC5 : zC0 σ5 a pl ad qu' n (s_vis g (ad i) 101) := ⟨zLs_fr F05 hL, zPl_fr F05 hP, A5.2.2⟩
  have h10 : z_I σ5 (a + 10) = z_I σ (a + 10) := A5.2.1.trans (A4.2.1.trans (A3.2.1.trans (A2.2.1.trans A1.2.1)))
  have vne : ∀ {j : Nat}, j ≠ 3 → j ≠ 11 → j ≠ 4 → j ≠ 13 → j ≠ 14 → (j < 18 ∨ 242 ≤ j) → s_vis g (ad i) 101 j = gl j := fun a b c d e f => by
    rw [s_vis_ne (nx := nx) (gp := gp) g hai.1 hnx hgp (by rw [hgl]; exact l3) a b c d e f, hgl]
  have v9 : s_vis g (ad i) 101 9 = n32 (mv + 1) := by
    rw [vne (by omega) (by omega) (by omega) (by omega) (by omega) (by omega), lgd (by omega) (by omega), mid (by omega) (by omega) (by omega) (by omega) (by omega)]
    unfold s_begin
    rw [gu_ne _ _ (by omega), gu_same, h9, n32_add]
  have LV := c_logVisit hC5 (mv := mv) (by omega) v9 (g 3) (n32 (ad i)) (s_rot g (ad i)) (n32 c')
  have RGn := qG_log (σ' := σ5) (g' := s_vis g (ad i) 101) (mv := mv) (by omega) h9 h7 hG (t0 := g 3) (h := n32 (ad i)) (rot := s_rot g (ad i)) (sent := n32 c') v9 h10 (gm := s_mid g (ad i) 101)
    (fun j hj => by rw [mid (by omega) (by omega) (by omega) (by omega) (by omega), bn (by omega) (by omega) (by omega) (by omega)])
    (by rw [vne (by omega) (by omega) (by omega) (by omega) (by omega) (by omega), elog])
    (fun j hj => by rw [vne (by omega) (by omega) (by omega) (by omega) (by omega) (by omega), elog])
  refine ⟨_, qu', ?_, zFr_t F05 (zFr_sA _ (by omega) (by omega) _), zRep_10 (σ := σ5) hC5.2.1 (fun q hq => z_I_sAn _ _ _ hq) rfl hC5.2.2, RGn, go, M2, by rw [nb3] at T2; exact T2⟩
  rw [← LV, ← c_vis70 hC5 hi, ← E5]
  have e6 := (c_L (zC0_of hC1)).2.1
  have b0 : s_begin g (ad i) 0 = g 0 := bn (by omega) (by omega) (by omega) (by omega)
  rw [b0] at e6
  simp only [f_X8_makeVisit_18, zc_some, hL.1, if_true, zl_eq, e9, E1, zb2_eq, hC1.1.1, e6, E2, zb_eq, E3, E4]
end CLASS
end
section
/-! WHAT STAYS BEHIND A VISIT -/
/-- the time goes on by so much at most, and the rest that a visit asks of stays -/
def s_adv (g g' : zG) (d : Nat) : Prop := (∃ e, e ≤ d ∧ g' 3 = n32 (s_nat g 3 + e)) ∧ (∀ j, j < 3 → g' j = g j) ∧ (∀ j, 5 ≤ j → j < 11 → g' j = g j) ∧ (∀ j, 242 ≤ j → g' j = g j) ∧ ∀ x, x < 32 → g' (18 + 7 * x + 0) = g (18 + 7 * x + 0)
theorem s_adv_t {g g' g'' : zG} {d d' : Nat} (h : s_adv g g' d) (hb : s_nat g 3 + d < 2147483648) (h2 : s_adv g' g'' d') : s_adv g g'' (d + d') := by
  obtain ⟨⟨e, he, h3⟩, a1, a2, a3, a4⟩ := h
  obtain ⟨⟨e', he', h3'⟩, b1, b2, b3, b4⟩ := h2
  have : s_nat g' 3 = s_nat g 3 + e := s_nat_n32 h3 (by omega)
  refine ⟨⟨e + e', by omega, by rw [h3', this]; congr 1; omega⟩, fun j hj => by rw [b1 j hj, a1 j hj], fun j h1 h2 => by rw [b2 j h1 h2, a2 j h1 h2], fun j h1 => by rw [b3 j h1, a3 j h1], fun x hx => by rw [b4 x hx, a4 x hx]⟩
theorem s_adv_w {g g' : zG} {d d' : Nat} (h : s_adv g g' d) (hd : d ≤ d') : s_adv g g' d' := by
  obtain ⟨⟨e, he, h3⟩, r⟩ := h
  exact ⟨⟨e, by omega, h3⟩, r⟩
theorem s_adv_r {g : zG} (h : g 3 = n32 (s_nat g 3)) : s_adv g g 0 := ⟨⟨0, Nat.le_refl _, h⟩, fun _ _ => rfl, fun _ _ _ => rfl, fun _ _ => rfl, fun _ _ => rfl⟩
theorem s_adv_3 {g g' : zG} {d : Nat} (h : s_adv g g' d) (hb : s_nat g 3 + d < 2147483648) : g' 3 = n32 (s_nat g' 3) ∧ s_nat g' 3 ≤ s_nat g 3 + d := by
  obtain ⟨⟨e, he, h3⟩, _⟩ := h
  have : s_nat g' 3 = s_nat g 3 + e := s_nat_n32 h3 (by omega)
  exact ⟨by rw [this]; exact h3, by omega⟩
/-- a number is put where nothing is asked -/
theorem s_adv_gu {g : zG} (h : g 3 = n32 (s_nat g 3)) {k : Nat} (v : Int32) (hk : k = 4 ∨ (11 ≤ k ∧ k < 18) ∨ ∃ x w, x < 32 ∧ 1 ≤ w ∧ w < 7 ∧ k = 18 + 7 * x + w) : s_adv g (gu g k v) 0 := by
  have h3 : gu g k v 3 = g 3 := gu_ne _ _ (by rcases hk with hk | hk | ⟨x, w, h1, h2, h3, hk⟩ <;> omega)
  refine ⟨⟨0, Nat.le_refl _, by rw [h3]; exact h⟩, fun j hj => gu_ne _ _ ?_, fun j h1 h2 => gu_ne _ _ ?_, fun j h1 => gu_ne _ _ ?_, fun y hy => gu_ne _ _ ?_⟩
  all_goals rcases hk with hk | hk | ⟨x, w, h1, h2, h3, hk⟩ <;> omega
theorem s_adv_takes {g : zG} (h : g 3 = n32 (s_nat g 3)) : s_adv g (s_takes g (n32 1)) 1 := by
  refine ⟨⟨1, Nat.le_refl _, ?_⟩, fun j hj => s_takes_ne _ _ (by omega) (by omega), fun j h1 h2 => s_takes_ne _ _ (by omega) (by omega), fun j h1 => s_takes_ne _ _ (by omega) (by omega), fun y hy => s_takes_ne _ _ (by omega) (by omega)⟩
  rw [s_takes_3]
  conv => lhs; lhs; rw [h]
  rw [n32_add]
theorem s_adv_tick {g : zG} (h : g 3 = n32 (s_nat g 3)) {s : Nat} (hs : s ≤ 20) (h1 : g 1 = n32 s) : s_adv g (s_tick g) 20 := by
  refine ⟨⟨s, hs, ?_⟩, fun j hj => s_tick_ne _ (by omega), fun j h1 h2 => s_tick_ne _ (by omega), fun j h1 => s_tick_ne _ (by omega), fun y hy => s_tick_ne _ (by omega)⟩
  unfold s_tick
  rw [gu_same, h1]
  conv => lhs; lhs; rw [h]
  rw [n32_add]
section ADV
variable {g : zG} {s : Nat}
theorem s_adv_come {h to : Nat} (hh : h < 32) (ht : to < 32) (h3 : g 3 = n32 (s_nat g 3)) : s_adv g (s_come g h to) 0 := by
  unfold s_come
  have e : s_come g h to 3 = g 3 := s_come_ne _ _ _ (by decide) (by omega) hh ht
  refine ⟨⟨0, Nat.le_refl _, by unfold s_come at e; rw [e]; exact h3⟩, fun j hj => ?_, fun j h1 h2 => ?_, fun j h1 => ?_, fun y hy => ?_⟩
  · exact s_come_ne _ _ _ (by omega) (by omega) hh ht
  · exact s_come_ne _ _ _ (by omega) (by omega) hh ht
  · exact s_come_ne _ _ _ (by omega) (by omega) hh ht
  · rw [gu_ne _ _ (by omega), gu_ne _ _ (by omega), gu_ne _ _ (by omega), gu_ne _ _ (by omega), gu_ne _ _ (by omega)]
theorem s_adv_ci {h to : Nat} (hh : h < 32) (ht : to < 32) (h3 : g 3 = n32 (s_nat g 3)) (hb : s_nat g 3 ≤ 2100000000) : s_adv g (s_ci g h to).2 2 := by
  have T := s_adv_takes h3
  have t3 := s_adv_3 T (by omega)
  have T2 := s_adv_takes t3.1
  have t4 := s_adv_3 T2 (by omega)
  unfold s_ci
  split
  · exact s_adv_w T (by omega)
  · split
    · split
      · exact s_adv_t T (by omega) T2
      · exact s_adv_t (d' := 0) (s_adv_t T (by omega) T2) (by omega) (s_adv_come hh ht t4.1)
    · exact s_adv_w T (by omega)
theorem s_adv_poll {h to : Nat} (hh : h < 32) (ht : to < 32) (h3 : g 3 = n32 (s_nat g 3)) (hb : s_nat g 3 ≤ 2100000000) (hs : s ≤ 20) (h1 : g 1 = n32 s) : s_adv g (s_poll g h to) 22 := by
  have G := s_adv_gu h3 (k := 18 + 7 * h + 4) (n32 to) (Or.inr (Or.inr ⟨h, 4, hh, by omega, by omega, rfl⟩))
  have g3 := s_adv_3 G (by omega)
  have C := s_adv_ci (h := h) (to := to) hh ht g3.1 (by omega)
  have c3 := s_adv_3 C (by omega)
  have D := s_adv_t G (by omega) C
  rw [s_poll_ci]
  split
  · exact s_adv_w D (by omega)
  · exact s_adv_t D (by omega) (s_adv_tick c3.1 hs (by rw [D.2.1 1 (by decide)]; exact h1))
theorem s_adv_polls {h nx gp : Nat} (hh : h < 32) (h3 : g 3 = n32 (s_nat g 3)) (hb : s_nat g 3 ≤ 2100000000) (hs : s ≤ 20) (h1 : g 1 = n32 s) : s_adv g (s_polls g h nx gp) 22 := by
  unfold s_polls
  split
  · split
    · exact s_adv_w (s_adv_r h3) (by omega)
    · exact s_adv_poll hh (s_to_lt _ _ _) h3 hb hs h1
  · exact s_adv_w (s_adv_r h3) (by omega)
theorem s_adv_tries (nx : Nat) (hs : s ≤ 20) : ∀ (k : Nat) (g : zG), g 3 = n32 (s_nat g 3) → s_nat g 3 + 21 * k ≤ 2100000000 → g 1 = n32 s → s_adv g (s_tries nx k g).2 (21 * k) := by
  intro k
  induction k with
  | zero => intro g h3 _ _; exact s_adv_r h3
  | succ k ih =>
    intro g h3 hb h1
    have T := s_adv_takes h3
    have t3 := s_adv_3 T (by omega)
    rw [s_tries]
    split
    · exact s_adv_w (s_adv_t (d' := 0) T (by omega) (s_adv_gu t3.1 _ (Or.inl rfl))) (by omega)
    · have K := s_adv_t T (by omega) (s_adv_tick t3.1 hs (by rw [T.2.1 1 (by decide)]; exact h1))
      have k3 := s_adv_3 K (by omega)
      exact s_adv_w (s_adv_t K (by omega) (ih _ k3.1 (by omega) (by rw [K.2.1 1 (by decide)]; exact h1))) (by omega)
theorem s_adv_ask (h : Nat) (hs : s ≤ 20) : ∀ (k : Nat) (g : zG) (to : Nat), g 3 = n32 (s_nat g 3) → s_nat g 3 + 21 * k ≤ 2100000000 → g 1 = n32 s → s_adv g (s_ask h k g to).1 (21 * k) := by
  intro k
  induction k with
  | zero => intro g to h3 _ _; exact s_adv_r h3
  | succ k ih =>
    intro g to h3 hb h1
    have T := s_adv_takes h3
    have t3 := s_adv_3 T (by omega)
    rw [s_ask]
    split
    · exact s_adv_w (s_adv_r h3) (by omega)
    · split
      · exact s_adv_w T (by omega)
      · have K := s_adv_t T (by omega) (s_adv_tick t3.1 hs (by rw [T.2.1 1 (by decide)]; exact h1))
        have k3 := s_adv_3 K (by omega)
        exact s_adv_w (s_adv_t K (by omega) (ih _ _ k3.1 (by omega) (by rw [K.2.1 1 (by decide)]; exact h1))) (by omega)
theorem s_ask_lt (h : Nat) (hh : h < 32) : ∀ (k : Nat) (g : zG) (to : Nat), to < 32 → (h + 32 - to) % 32 ≤ k → (s_ask h k g to).2 < 32 ∧ ((s_ask h k g to).2 = h ∨ s_ring (s_ask h k g to).1 (s_ask h k g to).2 = true) := by
  intro k
  induction k with
  | zero =>
    intro g to ht hd
    refine ⟨ht, Or.inl ?_⟩
    show to = h
    omega
  | succ k ih =>
    intro g to ht hd
    rw [s_ask]
    split
    · rename_i he; exact ⟨ht, Or.inl he⟩
    · split
      · rename_i hc; exact ⟨ht, Or.inr hc.2⟩
      · exact ih _ _ (Nat.mod_lt _ (by decide)) (by omega)
theorem s_adv_passes {h nx : Nat} (hh : h < 32) (hx : nx < 32) (h3 : g 3 = n32 (s_nat g 3)) (hb : s_nat g 3 ≤ 2000100000) (hs : s ≤ 20) (h1 : g 1 = n32 s) : s_adv g (s_passes g h nx) 735 := by
  have A := s_adv_tries nx hs 3 g h3 (by omega) h1
  have a3 := s_adv_3 A (by omega)
  unfold s_passes
  split
  · exact s_adv_w A (by omega)
  · have D : s_adv (s_tries nx 3 g).2 (s_drop (s_tries nx 3 g).2 h nx) 0 := by
      unfold s_drop
      split
      · have e := s_adv_gu a3.1 (k := 18 + 7 * nx + 2) (n32 0) (Or.inr (Or.inr ⟨nx, 2, hx, by omega, by omega, rfl⟩))
        have e3 := s_adv_3 e (by omega)
        exact s_adv_t (d' := 0) e (by omega) (s_adv_gu e3.1 _ (Or.inr (Or.inl (by omega))))
      · exact s_adv_r a3.1
    have AD := s_adv_t A (by omega) D
    have d3 := s_adv_3 AD (by omega)
    have E := s_adv_ask h hs 32 (s_drop (s_tries nx 3 g).2 h nx) ((nx + 1) % 32) d3.1 (by omega) (by rw [AD.2.1 1 (by decide)]; exact h1)
    have ADE := s_adv_t AD (by omega) E
    have e3 := s_adv_3 ADE (by omega)
    unfold s_end
    have F := s_adv_gu e3.1 (k := 18 + 7 * h + 3) (n32 (s_ask h 32 (s_drop (s_tries nx 3 g).2 h nx) ((nx + 1) % 32)).2) (Or.inr (Or.inr ⟨h, 3, hh, by omega, by omega, rfl⟩))
    have f3 := s_adv_3 F (by omega)
    exact s_adv_w (s_adv_t ADE (by omega) (s_adv_t (d' := 0) F (by omega) (s_adv_gu f3.1 _ (Or.inl rfl)))) (by omega)
/-- who has the token behind a visit -/
def s_hol (g : zG) : Prop := g 4 = nn ∨ ∃ x, x < 32 ∧ g 4 = n32 x ∧ g (18 + 7 * x + 0) = n32 1
theorem s_tries_hol {nx : Nat} (hx : nx < 32) : ∀ (k : Nat) (g : zG), (s_tries nx k g).1 = true → (s_tries nx k g).2 4 = n32 nx ∧ (s_tries nx k g).2 (18 + 7 * nx + 0) = n32 1 := by
  intro k
  induction k with
  | zero => intro g h; cases h
  | succ k ih =>
    intro g
    rw [s_tries]
    split
    · rename_i hc
      intro _
      refine ⟨gu_same (s_takes g (n32 1)) 4 (n32 nx), ?_⟩
      show gu (s_takes g (n32 1)) 4 (n32 nx) (18 + 7 * nx + 0) = _
      rw [gu_ne _ _ (by omega)]
      have := hc.2
      simp only [s_ring, Bool.and_eq_true, decide_eq_true_eq] at this
      exact this.1.1
    · exact ih _
theorem s_passes_hol {h nx : Nat} (hh : h < 32) (hx : nx < 32) (hz : g (18 + 7 * h + 0) = n32 1) (h3 : g 3 = n32 (s_nat g 3)) (hb : s_nat g 3 ≤ 2000100000) (hs : s ≤ 20) (h1 : g 1 = n32 s) : s_hol (s_passes g h nx) := by
  have AP := s_adv_passes hh hx h3 hb hs h1
  right
  unfold s_passes at AP ⊢
  split
  · rename_i ht
    exact ⟨nx, hx, s_tries_hol hx 3 g ht⟩
  · rename_i ht
    rw [if_neg ht] at AP
    have hm := Nat.mod_lt (nx + 1) (show 32 > 0 by decide)
    obtain ⟨l1, l2⟩ := s_ask_lt h hh 32 (s_drop (s_tries nx 3 g).2 h nx) ((nx + 1) % 32) hm (by omega)
    refine ⟨_, l1, by unfold s_end; rw [gu_same], ?_⟩
    rcases l2 with l2 | l2
    · rw [l2] at AP ⊢
      rw [AP.2.2.2.2 h hh]; exact hz
    · simp only [s_ring, Bool.and_eq_true, decide_eq_true_eq] at l2
      unfold s_end
      rw [gu_ne _ _ (by omega), gu_ne _ _ (by omega)]
      exact l2.1.1
theorem s_sta_tries (nx : Nat) : ∀ (k : Nat) (g : zG), s_sta g → s_sta (s_tries nx k g).2 := by
  intro k
  induction k with
  | zero => intro g h; exact h
  | succ k ih =>
    intro g h
    rw [s_tries]
    split
    · exact s_sta_gu4 (s_sta_takes _ h)
    · exact ih _ (s_sta_tick (s_sta_takes _ h))
theorem s_sta_ask (h : Nat) : ∀ (k : Nat) (g : zG) (to : Nat), s_sta g → s_sta (s_ask h k g to).1 := by
  intro k
  induction k with
  | zero => intro g to H; exact H
  | succ k ih =>
    intro g to H
    rw [s_ask]
    split
    · exact H
    · split
      · exact s_sta_takes _ H
      · exact ih _ _ (s_sta_tick (s_sta_takes _ H))
theorem s_sta_end {h to : Nat} (H : s_sta g) (ht : to < 32) : s_sta (s_end g h to) := by
  unfold s_end
  refine s_sta_gu4 ?_
  intro y hy h0
  rw [gu_ne _ _ (by omega)] at h0
  have := H y hy h0
  by_cases hyh : y = h
  · subst hyh
    simp (disch := omega) only [gu_ne, gu_same]
    exact ⟨this.1, this.2.1, this.2.2.1, ⟨to, ht, rfl⟩, this.2.2.2.2⟩
  · simp (disch := omega) only [gu_ne]
    exact this
theorem s_sta_passes {h nx : Nat} (H : s_sta g) (hh : h < 32) (hx : nx < 32) : s_sta (s_passes g h nx) := by
  unfold s_passes
  split
  · exact s_sta_tries _ _ _ H
  · have hm := Nat.mod_lt (nx + 1) (show 32 > 0 by decide)
    exact s_sta_end (s_sta_ask _ _ _ _ (s_sta_drop (s_sta_tries _ _ _ H) hx)) (s_ask_lt h hh 32 _ _ hm (by omega)).1
theorem s_sta_polls {h nx gp : Nat} (H : s_sta g) (hh : h < 32) (hz : g (18 + 7 * h + 0) = n32 1) : s_sta (s_polls g h nx gp) := by
  unfold s_polls
  split
  · split
    · exact H
    · exact s_sta_poll H hh (s_to_lt _ _ _) hz
  · exact H
end ADV
end
section
theorem s_vis_inv {g : zG} (hN : s_num g) {s : Nat} (hs : s ≤ 20) (h1 : g 1 = n32 s) {h : Nat} (hh : h < 32) (hz : g (18 + 7 * h + 0) = n32 1) (hm : s_mo (s_mid g h 101)) (ht : s_nat (s_mid g h 101) 3 ≤ s_nat g 3 + 2040) (hb : s_nat g 3 ≤ 1900000000) {mv : Nat} (hmv : mv < 2000000000) (h9 : g 9 = n32 mv) :
    s_num (s_vis g h 101) ∧ s_vis g h 101 1 = n32 s ∧ s_hol (s_vis g h 101) ∧ s_nat (s_vis g h 101) 3 ≤ s_nat g 3 + 2800 ∧ s_vis g h 101 9 = n32 (mv + 1) ∧ s_vis g h 101 0 = g 0 ∧ s_vis g h 101 2 = g 2 ∧ (∀ x, x < 32 → s_vis g h 101 (18 + 7 * x + 0) = g (18 + 7 * x + 0)) := by
  obtain ⟨h5, h52, ⟨z, hz6, h6⟩, ⟨gg, hg1, hg2, h2⟩, hmo, _, hst, mv', hmv', h9', h7⟩ := hN
  have emv : mv' = mv := by
    have a := s_nat_n32 h9' (by omega)
    have b := s_nat_n32 h9 (by omega)
    omega
  subst emv
  have ob := s_ok_begin (show s_ok g from ⟨⟨z, hz6, h6⟩, ⟨_, h5, h52⟩⟩) h
  have bn : ∀ {j : Nat}, j ≠ 8 → j ≠ 9 → j ≠ 18 + 7 * h + 5 → j ≠ 18 + 7 * h + 6 → s_begin g h j = g j := fun a b c d => s_begin_ne _ _ a b c d
  have mid : ∀ {j : Nat}, j ≠ 3 → j ≠ 11 → j ≠ 10 → j ≠ 15 → (j < 242 ∨ 742 ≤ j) → s_mid g h 101 j = s_begin g h j := fun a b c d e => s_all_ne _ _ _ _ _ a b c d e ob
  have n7 : s_nat g 7 = min mv' 40 := s_nat_n32 h7 (by omega)
  have st := hst h hh hz
  obtain ⟨nx, hnx, e3⟩ := st.2.2.2.1
  obtain ⟨gp, hgp, e4⟩ := st.2.2.2.2
  have evis : s_vis g h 101 = s_ps (s_pl (s_logged g h 101 (s_nat g 7)) h) h := rfl
  have g7 : s_logged g h 101 (s_nat g 7) 7 = n32 (min (mv' + 1) 40) := by
    unfold s_logged s_log
    rw [n7]
    by_cases hc : min mv' 40 = 40
    · rw [if_pos hc]
      unfold s_put; rw [gu_same]; congr 1; omega
    · rw [if_neg hc]
      unfold s_put; rw [gu_same]; congr 1; omega
  have lgd : ∀ {j : Nat}, j ≠ 7 → j < 782 → s_logged g h 101 (s_nat g 7) j = s_mid g h 101 j := fun a b => by unfold s_logged; exact s_log_ne _ _ _ _ _ _ a b
  rw [evis]
  generalize s_logged g h 101 (s_nat g 7) = gl at *
  have lg2 : ∀ {j : Nat}, j ≠ 7 → j ≠ 3 → j ≠ 11 → j ≠ 10 → j ≠ 15 → j ≠ 8 → j ≠ 9 → j ≠ 18 + 7 * h + 5 → j ≠ 18 + 7 * h + 6 → j < 242 → gl j = g j := fun a b c d e f p q r s => by
    rw [lgd a (by omega), mid b c d e (Or.inl s), bn f p q r]
  have l3 : gl 3 = s_mid g h 101 3 := lgd (by omega) (by omega)
  have nl3 : s_nat gl 3 = s_nat (s_mid g h 101) 3 := by unfold s_nat; rw [l3]
  have tl : gl 3 = n32 (s_nat gl 3) := by rw [nl3, l3]; exact hm.1
  have l1 : gl 1 = n32 s := by rw [lg2 (by omega) (by omega) (by omega) (by omega) (by omega) (by omega) (by omega) (by omega) (by omega) (by omega)]; exact h1
  have lx : gl (18 + 7 * h + 3) = n32 nx := by rw [lg2 (by omega) (by omega) (by omega) (by omega) (by omega) (by omega) (by omega) (by omega) (by omega) (by omega)]; exact e3
  have lp : gl (18 + 7 * h + 4) = n32 gp := by rw [lg2 (by omega) (by omega) (by omega) (by omega) (by omega) (by omega) (by omega) (by omega) (by omega) (by omega)]; exact e4
  have lz : gl (18 + 7 * h + 0) = n32 1 := by rw [lg2 (by omega) (by omega) (by omega) (by omega) (by omega) (by omega) (by omega) (by omega) (by omega) (by omega)]; exact hz
  have stl : s_sta gl := by
    refine s_sta_congr (g := s_begin g h) (fun j h18 h242 => ?_) (s_sta_begin hh hst)
    rw [lgd (by omega) (by omega), mid (by omega) (by omega) (by omega) (by omega) (Or.inl h242)]
  have P := s_adv_polls (nx := nx) (gp := gp) hh tl (by omega) hs l1
  have epl : s_polls gl h nx gp = s_pl gl h := by unfold s_pl; rw [s_nat_n32 lx (by omega), s_nat_n32 lp (by omega)]
  obtain ⟨ny, hny, ly⟩ := s_polls_next (gp := gp) gl hh hnx lx
  have stp := s_sta_polls (nx := nx) (gp := gp) stl hh lz
  rw [epl] at P ly stp
  have p3 := s_adv_3 P (by omega)
  have p1 : s_pl gl h 1 = n32 s := by rw [P.2.1 1 (by decide)]; exact l1
  have pz : s_pl gl h (18 + 7 * h + 0) = n32 1 := by rw [P.2.2.2.2 h hh]; exact lz
  have Q := s_adv_passes (nx := ny) hh hny p3.1 (by omega) hs p1
  have hol := s_passes_hol (nx := ny) hh hny pz p3.1 (by omega) hs p1
  have stq := s_sta_passes (nx := ny) stp hh hny
  have eps : s_passes (s_pl gl h) h ny = s_ps (s_pl gl h) h := by unfold s_ps; rw [s_nat_n32 ly (by omega)]
  rw [eps] at Q hol stq
  have A := s_adv_t P (by omega) Q
  have a3 := s_adv_3 A (by omega)
  have r5 : s_ps (s_pl gl h) h 5 = g 5 := by rw [A.2.2.1 5 (by decide) (by decide)]; exact lg2 (by omega) (by omega) (by omega) (by omega) (by omega) (by omega) (by omega) (by omega) (by omega) (by omega)
  have r6 : s_ps (s_pl gl h) h 6 = g 6 := by rw [A.2.2.1 6 (by decide) (by decide)]; exact lg2 (by omega) (by omega) (by omega) (by omega) (by omega) (by omega) (by omega) (by omega) (by omega) (by omega)
  have r9 : s_ps (s_pl gl h) h 9 = n32 (mv' + 1) := by
    rw [A.2.2.1 9 (by decide) (by decide), lgd (by omega) (by omega), mid (by omega) (by omega) (by omega) (by omega) (by omega)]
    unfold s_begin
    rw [gu_ne _ _ (by omega), gu_same, h9, n32_add]
  have nr5 : s_nat (s_ps (s_pl gl h) h) 5 = s_nat g 5 := by unfold s_nat; rw [r5]
  have r0 : s_ps (s_pl gl h) h 0 = g 0 := by rw [A.2.1 0 (by decide)]; exact lg2 (by omega) (by omega) (by omega) (by omega) (by omega) (by omega) (by omega) (by omega) (by omega) (by omega)
  have r2 : s_ps (s_pl gl h) h 2 = g 2 := by rw [A.2.1 2 (by decide)]; exact lg2 (by omega) (by omega) (by omega) (by omega) (by omega) (by omega) (by omega) (by omega) (by omega) (by omega)
  have mol : s_mo gl := by
    refine s_mo_t (d := 0) hm (by rw [l3, Nat.add_zero]; exact hm.1) (by omega) (lgd (by omega) (by omega)) (fun m hmm => ?_)
    have : s_nat (s_mid g h 101) 5 = s_nat g 5 := by unfold s_nat; rw [mid (by omega) (by omega) (by omega) (by omega) (by omega), bn (by omega) (by omega) (by omega) (by omega)]
    exact ⟨lgd (by omega) (by omega), lgd (by omega) (by omega)⟩
  have moq : s_mo (s_ps (s_pl gl h) h) := by
    have A9 := A
    obtain ⟨⟨e, he, h3e⟩, _⟩ := A9
    exact s_mo_t (d := e) mol h3e (by omega) (A.2.2.1 5 (by decide) (by decide)) (fun m _ => ⟨A.2.2.2.1 _ (by omega), A.2.2.2.1 _ (by omega)⟩)
  refine ⟨⟨by rw [nr5]; exact h5, by rw [nr5, r5]; exact h52, ⟨z, hz6, by rw [r6]; exact h6⟩, ⟨gg, hg1, hg2, by rw [r2]; exact h2⟩, moq, by omega, stq, mv' + 1, by omega, r9, by rw [A.2.2.1 7 (by decide) (by decide)]; exact g7⟩, by rw [A.2.1 1 (by decide)]; exact l1, hol, by omega, r9, r0, r2, fun x hx => ?_⟩
  rw [A.2.2.2.2 x hx]
  exact lg2 (by omega) (by omega) (by omega) (by omega) (by omega) (by omega) (by omega) (by omega) (by omega) (by omega)
/-- the token made anew keeps what is asked -/
theorem s_tok_ne (g : zG) {x j : Nat} (h3 : j ≠ 3) (h4 : j ≠ 4) (h12 : j ≠ 12) (h5 : j ≠ 18 + 7 * x + 2) (h6 : j ≠ 18 + 7 * x + 3) : s_tok g x j = g j := by
  unfold s_tok
  by_cases hr : s_ring g x = true
  · simp only [hr, if_true]
    rw [gu_ne _ _ h12, gu_ne _ _ h4, gu_ne _ _ h3]
  · simp only [hr, if_false, Bool.false_eq_true]
    rw [gu_ne _ _ h12, gu_ne _ _ h4, gu_ne _ _ h6, gu_ne _ _ h5, gu_ne _ _ h3]
theorem s_tok_3 (g : zG) {x : Nat} (hx : x < 32) : s_tok g x 3 = g 3 + g 1 * n32 (6 + 2 * x) := by
  unfold s_tok
  by_cases hr : s_ring g x = true
  · simp only [hr, if_true]
    rw [gu_ne _ _ (by omega), gu_ne _ _ (by omega), gu_same]
  · simp only [hr, if_false, Bool.false_eq_true]
    rw [gu_ne _ _ (by omega), gu_ne _ _ (by omega), gu_ne _ _ (by omega), gu_ne _ _ (by omega), gu_same]
theorem s_tok_inv {g : zG} (hN : s_num g) {s : Nat} (hs : s ≤ 20) (h1 : g 1 = n32 s) {x : Nat} (hx : x < 32) (hon : g (18 + 7 * x + 1) = n32 1) (hb : s_nat g 3 ≤ 1900000000) : s_num (s_tok g x) ∧ s_nat (s_tok g x) 3 ≤ s_nat g 3 + 1360 := by
  obtain ⟨h5, h52, ⟨z, hz6, h6⟩, ⟨gg, hg1, hg2, h2⟩, hmo, _, hst, mv, hmv, h9, h7⟩ := hN
  have hle : s * (6 + 2 * x) ≤ 1360 := by
    have : s * (6 + 2 * x) ≤ 20 * 68 := Nat.mul_le_mul hs (by omega)
    omega
  have e3 : s_tok g x 3 = n32 (s_nat g 3 + s * (6 + 2 * x)) := by
    rw [s_tok_3 g hx, h1, n32_mul]
    conv => lhs; lhs; rw [hmo.1]
    rw [n32_add]
  have t5 : s_tok g x 5 = g 5 := s_tok_ne _ (by omega) (by omega) (by omega) (by omega) (by omega)
  have nt3 := s_nat_n32 e3 (by omega)
  have nt5 : s_nat (s_tok g x) 5 = s_nat g 5 := by unfold s_nat; rw [t5]
  refine ⟨⟨by rw [nt5]; exact h5, by rw [nt5, t5]; exact h52, ⟨z, hz6, by rw [s_tok_ne _ (by omega) (by omega) (by omega) (by omega) (by omega)]; exact h6⟩, ⟨gg, hg1, hg2, by rw [s_tok_ne _ (by omega) (by omega) (by omega) (by omega) (by omega)]; exact h2⟩, ?_, by omega, s_sta_tok hst hx hon, mv, hmv, by rw [s_tok_ne _ (by omega) (by omega) (by omega) (by omega) (by omega)]; exact h9, by rw [s_tok_ne _ (by omega) (by omega) (by omega) (by omega) (by omega)]; exact h7⟩, by omega⟩
  exact s_mo_t hmo e3 (by omega) t5 (fun m _ => ⟨s_tok_ne _ (by omega) (by omega) (by omega) (by omega) (by omega), s_tok_ne _ (by omega) (by omega) (by omega) (by omega) (by omega)⟩)
end
section
/-- what is said of an array before a visit, with the holder and the slot -/
def s_inv (g : zG) (B V : Nat) : Prop := s_num g ∧ (∃ s, s ≤ 20 ∧ g 1 = n32 s) ∧ s_hol g ∧ s_nat g 3 ≤ B ∧ s_nat g 9 ≤ V
/-- what a visit leaves alone -/
def s_same (g g' : zG) : Prop := (∀ j, j < 3 → g' j = g j) ∧ (∀ x, x < 32 → g' (18 + 7 * x + 0) = g (18 + 7 * x + 0))
theorem qG_congr {σ σ' : zSt} {a : Nat} {g g' : zG} (h10 : z_I σ' (a + 10) = z_I σ (a + 10)) (h7 : g' 7 = g 7) (h9 : g' 9 = g 9) (h : ∀ j, 782 ≤ j → g' j = g j) (H : qG σ a g) : qG σ' a g' := by
  have e7 : s_nat g' 7 = s_nat g 7 := by unfold s_nat; rw [h7]
  have e9 : s_nat g' 9 = s_nat g 9 := by unfold s_nat; rw [h9]
  intro i w hi hw
  rw [e7] at hi ⊢
  rw [e9, h10, h _ (by omega)]
  exact H i w hi hw
section CLASS
variable {σ : zSt} {a n : Nat} {pl ad : Nat → Nat} {qu : Nat → Nat → Nat} {g : zG}
/-- A VISIT: the class's line is the reference's array again -/
theorem c_makeVisit {B V : Nat} (hL : zLs σ a) (hP : zPl σ a pl) (hR : zRep σ a pl ad qu n g) (hG : qG σ a g) (hI : s_inv g B V) (hB : B ≤ 1800000000) (hV : V < 1900000000) :
    ∃ σ' qu', f_X8_makeVisit σ a = some σ' ∧ zFr a σ σ' ∧ zRep σ' a pl ad qu' n (s_visits g) ∧ qG σ' a (s_visits g) ∧ s_vok g ∧ s_inv (s_visits g) (B + 4200) (V + 1) ∧ s_same g (s_visits g) := by
  obtain ⟨hN, ⟨s, hs, h1⟩, hol, hb, hv⟩ := hI
  have hN' := hN
  obtain ⟨h5, h52, h6, hgg, hmo, hb2, hst, mv, hmv, h9, h7⟩ := hN'
  have nv : s_nat g 9 = mv := s_nat_n32 h9 (by omega)
  have h : zCs σ a pl ad qu n g := ⟨hL, hP, hR, h6, hst⟩
  have h0 := zC0_of h
  have e10 := (c_L h0).2.2.2.2.2
  rcases hol with h4 | ⟨x, hx, h4, hz⟩
  · -- no holder
    have F := c_findn h
    rcases c_anew h with ⟨hh, E⟩ | ⟨i, σ1, hi, hh, hon, E, A⟩
    · have ev : s_visits g = g := by unfold s_visits; rw [if_pos h4, if_pos hh]
      rw [ev]
      refine ⟨σ, qu, ?_, zFr_r a σ, hR, hG, Or.inl ⟨h4, Or.inl hh⟩, ⟨hN, ⟨s, hs, h1⟩, Or.inl h4, by omega, by omega⟩, fun _ _ => rfl, fun _ _ => rfl⟩
      unfold f_X8_makeVisit
      rw [if_pos hL.1, e10, h4, F]
      rw [zb_eq, zc_none, E]
      rfl
    · have hai := c_ad h0 hi
      have ti := s_tok_inv hN hs h1 hai.1 hon (by omega)
      have tn : ∀ {j : Nat}, j ≠ 3 → j ≠ 4 → j ≠ 12 → j ≠ 18 + 7 * ad i + 2 → j ≠ 18 + 7 * ad i + 3 → s_tok g (ad i) j = g j := fun a b c d e => s_tok_ne g a b c d e
      have G1 : qG σ1 a (s_tok g (ad i)) := qG_congr A.2.1 (tn (by omega) (by omega) (by omega) (by omega) (by omega)) (tn (by omega) (by omega) (by omega) (by omega) (by omega)) (fun j hj => tn (by omega) (by omega) (by omega) (by omega) (by omega)) hG
      obtain ⟨σ2, qu2, E2, F2, R2, G2, go, m1, m2⟩ := c_vis18 (zLs_fr A.1 hL) (zPl_fr A.1 hP) A.2.2 G1 ti.1 hi (s_tok_4 g (ad i))
      have t1 : s_tok g (ad i) 1 = n32 s := by rw [tn (by omega) (by omega) (by omega) (by omega) (by omega)]; exact h1
      have t9 : s_tok g (ad i) 9 = n32 mv := by rw [tn (by omega) (by omega) (by omega) (by omega) (by omega)]; exact h9
      have tz : s_tok g (ad i) (18 + 7 * ad i + 0) = n32 1 := by rw [tn (by omega) (by omega) (by omega) (by omega) (by omega)]; exact hai.2
      obtain ⟨i1, i2, i3, i4, i5, i6, i7, i8⟩ := s_vis_inv ti.1 hs t1 hai.1 tz m1 m2 (by have := ti.2; omega) (mv := mv) (by omega) t9
      have ev : s_visits g = s_vis (s_tok g (ad i)) (ad i) 101 := by
        unfold s_visits
        have hne : ¬ s_h2 g = nn := by rw [hh, n32_ne (by omega)]; exact not_false
        rw [if_pos h4, if_neg hne, hh, n32_toNat (by omega)]
      rw [ev]
      refine ⟨σ2, qu2, ?_, zFr_t A.1 F2, R2, G2, Or.inl ⟨h4, Or.inr ⟨ad i, hai.1, hh, go⟩⟩, ⟨i1, ⟨s, hs, i2⟩, i3, by have := ti.2; omega, ?_⟩, ?_, ?_⟩
      · unfold f_X8_makeVisit
        rw [if_pos hL.1, e10, h4, F]
        rw [zb_eq, zc_none, E]
        exact E2
      · rw [s_nat_n32 i5 (by omega)]; omega
      · intro j hj
        rcases (show j = 0 ∨ j = 1 ∨ j = 2 by omega) with rfl | rfl | rfl
        · rw [i6]; exact tn (by omega) (by omega) (by omega) (by omega) (by omega)
        · rw [i2, h1]
        · rw [i7]; exact tn (by omega) (by omega) (by omega) (by omega) (by omega)
      · intro y hy
        rw [i8 y hy]; exact tn (by omega) (by omega) (by omega) (by omega) (by omega)
  · -- a holder
    obtain ⟨i, hi, rfl⟩ : ∃ i, i < n ∧ ad i = x := by
      rcases c_is h hx with hz0 | hz1
      · rw [hz0] at hz; exact absurd hz (by decide)
      · exact hz1.2
    have F := c_find1 h hi
    obtain ⟨σ2, qu2, E2, F2, R2, G2, go, m1, m2⟩ := c_vis18 hL hP hR hG hN hi h4
    obtain ⟨i1, i2, i3, i4, i5, i6, i7, i8⟩ := s_vis_inv hN hs h1 hx hz m1 m2 (by omega) (mv := mv) (by omega) h9
    have ev : s_visits g = s_vis g (ad i) 101 := by
      unfold s_visits
      have hne : ¬ g 4 = nn := by rw [h4, n32_ne (by omega)]; exact not_false
      rw [if_neg hne, s_nat_n32 h4 (by omega)]
    rw [ev]
    refine ⟨σ2, qu2, ?_, F2, R2, G2, Or.inr ⟨ad i, h4, go⟩, ⟨i1, ⟨s, hs, i2⟩, i3, by omega, by rw [s_nat_n32 i5 (by omega)]; omega⟩, ?_, i8⟩
    · unfold f_X8_makeVisit
      rw [if_pos hL.1, e10, h4, F]
      exact E2
    · intro j hj
      rcases (show j = 0 ∨ j = 1 ∨ j = 2 by omega) with rfl | rfl | rfl
      · exact i6
      · rw [i2, h1]
      · exact i7
end CLASS
end
section
/-! A LINE IS COPIED FROM ANOTHER -/
theorem z_cp_sA (σ : zSt) (q0 q1 : Nat) (sp dp n : Int32) : z_cp σ q0 q1 sp dp n = z_sA σ q1 (va_cpy (z_I σ q0) (z_I σ q1) sp.toNatClampNeg dp.toNatClampNeg n.toNatClampNeg) := rfl
theorem va_cpy0 (f g : Nat → Int32) (n j : Nat) : va_cpy f g 0 0 n j = if j < n then f j else g j := by
  unfold va_cpy
  by_cases h : j < n
  · rw [if_pos ⟨Nat.zero_le _, by omega⟩, if_pos h]; congr 1; omega
  · rw [if_neg (by omega), if_neg h]
section CLASS
variable {σ : zSt} {a c : Nat}
theorem c_cpM (hL : zLs σ a) (hL2 : zLs σ c) (hd : a + 19 ≤ c ∨ c + 19 ≤ a) (hw : z_I σ (a + 3) 0 = n32 6) {q : Nat} (hq : q ≤ 100) :
    f_X7_copyFrom σ (a + 3) (c + 3) (n32 q) = some (z_sA σ (a + 4) (va_cpy (z_I σ (c + 4)) (z_I σ (a + 4)) 0 0 (6 * q))) := by
  have e : q * 6 = 6 * q := by omega
  have e1 : (if n32 (6 * q) < n32 600 then n32 (6 * q) else n32 600) = n32 (6 * q) := by
    by_cases h : 6 * q < 600
    · rw [if_pos (by rw [n32_lt (by omega) (by omega)]; exact h)]
    · rw [if_neg (by rw [n32_lt (by omega) (by omega)]; exact h)]; congr 1; omega
  have e2 : (if n32 0 < n32 (6 * q) then n32 (6 * q) else n32 0) = n32 (6 * q) := by
    by_cases h : 0 < 6 * q
    · rw [if_pos (by rw [n32_lt (by omega) (by omega)]; exact h)]
    · rw [if_neg (by rw [n32_lt (by omega) (by omega)]; exact h)]; congr 1; omega
  have g : z_cpg (c + 4) (a + 4) (n32 0) (n32 0) (n32 (6 * q)) 600 600 = true := by
    have e0 : ¬ n32 (6 * q) < 0 := by rw [n32_0, n32_lt (by omega) (by omega)]; omega
    have e00 : ¬ n32 0 < 0 := by decide
    have ez : (n32 0).toNatClampNeg = 0 := n32_toNat (by omega)
    unfold z_cpg
    rw [n32_toNat (show 6 * q < 2147483648 by omega), ez]
    simp only [e0, e00, not_false_eq_true, decide_true, Bool.true_and, Bool.and_true]
    simp; omega
  have c1 := hL2.2.2.2.2.2.2.2.2.2.2.1
  have c2 := hL2.2.2.2.2.2.2.2.2.2.2.2.1
  have c3 := hL2.2.2.2.2.2.2.2.2.2.2.2.2.1
  have c4 := hL2.2.2.2.2.2.2.2.2.2.2.2.2.2.1
  simp only [f_X7_copyFrom, ↓zl_eq, ↓zb_eq, ↓zb2_eq, ↓zc_some, ↓zc_none, ↓zb_pre, ↓zb2_pre, ↓zc_pre, ↓zex_eq, ↓reduceIte, Option.isSome_some, Option.isSome_none, Option.getD_some, n32_lit, hL.1, hL.2.1, hL.2.2.1, hL.2.2.2.1, hL.2.2.2.2.1, hL.2.2.2.2.2.1, hL.2.2.2.2.2.2.1, hL.2.2.2.2.2.2.2.1, hL.2.2.2.2.2.2.2.2.1, hL.2.2.2.2.2.2.2.2.2.1, hL.2.2.2.2.2.2.2.2.2.2.1, hL.2.2.2.2.2.2.2.2.2.2.2.1, hL.2.2.2.2.2.2.2.2.2.2.2.2.1, hL.2.2.2.2.2.2.2.2.2.2.2.2.2.1, hL.2.2.2.2.2.2.2.2.2.2.2.2.2.2.1, hL.2.2.2.2.2.2.2.2.2.2.2.2.2.2.2.1, hL.2.2.2.2.2.2.2.2.2.2.2.2.2.2.2.2.1, hL.2.2.2.2.2.2.2.2.2.2.2.2.2.2.2.2.2.1, hL.2.2.2.2.2.2.2.2.2.2.2.2.2.2.2.2.2.2.1, hL.2.2.2.2.2.2.2.2.2.2.2.2.2.2.2.2.2.2.2.1, hL.2.2.2.2.2.2.2.2.2.2.2.2.2.2.2.2.2.2.2.2.1, hL.2.2.2.2.2.2.2.2.2.2.2.2.2.2.2.2.2.2.2.2.2.1, hL.2.2.2.2.2.2.2.2.2.2.2.2.2.2.2.2.2.2.2.2.2.2.1, hL.2.2.2.2.2.2.2.2.2.2.2.2.2.2.2.2.2.2.2.2.2.2.2.1, hL.2.2.2.2.2.2.2.2.2.2.2.2.2.2.2.2.2.2.2.2.2.2.2.2.1, hL.2.2.2.2.2.2.2.2.2.2.2.2.2.2.2.2.2.2.2.2.2.2.2.2.2, c1, c2, c3, c4, ofN_n32, hw, n32_mul, e, ite_self, e1, e2, g, z_cp_sA]
  rw [n32_toNat (by omega), n32_toNat (by omega)]
theorem c_cpG (hL : zLs σ a) (hL2 : zLs σ c) (hd : a + 19 ≤ c ∨ c + 19 ≤ a) (hw : z_I σ (a + 9) 0 = n32 4) {q : Nat} (hq : q ≤ 40) :
    f_X7_copyFrom σ (a + 9) (c + 9) (n32 q) = some (z_sA σ (a + 10) (va_cpy (z_I σ (c + 10)) (z_I σ (a + 10)) 0 0 (4 * q))) := by
  have e : q * 4 = 4 * q := by omega
  have e1 : (if n32 (4 * q) < n32 160 then n32 (4 * q) else n32 160) = n32 (4 * q) := by
    by_cases h : 4 * q < 160
    · rw [if_pos (by rw [n32_lt (by omega) (by omega)]; exact h)]
    · rw [if_neg (by rw [n32_lt (by omega) (by omega)]; exact h)]; congr 1; omega
  have e2 : (if n32 0 < n32 (4 * q) then n32 (4 * q) else n32 0) = n32 (4 * q) := by
    by_cases h : 0 < 4 * q
    · rw [if_pos (by rw [n32_lt (by omega) (by omega)]; exact h)]
    · rw [if_neg (by rw [n32_lt (by omega) (by omega)]; exact h)]; congr 1; omega
  have g : z_cpg (c + 10) (a + 10) (n32 0) (n32 0) (n32 (4 * q)) 160 160 = true := by
    have e0 : ¬ n32 (4 * q) < 0 := by rw [n32_0, n32_lt (by omega) (by omega)]; omega
    have e00 : ¬ n32 0 < 0 := by decide
    have ez : (n32 0).toNatClampNeg = 0 := n32_toNat (by omega)
    unfold z_cpg
    rw [n32_toNat (show 4 * q < 2147483648 by omega), ez]
    simp only [e0, e00, not_false_eq_true, decide_true, Bool.true_and, Bool.and_true]
    simp; omega
  have c1 := hL2.2.2.2.2.2.2.2.2.2.2.2.2.2.2.2.2.2.2.2.2.2.2.1
  have c2 := hL2.2.2.2.2.2.2.2.2.2.2.2.2.2.2.2.2.2.2.2.2.2.2.2.1
  have c3 := hL2.2.2.2.2.2.2.2.2.2.2.2.2.2.2.2.2.2.2.2.2.2.2.2.2.1
  have c4 := hL2.2.2.2.2.2.2.2.2.2.2.2.2.2.2.2.2.2.2.2.2.2.2.2.2.2
  simp only [f_X7_copyFrom, ↓zl_eq, ↓zb_eq, ↓zb2_eq, ↓zc_some, ↓zc_none, ↓zb_pre, ↓zb2_pre, ↓zc_pre, ↓zex_eq, ↓reduceIte, Option.isSome_some, Option.isSome_none, Option.getD_some, n32_lit, hL.1, hL.2.1, hL.2.2.1, hL.2.2.2.1, hL.2.2.2.2.1, hL.2.2.2.2.2.1, hL.2.2.2.2.2.2.1, hL.2.2.2.2.2.2.2.1, hL.2.2.2.2.2.2.2.2.1, hL.2.2.2.2.2.2.2.2.2.1, hL.2.2.2.2.2.2.2.2.2.2.1, hL.2.2.2.2.2.2.2.2.2.2.2.1, hL.2.2.2.2.2.2.2.2.2.2.2.2.1, hL.2.2.2.2.2.2.2.2.2.2.2.2.2.1, hL.2.2.2.2.2.2.2.2.2.2.2.2.2.2.1, hL.2.2.2.2.2.2.2.2.2.2.2.2.2.2.2.1, hL.2.2.2.2.2.2.2.2.2.2.2.2.2.2.2.2.1, hL.2.2.2.2.2.2.2.2.2.2.2.2.2.2.2.2.2.1, hL.2.2.2.2.2.2.2.2.2.2.2.2.2.2.2.2.2.2.1, hL.2.2.2.2.2.2.2.2.2.2.2.2.2.2.2.2.2.2.2.1, hL.2.2.2.2.2.2.2.2.2.2.2.2.2.2.2.2.2.2.2.2.1, hL.2.2.2.2.2.2.2.2.2.2.2.2.2.2.2.2.2.2.2.2.2.1, hL.2.2.2.2.2.2.2.2.2.2.2.2.2.2.2.2.2.2.2.2.2.2.1, hL.2.2.2.2.2.2.2.2.2.2.2.2.2.2.2.2.2.2.2.2.2.2.2.1, hL.2.2.2.2.2.2.2.2.2.2.2.2.2.2.2.2.2.2.2.2.2.2.2.2.1, hL.2.2.2.2.2.2.2.2.2.2.2.2.2.2.2.2.2.2.2.2.2.2.2.2.2, c1, c2, c3, c4, ofN_n32, hw, n32_mul, e, ite_self, e1, e2, g, z_cp_sA]
  rw [n32_toNat (by omega), n32_toNat (by omega)]
/-- the noises -/
theorem c_cpN (hL : zLs σ a) (hL2 : zLs σ c) (hd : a + 19 ≤ c ∨ c + 19 ≤ a) {k : Nat} (hk : k ≤ 20) (hn : z_I σ (c + 5) 2 = n32 k) :
    ∃ σ', f_X4_copyFrom σ (a + 5) (c + 5) = some σ' ∧ zFr a σ σ' ∧ (∀ q, q ≠ a + 5 → q ≠ a + 6 → q ≠ a + 7 → z_I σ' q = z_I σ q) ∧ z_J σ' = z_J σ ∧ z_I σ' (a + 5) 2 = n32 k ∧ ∀ j, j < k → z_I σ' (a + 6) j = z_I σ (c + 6) j ∧ z_I σ' (a + 7) j = z_I σ (c + 7) j := by
  have d1 := hL2.2.2.2.2.2.2.2.2.2.2.2.2.2.2.1
  have d2 := hL2.2.2.2.2.2.2.2.2.2.2.2.2.2.2.2.1
  have d3 := hL2.2.2.2.2.2.2.2.2.2.2.2.2.2.2.2.2.1
  have d4 := hL2.2.2.2.2.2.2.2.2.2.2.2.2.2.2.2.2.2.1
  have d5 := hL2.2.2.2.2.2.2.2.2.2.2.2.2.2.2.2.2.2.2.1
  have d6 := hL2.2.2.2.2.2.2.2.2.2.2.2.2.2.2.2.2.2.2.2.1
  have d7 := hL2.2.2.2.2.2.2.2.2.2.2.2.2.2.2.2.2.2.2.2.2.1
  obtain ⟨r, hr, hr2⟩ := zloop_inv (N := zN) (s := (z_pI σ (a + 5) 2 (n32 k), (0 : Int32))) (body := fun (t : zSt × Int32) => b_X4_copyFrom_10 (a + 5) (c + 5) t.1 t.2)
    (Inv := fun j s => s.2 = n32 j ∧ zFr a σ s.1 ∧ (∀ q, q ≠ a + 5 → q ≠ a + 6 → q ≠ a + 7 → z_I s.1 q = z_I σ q) ∧ z_J s.1 = z_J σ ∧ z_I s.1 (a + 5) 2 = n32 k ∧ ∀ i, i < j → z_I s.1 (a + 6) i = z_I σ (c + 6) i ∧ z_I s.1 (a + 7) i = z_I σ (c + 7) i)
    (Post := fun s => zFr a σ s ∧ (∀ q, q ≠ a + 5 → q ≠ a + 6 → q ≠ a + 7 → z_I s q = z_I σ q) ∧ z_J s = z_J σ ∧ z_I s (a + 5) 2 = n32 k ∧ ∀ i, i < k → z_I s (a + 6) i = z_I σ (c + 6) i ∧ z_I s (a + 7) i = z_I σ (c + 7) i) k (fun j s hj hi => by
      obtain ⟨s, l⟩ := s
      obtain ⟨rfl, F, Q, J, C, I⟩ := hi
      have hLs := zLs_fr F hL
      have eob : z_ob s = z_ob σ := z_ob_eq F.2.1
      have ear : z_ar s = z_ar σ := z_ar_eq F.2.1
      have eln : z_ln s = z_ln σ := z_ln_eq F.2.1
      have eR : z_R s = z_R σ := F.2.2.1
      by_cases hjk : j = k
      · subst hjk
        refine Or.inl ⟨s, ?_, F, Q, J, C, I⟩
        show b_X4_copyFrom_10 (a + 5) (c + 5) s (n32 j) = _
        simp (disch := omega) only [b_X4_copyFrom_10, f_X4_copyFrom_54, ↓zl_eq, ↓zb_eq, ↓zb2_eq, ↓zc_some, ↓zc_none, ↓zb_pre, ↓zb2_pre, ↓zc_pre, ↓zex_eq, ↓reduceIte, Option.isSome_some, Option.isSome_none, Option.getD_some, eob, hL.1, hL.2.1, hL.2.2.1, hL.2.2.2.1, hL.2.2.2.2.1, hL.2.2.2.2.2.1, hL.2.2.2.2.2.2.1, hL.2.2.2.2.2.2.2.1, hL.2.2.2.2.2.2.2.2.1, hL.2.2.2.2.2.2.2.2.2.1, hL.2.2.2.2.2.2.2.2.2.2.1, hL.2.2.2.2.2.2.2.2.2.2.2.1, hL.2.2.2.2.2.2.2.2.2.2.2.2.1, hL.2.2.2.2.2.2.2.2.2.2.2.2.2.1, hL.2.2.2.2.2.2.2.2.2.2.2.2.2.2.1, hL.2.2.2.2.2.2.2.2.2.2.2.2.2.2.2.1, hL.2.2.2.2.2.2.2.2.2.2.2.2.2.2.2.2.1, hL.2.2.2.2.2.2.2.2.2.2.2.2.2.2.2.2.2.1, hL.2.2.2.2.2.2.2.2.2.2.2.2.2.2.2.2.2.2.1, hL.2.2.2.2.2.2.2.2.2.2.2.2.2.2.2.2.2.2.2.1, hL.2.2.2.2.2.2.2.2.2.2.2.2.2.2.2.2.2.2.2.2.1, hL.2.2.2.2.2.2.2.2.2.2.2.2.2.2.2.2.2.2.2.2.2.1, hL.2.2.2.2.2.2.2.2.2.2.2.2.2.2.2.2.2.2.2.2.2.2.1, hL.2.2.2.2.2.2.2.2.2.2.2.2.2.2.2.2.2.2.2.2.2.2.2.1, hL.2.2.2.2.2.2.2.2.2.2.2.2.2.2.2.2.2.2.2.2.2.2.2.2.1, hL.2.2.2.2.2.2.2.2.2.2.2.2.2.2.2.2.2.2.2.2.2.2.2.2.2, C, n32_le, Nat.le_refl]
      · have hjk2 : j < k := by omega
        have c6 : z_I s (c + 6) = z_I σ (c + 6) := Q _ (by omega) (by omega) (by omega)
        have c7 : z_I s (c + 7) = z_I σ (c + 7) := Q _ (by omega) (by omega) (by omega)
        have c71 : z_I (z_pI s (a + 6) j (z_I σ (c + 6) j)) (c + 7) = z_I σ (c + 7) := by rw [z_pI_eq, z_I_sAn _ _ _ (by omega)]; exact c7
        refine Or.inr ⟨hjk2, (z_pI (z_pI s (a + 6) j (z_I σ (c + 6) j)) (a + 7) j (z_I σ (c + 7) j), n32 (j + 1)), ?_, rfl, ?_, ?_, J, ?_, ?_⟩
        · show b_X4_copyFrom_10 (a + 5) (c + 5) s (n32 j) = _
          simp (disch := omega) only [b_X4_copyFrom_10, f_X4_copyFrom_54, ↓zl_eq, ↓zb_eq, ↓zb2_eq, ↓zc_some, ↓zc_none, ↓zb_pre, ↓zb2_pre, ↓zc_pre, ↓zex_eq, ↓reduceIte, Option.isSome_some, Option.isSome_none, Option.getD_some, n32_lit, z_ob_pI, z_R_pI, z_ar_pI, z_ln_pI, eob, eR, ear, eln, hL.1, hL.2.1, hL.2.2.1, hL.2.2.2.1, hL.2.2.2.2.1, hL.2.2.2.2.2.1, hL.2.2.2.2.2.2.1, hL.2.2.2.2.2.2.2.1, hL.2.2.2.2.2.2.2.2.1, hL.2.2.2.2.2.2.2.2.2.1, hL.2.2.2.2.2.2.2.2.2.2.1, hL.2.2.2.2.2.2.2.2.2.2.2.1, hL.2.2.2.2.2.2.2.2.2.2.2.2.1, hL.2.2.2.2.2.2.2.2.2.2.2.2.2.1, hL.2.2.2.2.2.2.2.2.2.2.2.2.2.2.1, hL.2.2.2.2.2.2.2.2.2.2.2.2.2.2.2.1, hL.2.2.2.2.2.2.2.2.2.2.2.2.2.2.2.2.1, hL.2.2.2.2.2.2.2.2.2.2.2.2.2.2.2.2.2.1, hL.2.2.2.2.2.2.2.2.2.2.2.2.2.2.2.2.2.2.1, hL.2.2.2.2.2.2.2.2.2.2.2.2.2.2.2.2.2.2.2.1, hL.2.2.2.2.2.2.2.2.2.2.2.2.2.2.2.2.2.2.2.2.1, hL.2.2.2.2.2.2.2.2.2.2.2.2.2.2.2.2.2.2.2.2.2.1, hL.2.2.2.2.2.2.2.2.2.2.2.2.2.2.2.2.2.2.2.2.2.2.1, hL.2.2.2.2.2.2.2.2.2.2.2.2.2.2.2.2.2.2.2.2.2.2.2.1, hL.2.2.2.2.2.2.2.2.2.2.2.2.2.2.2.2.2.2.2.2.2.2.2.2.1, hL.2.2.2.2.2.2.2.2.2.2.2.2.2.2.2.2.2.2.2.2.2.2.2.2.2, C, n32_le, d1, d2, d3, d4, d5, d6, d7, n32_ix, n32_toNat, c6, c71, n32_add]
          rw [if_neg (by omega), if_neg (by omega)]
        · simp only [z_pI_eq]
          exact zFr_t F (zFr_t (zFr_sA _ (by omega) (by omega) _) (zFr_sA _ (by omega) (by omega) _))
        · intro q q1 q2 q3
          simp (disch := omega) only [z_pI_eq, z_I_sAn]
          exact Q q q1 q2 q3
        · simp (disch := omega) only [z_pI_eq, z_I_sAn]
          exact C
        · intro i hi
          simp (disch := omega) only [z_pI_eq, z_I_sA, z_I_sAn]
          by_cases hij : i = j
          · subst hij; rw [gu_same, gu_same]; exact ⟨rfl, rfl⟩
          · rw [gu_ne _ _ hij, gu_ne _ _ hij]; exact I i (by omega)) (by unfold zN; omega)
    ⟨rfl, by rw [z_pI_eq]; exact zFr_sA _ (by omega) (by omega) _, fun q q1 q2 q3 => by rw [z_pI_eq, z_I_sAn _ _ _ q1], rfl, by rw [z_pI_eq, z_I_sA, gu_same], fun i hi => by omega⟩
  refine ⟨r, ?_, hr2⟩
  rw [← hr]
  simp only [f_X4_copyFrom, f_X4_copyFrom_10, ↓zl_eq, ↓zb_eq, ↓zb2_eq, ↓zc_some, ↓zc_none, ↓zb_pre, ↓zb2_pre, ↓zc_pre, ↓zex_eq, ↓reduceIte, Option.isSome_some, Option.isSome_none, Option.getD_some, d1, hL.1, hL.2.1, hL.2.2.1, hL.2.2.2.1, hL.2.2.2.2.1, hL.2.2.2.2.2.1, hL.2.2.2.2.2.2.1, hL.2.2.2.2.2.2.2.1, hL.2.2.2.2.2.2.2.2.1, hL.2.2.2.2.2.2.2.2.2.1, hL.2.2.2.2.2.2.2.2.2.2.1, hL.2.2.2.2.2.2.2.2.2.2.2.1, hL.2.2.2.2.2.2.2.2.2.2.2.2.1, hL.2.2.2.2.2.2.2.2.2.2.2.2.2.1, hL.2.2.2.2.2.2.2.2.2.2.2.2.2.2.1, hL.2.2.2.2.2.2.2.2.2.2.2.2.2.2.2.1, hL.2.2.2.2.2.2.2.2.2.2.2.2.2.2.2.2.1, hL.2.2.2.2.2.2.2.2.2.2.2.2.2.2.2.2.2.1, hL.2.2.2.2.2.2.2.2.2.2.2.2.2.2.2.2.2.2.1, hL.2.2.2.2.2.2.2.2.2.2.2.2.2.2.2.2.2.2.2.1, hL.2.2.2.2.2.2.2.2.2.2.2.2.2.2.2.2.2.2.2.2.1, hL.2.2.2.2.2.2.2.2.2.2.2.2.2.2.2.2.2.2.2.2.2.1, hL.2.2.2.2.2.2.2.2.2.2.2.2.2.2.2.2.2.2.2.2.2.2.1, hL.2.2.2.2.2.2.2.2.2.2.2.2.2.2.2.2.2.2.2.2.2.2.2.1, hL.2.2.2.2.2.2.2.2.2.2.2.2.2.2.2.2.2.2.2.2.2.2.2.2.1, hL.2.2.2.2.2.2.2.2.2.2.2.2.2.2.2.2.2.2.2.2.2.2.2.2.2, hn]
end CLASS
end
section
section CLASS
variable {σ : zSt} {a c : Nat}
theorem c_cp6 {p r : Nat} (hp : z_ob σ p 6 = true) (hr : z_ob σ r 6 = true) (hne : r ≠ p) (b1 : z_bl (z_I σ r 1) = true) (b2 : z_bl (z_I σ r 2) = true) :
    ∃ f, f_X6_copyFrom σ p r = some (z_sA σ p f) ∧ ∀ j, j < 9 → f j = z_I σ r j := by
  refine ⟨gu (gu (gu (gu (gu (gu (gu (gu (gu (z_I σ p) 0 (z_I σ r 0)) 1 (z_I σ r 1)) 2 (z_I σ r 2)) 3 (z_I σ r 3)) 4 (z_I σ r 4)) 5 (z_I σ r 5)) 6 (z_I σ r 6)) 7 (z_I σ r 7)) 8 (z_I σ r 8), ?_, ?_⟩
  · simp (disch := omega) only [f_X6_copyFrom, ↓zl_eq, ↓zb_eq, ↓zb2_eq, ↓zc_some, ↓zc_none, ↓zb_pre, ↓zb2_pre, ↓zc_pre, ↓zex_eq, ↓reduceIte, Option.isSome_some, Option.isSome_none, Option.getD_some, z_pI_eq, z_ob_sA, z_sA_sA, z_I_sA, z_I_sAn, hp, hr, b1, b2]
  · intro j hj
    unfold gu
    rcases (show j = 0 ∨ j = 1 ∨ j = 2 ∨ j = 3 ∨ j = 4 ∨ j = 5 ∨ j = 6 ∨ j = 7 ∨ j = 8 by omega) with rfl | rfl | rfl | rfl | rfl | rfl | rfl | rfl | rfl <;> simp
theorem c_cpS (hL : zLs σ a) (hL2 : zLs σ c) (hd : a + 19 ≤ c ∨ c + 19 ≤ a) {pa pc : Nat → Nat} (hP : zPl σ a pa) (hP2 : zPl σ c pc) {n : Nat} (hn : n ≤ 8) (h5 : z_I σ c 5 = n32 n) (hbl : ∀ i, i < n → z_bl (z_I σ (pc i) 1) = true ∧ z_bl (z_I σ (pc i) 2) = true) :
    ∃ σ', f_X2_copyStations σ a c = some σ' ∧ zFr a σ σ' ∧ z_J σ' = z_J σ ∧ z_I σ' a = gu (z_I σ a) 5 (n32 n) ∧ (∀ q, q ≠ a → q < a + 11 ∨ a + 19 ≤ q → z_I σ' q = z_I σ q) ∧ ∀ i, i < n → ∀ j, j < 9 → z_I σ' (pa i) j = z_I σ (pc i) j := by
  obtain ⟨r, hr, hr2⟩ := zloop_inv (N := zN) (s := (z_pI σ a 5 (n32 n), (0 : Int32))) (body := fun (t : zSt × Int32) => b_X2_copyStations_10 a c t.1 t.2)
    (Inv := fun k s => s.2 = n32 k ∧ zFr a σ s.1 ∧ z_J s.1 = z_J σ ∧ z_I s.1 a = gu (z_I σ a) 5 (n32 n) ∧ (∀ q, q ≠ a → q < a + 11 ∨ a + 19 ≤ q → z_I s.1 q = z_I σ q) ∧ ∀ i, i < k → ∀ j, j < 9 → z_I s.1 (pa i) j = z_I σ (pc i) j)
    (Post := fun s => zFr a σ s ∧ z_J s = z_J σ ∧ z_I s a = gu (z_I σ a) 5 (n32 n) ∧ (∀ q, q ≠ a → q < a + 11 ∨ a + 19 ≤ q → z_I s q = z_I σ q) ∧ ∀ i, i < n → ∀ j, j < 9 → z_I s (pa i) j = z_I σ (pc i) j) n (fun k s hk hi => by
      obtain ⟨s, l⟩ := s
      obtain ⟨rfl, F, J, C, Q, I⟩ := hi
      have hLs := zLs_fr F hL
      have hPs := zPl_fr F hP
      have hL2s := zLs_eq F.2.1 F.2.2.1 hL2
      have hP2s := zPl_eq F.2.1 F.2.2.1 hP2
      have C5 : z_I s a 5 = n32 n := by rw [C, gu_same]
      by_cases hkn : k = n
      · subst hkn
        refine Or.inl ⟨s, ?_, F, J, C, Q, I⟩
        show b_X2_copyStations_10 a c s (n32 k) = _
        simp (disch := omega) only [b_X2_copyStations_10, ↓zl_eq, ↓zb_eq, ↓zb2_eq, ↓zc_some, ↓zc_none, ↓zb_pre, ↓zb2_pre, ↓zc_pre, ↓zex_eq, ↓reduceIte, Option.isSome_some, Option.isSome_none, Option.getD_some, hLs.1, C5, n32_le, Nat.le_refl]
      · have hk2 : k < n := by omega
        have ek := hP.1 k (by omega)
        have ek2 := hP2.1 k (by omega)
        have ek' := hPs.1 k (by omega)
        have ek2' := hP2s.1 k (by omega)
        have s1 := c_stationIn hLs hPs hn C5 hk2
        have s2 := c_stationIn hL2s hP2s hn (by rw [Q c (by omega) (by omega)]; exact h5) hk2
        have er : z_I s (pc k) = z_I σ (pc k) := Q _ (by omega) (by omega)
        obtain ⟨f, e6, hf⟩ := c_cp6 (σ := s) (p := pa k) (r := pc k) ek'.2.1 ek2'.2.1 (by omega) (by rw [er]; exact (hbl k hk2).1) (by rw [er]; exact (hbl k hk2).2)
        refine Or.inr ⟨hk2, (z_sA s (pa k) f, n32 (k + 1)), ?_, rfl, zFr_t F (zFr_sA _ (by omega) (by omega) _), J, ?_, ?_, ?_⟩
        · show b_X2_copyStations_10 a c s (n32 k) = _
          simp (disch := omega) only [b_X2_copyStations_10, f_X2_copyStations_46, ↓zl_eq, ↓zb_eq, ↓zb2_eq, ↓zc_some, ↓zc_none, ↓zb_pre, ↓zb2_pre, ↓zc_pre, ↓zex_eq, ↓reduceIte, Option.isSome_some, Option.isSome_none, Option.getD_some, n32_lit, hLs.1, hL2s.1, C5, n32_le, s1, s2, ek'.2.1, e6, n32_add]
          rw [if_neg (by omega)]
        · show z_I (z_sA s (pa k) f) a = _
          rw [z_I_sAn _ _ _ (by omega)]; exact C
        · intro q q1 q2
          show z_I (z_sA s (pa k) f) q = _
          rw [z_I_sAn _ _ _ (by omega)]; exact Q q q1 q2
        · intro i hi j hj
          show z_I (z_sA s (pa k) f) (pa i) j = _
          by_cases hik : i = k
          · subst hik
            rw [z_I_sA, hf j hj, er]
          · have hne : pa i ≠ pa k := fun he => hik (hP.2 i k (by omega) (by omega) he)
            rw [z_I_sAn _ _ _ hne]
            exact I i (by omega) j hj) (by unfold zN; omega)
    ⟨rfl, by rw [z_pI_eq]; exact zFr_sA _ (by omega) (by omega) _, rfl, by rw [z_pI_eq, z_I_sA], fun q q1 q2 => by rw [z_pI_eq, z_I_sAn _ _ _ q1], fun i hi => by omega⟩
  refine ⟨r, ?_, hr2⟩
  rw [← hr]
  simp only [f_X2_copyStations, f_X2_copyStations_10, ↓zl_eq, ↓zb_eq, ↓zb2_eq, ↓zc_some, ↓zc_none, ↓zb_pre, ↓zb2_pre, ↓zc_pre, ↓zex_eq, ↓reduceIte, Option.isSome_some, Option.isSome_none, Option.getD_some, hL.1, hL2.1, h5]
/-- the counts -/
theorem c_cp0 (hL : zLs σ a) (hL2 : zLs σ c) (hd : a + 19 ≤ c ∨ c + 19 ≤ a) :
    ∃ σ', f_X0_copyFrom σ (a + 8) (c + 8) = some σ' ∧ zFr a σ σ' ∧ (∀ q, q ≠ a + 8 → z_I σ' q = z_I σ q ∧ z_J σ' q = z_J σ q) ∧ (∀ j, j < 9 → z_I σ' (a + 8) j = z_I σ (c + 8) j) ∧ z_J σ' (a + 8) 9 = z_J σ (c + 8) 9 := by
  have o1 := hL.2.2.2.2.2.2.2.2.2.2.2.2.2.2.2.2.2.2.2.2.2.1
  have o2 := hL2.2.2.2.2.2.2.2.2.2.2.2.2.2.2.2.2.2.2.2.2.2.1
  refine ⟨z_pJ (z_sA σ (a + 8) (gu (gu (gu (gu (gu (gu (gu (gu (gu (z_I σ (a + 8)) 0 (z_I σ (c + 8) 0)) 1 (z_I σ (c + 8) 1)) 2 (z_I σ (c + 8) 2)) 3 (z_I σ (c + 8) 3)) 4 (z_I σ (c + 8) 4)) 5 (z_I σ (c + 8) 5)) 6 (z_I σ (c + 8) 6)) 7 (z_I σ (c + 8) 7)) 8 (z_I σ (c + 8) 8))) (a + 8) 9 (z_J σ (c + 8) 9), ?_, zFr_t (zFr_sA _ (by omega) (by omega) _) (zFr_pJ _ (by omega) (by omega) _ _), ?_, ?_, ?_⟩
  · simp (disch := omega) only [f_X0_copyFrom, ↓zl_eq, ↓zb_eq, ↓zb2_eq, ↓zc_some, ↓zc_none, ↓zb_pre, ↓zb2_pre, ↓zc_pre, ↓zex_eq, ↓reduceIte, Option.isSome_some, Option.isSome_none, Option.getD_some, z_pI_eq, z_ob_sA, z_sA_sA, z_I_sA, z_I_sAn, z_J_sA, o1, o2]
  · intro q hq
    refine ⟨?_, ?_⟩
    · rw [z_I_pJ, z_I_sAn _ _ _ hq]
    · funext k
      rw [z_J_pJ, if_neg (by intro h; exact hq h.1)]
      rfl
  · intro j hj
    rw [z_I_pJ, z_I_sA]
    unfold gu
    rcases (show j = 0 ∨ j = 1 ∨ j = 2 ∨ j = 3 ∨ j = 4 ∨ j = 5 ∨ j = 6 ∨ j = 7 ∨ j = 8 by omega) with rfl | rfl | rfl | rfl | rfl | rfl | rfl | rfl | rfl <;> simp
  · rw [z_J_pJ, if_pos ⟨rfl, rfl⟩]
end CLASS
end
section
section CLASS
variable {σ : zSt} {a c n : Nat} {pa pc ad : Nat → Nat} {qu : Nat → Nat → Nat} {g : zG}
/-- a whole line is copied -/
theorem c_copy (hL : zLs σ a) (hP : zPl σ a pa) (hW : qW σ a) (hL2 : zLs σ c) (hP2 : zPl σ c pc) (hd : a + 19 ≤ c ∨ c + 19 ≤ a) (hR : zRep σ c pc ad qu n g) (hG : qG σ c g) (hN : s_num g) :
    ∃ σ', f_X2_copyFrom σ a c = some σ' ∧ zFr a σ σ' ∧ zRep σ' a pa ad qu n g ∧ qG σ' a g := by
  obtain ⟨h5, h52, ⟨z, hz, h6⟩, hgg, hmo, hb, hst, mv, hmv, h9, h7⟩ := hN
  obtain ⟨rL, rW, rM, rN, rC, rA, rS, rQ⟩ := hR
  have n6 : s_nat g 6 = z := s_nat_n32 h6 (by omega)
  have n7 : s_nat g 7 = min mv 40 := s_nat_n32 h7 (by omega)
  have hn8 := rA.1
  generalize hF1 : gu (gu (gu (gu (gu (z_I σ a) 6 (g 0)) 7 (g 1)) 8 (g 2)) 9 (g 3)) 10 (g 4) = F1
  generalize hσ1 : z_sA σ a F1 = σ1
  have F01 : zFr a σ σ1 := by rw [← hσ1]; exact zFr_sA _ (by omega) (by omega) _
  have q1 : ∀ q, q ≠ a → z_I σ1 q = z_I σ q := fun q hq => by rw [← hσ1]; exact z_I_sAn _ _ _ hq
  generalize hσ2 : z_sA σ1 (a + 2) (gu (z_I σ (a + 2)) 1 (g 5)) = σ2
  have F02 : zFr a σ σ2 := by rw [← hσ2]; exact zFr_t F01 (zFr_sA _ (by omega) (by omega) _)
  have q2 : ∀ q, q ≠ a → q ≠ a + 2 → z_I σ2 q = z_I σ q := fun q hq hq2 => by rw [← hσ2, z_I_sAn _ _ _ hq2]; exact q1 q hq
  have T2 := c_cpM (zLs_fr F02 hL) (zLs_eq F02.2.1 F02.2.2.1 hL2) hd (by rw [q2 _ (by omega) (by omega)]; exact hW.1) h5
  rw [q2 _ (by omega) (by omega), q2 _ (by omega) (by omega)] at T2
  generalize hσ3 : z_sA σ2 (a + 4) (va_cpy (z_I σ (c + 4)) (z_I σ (a + 4)) 0 0 (6 * s_nat g 5)) = σ3 at T2
  have F03 : zFr a σ σ3 := by rw [← hσ3]; exact zFr_t F02 (zFr_sA _ (by omega) (by omega) _)
  have q3 : ∀ q, q ≠ a → q ≠ a + 2 → q ≠ a + 4 → z_I σ3 q = z_I σ q := fun q hq hq2 hq3 => by rw [← hσ3, z_I_sAn _ _ _ hq3]; exact q2 q hq hq2
  obtain ⟨σ4, E4, F4, Q4, J4, N4, N4'⟩ := c_cpN (zLs_fr F03 hL) (zLs_eq F03.2.1 F03.2.2.1 hL2) hd hz (by rw [q3 _ (by omega) (by omega) (by omega), rN.1]; exact h6)
  have F04 := zFr_t F03 F4
  obtain ⟨σ5, E5, F5, Q5, C5, J5⟩ := c_cp0 (zLs_fr F04 hL) (zLs_eq F04.2.1 F04.2.2.1 hL2) hd
  have F05 := zFr_t F04 F5
  have hc5 : ∀ q, q ≠ a → q ≠ a + 2 → q ≠ a + 4 → q ≠ a + 5 → q ≠ a + 6 → q ≠ a + 7 → q ≠ a + 8 → z_I σ5 q = z_I σ q := fun q x0 x2 x4 x5 x6 x7 x8 => by rw [(Q5 q x8).1, Q4 q x5 x6 x7]; exact q3 q x0 x2 x4
  have T5 := c_cpG (q := min mv 40) (zLs_fr F05 hL) (zLs_eq F05.2.1 F05.2.2.1 hL2) hd (by rw [hc5 _ (by omega) (by omega) (by omega) (by omega) (by omega) (by omega) (by omega)]; exact hW.2) (by omega)
  rw [hc5 _ (by omega) (by omega) (by omega) (by omega) (by omega) (by omega) (by omega), hc5 _ (by omega) (by omega) (by omega) (by omega) (by omega) (by omega) (by omega)] at T5
  generalize hσ6 : z_sA σ5 (a + 10) (va_cpy (z_I σ (c + 10)) (z_I σ (a + 10)) 0 0 (4 * min mv 40)) = σ6 at T5
  have F06 : zFr a σ σ6 := by rw [← hσ6]; exact zFr_t F05 (zFr_sA _ (by omega) (by omega) _)
  have hc6 : ∀ q, q ≠ a + 10 → z_I σ6 q = z_I σ5 q := fun q h => by rw [← hσ6]; exact z_I_sAn _ _ _ h
  have pcr : ∀ i, i < n → c + 11 ≤ pc i ∧ pc i < c + 19 := fun i hi => (hP2.1 i (by omega)).2.2
  have par : ∀ i, i < n → a + 11 ≤ pa i ∧ pa i < a + 19 := fun i hi => (hP.1 i (by omega)).2.2
  have epc : ∀ i, i < n → z_I σ6 (pc i) = z_I σ (pc i) := fun i hi => (F06.2.2.2 _ (by have := pcr i hi; omega)).1
  have bl : ∀ v : Int32, (v = n32 0 ∨ v = n32 1) → z_bl v = true := by
    intro v hv; rcases hv with rfl | rfl <;> rfl
  obtain ⟨σ7, E7, F7, J7, A7, Q7, S7⟩ := c_cpS (zLs_fr F06 hL) (zLs_eq F06.2.1 F06.2.2.1 hL2) hd (zPl_fr F06 hP) (zPl_eq F06.2.1 F06.2.2.1 hP2) hn8 (by rw [(F06.2.2.2 c (by omega)).1]; exact rL.1) (fun i hi => by
    have st := hst (ad i) (rA.2.1 i hi).1 (rA.2.1 i hi).2
    rw [epc i hi, (rS i hi).2.1, (rS i hi).2.2.1]
    exact ⟨bl _ st.1, bl _ st.2.1⟩)
  have F07 := zFr_t F06 F7
  -- what the cells hold in the end
  have ha : z_I σ6 a = F1 := by
    rw [hc6 _ (by omega), (Q5 _ (by omega)).1, Q4 _ (by omega) (by omega) (by omega), ← hσ3, z_I_sAn _ _ _ (by omega), ← hσ2, z_I_sAn _ _ _ (by omega), ← hσ1, z_I_sA]
  have h2 : z_I σ7 (a + 2) = gu (z_I σ (a + 2)) 1 (g 5) := by
    rw [Q7 _ (by omega) (by omega), hc6 _ (by omega), (Q5 _ (by omega)).1, Q4 _ (by omega) (by omega) (by omega), ← hσ3, z_I_sAn _ _ _ (by omega), ← hσ2, z_I_sA]
  have h4 : z_I σ7 (a + 4) = va_cpy (z_I σ (c + 4)) (z_I σ (a + 4)) 0 0 (6 * s_nat g 5) := by
    rw [Q7 _ (by omega) (by omega), hc6 _ (by omega), (Q5 _ (by omega)).1, Q4 _ (by omega) (by omega) (by omega), ← hσ3, z_I_sA]
  have hq : ∀ q, q < a + 11 → q ≠ a → q ≠ a + 2 → q ≠ a + 4 → q ≠ a + 8 → q ≠ a + 10 → z_I σ7 q = z_I σ4 q := fun q x x0 x2 x4 x8 x10 => by rw [Q7 q x0 (Or.inl x), hc6 _ x10, (Q5 _ x8).1]
  have h8 : z_I σ7 (a + 8) = z_I σ5 (a + 8) := by rw [Q7 _ (by omega) (by omega), hc6 _ (by omega)]
  have h10 : z_I σ7 (a + 10) = va_cpy (z_I σ (c + 10)) (z_I σ (a + 10)) 0 0 (4 * min mv 40) := by rw [Q7 _ (by omega) (by omega), ← hσ6, z_I_sA]
  have c8 : z_I σ4 (c + 8) = z_I σ (c + 8) := (F04.2.2.2 _ (by omega)).1
  have cJ8 : z_J σ4 (c + 8) = z_J σ (c + 8) := (F04.2.2.2 _ (by omega)).2
  have c6 : z_I σ3 (c + 6) = z_I σ (c + 6) := (F03.2.2.2 _ (by omega)).1
  have c7 : z_I σ3 (c + 7) = z_I σ (c + 7) := (F03.2.2.2 _ (by omega)).1
  refine ⟨σ7, ?_, F07, ⟨?_, ?_, ?_, ?_, ?_, rA, ?_, ?_⟩, ?_⟩
  · have L2 := hL2
    have L4c := zLs_eq F05.2.1 F05.2.2.1 hL2
    have ll : f_X2_logLength σ5 c = some (n32 (min mv 40)) := by
      have e0 : z_I σ5 (c + 8) 0 = n32 mv := by rw [(Q5 _ (by omega)).1, c8, rC.1 0 (by decide)]; exact h9
      simp only [f_X2_logLength, ↓zl_eq, ↓zb_eq, ↓zb2_eq, ↓zc_some, ↓zc_none, ↓zb_pre, ↓zb2_pre, ↓zc_pre, ↓zex_eq, ↓reduceIte, Option.isSome_some, Option.isSome_none, Option.getD_some, n32_lit, L4c.1, L4c.2.2.2.2.1, L4c.2.2.2.2.2.2.2.2.2.2.2.2.2.2.2.2.2.2.2.2.2.1, e0]
      congr 1
      by_cases h : 40 < mv
      · rw [if_pos (by rw [n32_lt (by omega) (by omega)]; exact h)]; congr 1; omega
      · rw [if_neg (by rw [n32_lt (by omega) (by omega)]; exact h)]; congr 1; omega
    have eo : ∀ s, zFr a σ s → z_ob s = z_ob σ ∧ z_R s = z_R σ := fun s F => ⟨z_ob_eq F.2.1, F.2.2.1⟩
    have o1 := eo _ F01
    have o2 := eo _ F02
    have o3 := eo _ F03
    have o4 := eo _ F04
    have o5 := eo _ F05
    have o6 := eo _ F06
    have cm : z_I σ1 (c + 2) 1 = n32 (s_nat g 5) := by rw [(F01.2.2.2 _ (by omega)).1, rM.1]; exact h52
    have cm2 : z_I σ2 (c + 2) 1 = n32 (s_nat g 5) := by rw [(F02.2.2.2 _ (by omega)).1, rM.1]; exact h52
    have st1 : f_X3_copyFrom σ1 (a + 2) (c + 2) = some σ3 := by
      have e2 : z_pI σ1 (a + 2) 1 (n32 (s_nat g 5)) = σ2 := by
        rw [z_pI_eq, q1 _ (by omega), ← h52]; exact hσ2
      simp only [f_X3_copyFrom, ↓zl_eq, ↓zb_eq, ↓zb2_eq, ↓zc_some, ↓zc_none, ↓zb_pre, ↓zb2_pre, ↓zc_pre, ↓zex_eq, ↓reduceIte, Option.isSome_some, Option.isSome_none, Option.getD_some, o1.1, o1.2, hL.2.2.2.2.2.2.2.2.1, L2.2.2.2.2.2.2.2.2.1, cm, e2, o2.1, o2.2, hL.2.2.2.2.2.2.2.2.2.1, L2.2.2.2.2.2.2.2.2.2.1, hL.2.2.2.2.2.2.2.2.2.2.1, cm2, T2]
    have st0 : z_pI (z_pI (z_pI (z_pI (z_pI σ a 6 (g 0)) a 7 (g 1)) a 8 (g 2)) a 9 (g 3)) a 10 (g 4) = σ1 := by
      simp only [z_pI_eq, z_sA_sA, z_I_sA]
      rw [← hσ1, ← hF1]
    have rc : ∀ s, z_I (z_sA σ a s) c = z_I σ c := fun s => z_I_sAn _ _ _ (by omega)
    have tt : f_X2_takeTimes σ a c = some (z_pI (z_pI (z_pI σ a 6 (g 0)) a 7 (g 1)) a 8 (g 2)) := by
      simp only [f_X2_takeTimes, ↓zl_eq, ↓zb_eq, ↓zb2_eq, ↓zc_some, ↓zc_none, ↓zb_pre, ↓zb2_pre, ↓zc_pre, ↓zex_eq, ↓reduceIte, Option.isSome_some, Option.isSome_none, Option.getD_some, z_ob_pI, hL.1, L2.1, rL.2.1, z_pI_eq, z_sA_sA, z_I_sA, rc, rL.2.2.1, rL.2.2.2.1, z_ob_sA]
    have k9 : z_I (z_pI (z_pI (z_pI σ a 6 (g 0)) a 7 (g 1)) a 8 (g 2)) c 9 = g 3 := by
      simp only [z_pI_eq, z_sA_sA, rc]; exact rL.2.2.2.2.1
    have k10 : z_I (z_pI (z_pI (z_pI (z_pI σ a 6 (g 0)) a 7 (g 1)) a 8 (g 2)) a 9 (g 3)) c 10 = g 4 := by
      simp only [z_pI_eq, z_sA_sA, rc]; exact rL.2.2.2.2.2
    simp only [f_X2_copyFrom, ↓zl_eq, ↓zb_eq, ↓zb2_eq, ↓zc_some, ↓zc_none, ↓zb_pre, ↓zb2_pre, ↓zc_pre, ↓zex_eq, ↓reduceIte, Option.isSome_some, Option.isSome_none, Option.getD_some, hL.1, L2.1, tt, z_ob_pI, k9, k10, st0, o1.1, o1.2, hL.2.2.1, L2.2.2.1, hL.2.2.2.2.2.2.2.2.1, st1, o3.1, o3.2, hL.2.2.2.1, L2.2.2.2.1, hL.2.2.2.2.2.2.2.2.2.2.2.2.2.2.1, E4, o4.1, o4.2, hL.2.2.2.2.1, L2.2.2.2.2.1, hL.2.2.2.2.2.2.2.2.2.2.2.2.2.2.2.2.2.2.2.2.2.1, E5, o5.1, o5.2, hL.2.2.2.2.2.1, L2.2.2.2.2.2.1, ll, hL.2.2.2.2.2.2.2.2.2.2.2.2.2.2.2.2.2.2.2.2.2.2.1, T5, o6.1, E7]
  · unfold qL
    rw [A7, ha, ← hF1]
    simp (disch := omega) only [gu_ne, gu_same, and_self]
  · exact ⟨by rw [hq _ (by omega) (by omega) (by omega) (by omega) (by omega) (by omega), Q4 _ (by omega) (by omega) (by omega), q3 _ (by omega) (by omega) (by omega)]; exact hW.1, by rw [hq _ (by omega) (by omega) (by omega) (by omega) (by omega) (by omega), Q4 _ (by omega) (by omega) (by omega), q3 _ (by omega) (by omega) (by omega)]; exact hW.2⟩
  · refine ⟨by rw [h2, gu_same], fun m w hm hw => ?_⟩
    rw [h4, va_cpy0, if_pos (by omega)]
    exact rM.2 m w hm hw
  · refine ⟨by rw [hq _ (by omega) (by omega) (by omega) (by omega) (by omega) (by omega), N4]; exact h6.symm, fun k hk => ?_⟩
    rw [n6] at hk
    rw [hq _ (by omega) (by omega) (by omega) (by omega) (by omega) (by omega), hq _ (by omega) (by omega) (by omega) (by omega) (by omega) (by omega), (N4' k hk).1, (N4' k hk).2, c6, c7]
    exact rN.2 k (by rw [n6]; exact hk)
  · refine ⟨fun k hk => ?_, ?_, ?_, ?_⟩
    · rw [h8, C5 k (by omega), c8]; exact rC.1 k hk
    · rw [h8, C5 7 (by omega), c8]; exact rC.2.1
    · rw [h8, C5 8 (by omega), c8]; exact rC.2.2.1
    · rw [J7, ← hσ6, z_J_sA, J5, cJ8]; exact rC.2.2.2
  · intro i hi
    have s7 := S7 i hi
    rw [epc i hi] at s7
    rw [s7 0 (by omega), s7 1 (by omega), s7 2 (by omega), s7 3 (by omega), s7 4 (by omega), s7 7 (by omega), s7 8 (by omega)]
    exact rS i hi
  · intro i hi
    have s7 := S7 i hi
    rw [epc i hi] at s7
    obtain ⟨P1, P2, P3, P4⟩ := rQ i hi
    rw [s7 6 (by omega), s7 5 (by omega)]
    refine ⟨P1, P2, fun j hj => ?_, P4⟩
    have := (P4.1 j hj).1
    rw [h4, va_cpy0, if_pos (by omega)]
    exact P3 j hj
  · intro i w hi hw
    have n9 := s_nat_n32 h9 (by omega)
    have old := hG i w hi hw
    rw [n7] at hi
    rw [n7, n9] at old ⊢
    rw [h10, va_cpy0]
    by_cases hlt : mv ≤ 40
    · have : (mv - min mv 40 + i) % 40 = i := by
        have : mv - min mv 40 = 0 := by omega
        rw [this, Nat.zero_add]; exact Nat.mod_eq_of_lt (by omega)
      rw [this] at old ⊢
      rw [if_pos (by omega)]
      exact old
    · have hl2 := Nat.mod_lt (mv - min mv 40 + i) (show 40 > 0 by decide)
      rw [if_pos (by omega)]
      exact old
end CLASS
end
section
/-! THE REFERENCE'S COPIES of its array -/
def s_cp (f g : zG) (k : Nat) : zG := fun j => if j < k then f j else g j
theorem s_cp0 (f g : zG) : s_cp f g 0 = g := by funext j; unfold s_cp; rw [if_neg (by omega)]
theorem s_cp_step (f g : zG) (k : Nat) : gu (s_cp f g k) k (f k) = s_cp f g (k + 1) := by
  funext j
  unfold gu s_cp
  by_cases h : j = k
  · subst h; rw [if_pos rfl, if_pos (by omega)]
  · rw [if_neg h]
    by_cases h2 : j < k
    · rw [if_pos h2, if_pos (by omega)]
    · rw [if_neg h2, if_neg (by omega)]
section MODEL
variable {σ : zSt} {M : Nat}
theorem m_lays (hM : zMs σ M) : f_X10_lays σ M = some (z_sA σ (M + 3) (s_cp (z_I σ (M + 1)) (z_I σ (M + 3)) 942)) := by
  unfold f_X10_lays f_X10_lays_2
  have e0 : (σ, (0 : Int32)) = ((fun k => (z_sA σ (M + 3) (s_cp (z_I σ (M + 1)) (z_I σ (M + 3)) k), n32 k)) 0 : zSt × Int32) := by
    simp only [s_cp0, z_sA_id]; rfl
  rw [e0]
  refine zloop_go (N := zN) (fun k => (z_sA σ (M + 3) (s_cp (z_I σ (M + 1)) (z_I σ (M + 3)) k), n32 k)) _ 942 (fun k hk => ?_) ?_ (by unfold zN; omega)
  · show b_X10_lays_2 M (z_sA σ (M + 3) (s_cp (z_I σ (M + 1)) (z_I σ (M + 3)) k)) (n32 k) = some (.inl (z_sA σ (M + 3) (s_cp (z_I σ (M + 1)) (z_I σ (M + 3)) (k + 1)), n32 (k + 1)))
    rw [← s_cp_step]
    simp (disch := omega) only [b_X10_lays_2, ↓zl_eq, ↓zb_eq, ↓zb2_eq, ↓zc_some, ↓zc_none, ↓zb_pre, ↓zb2_pre, ↓zc_pre, ↓zex_eq, ↓reduceIte, Option.isSome_some, Option.isSome_none, Option.getD_some, n32_lit, n32_nn, n32_nn2, n32_add, n32_mul, n32_toNat, n32_ix, hM.1, hM.2.1, hM.2.2.1, hM.2.2.2.1, hM.2.2.2.2.1, hM.2.2.2.2.2.1, hM.2.2.2.2.2.2.1, hM.2.2.2.2.2.2.2.1, hM.2.2.2.2.2.2.2.2.1, hM.2.2.2.2.2.2.2.2.2.1, hM.2.2.2.2.2.2.2.2.2.2.1, hM.2.2.2.2.2.2.2.2.2.2.2.1, hM.2.2.2.2.2.2.2.2.2.2.2.2, z_pI_eq, z_sA_sA, z_I_sA, z_J_sA, z_R_sA, z_ob_sA, z_ar_sA, z_ln_sA, z_nx_sA, n32_le, z_I_sAn]
    rw [if_neg (by omega)]
  · show b_X10_lays_2 M _ (n32 942) = _
    simp (disch := omega) only [b_X10_lays_2, ↓zl_eq, ↓zb_eq, ↓zb2_eq, ↓zc_some, ↓zc_none, ↓zb_pre, ↓zb2_pre, ↓zc_pre, ↓zex_eq, ↓reduceIte, Option.isSome_some, Option.isSome_none, Option.getD_some, n32_lit, n32_nn, n32_nn2, n32_add, n32_mul, n32_toNat, n32_ix, n32_le, Nat.le_refl]
theorem m_takesBack (hM : zMs σ M) : f_X10_takesBack σ M = some (z_sA σ (M + 1) (s_cp (z_I σ (M + 3)) (z_I σ (M + 1)) 942)) := by
  unfold f_X10_takesBack f_X10_takesBack_2
  have e0 : (σ, (0 : Int32)) = ((fun k => (z_sA σ (M + 1) (s_cp (z_I σ (M + 3)) (z_I σ (M + 1)) k), n32 k)) 0 : zSt × Int32) := by
    simp only [s_cp0, z_sA_id]; rfl
  rw [e0]
  refine zloop_go (N := zN) (fun k => (z_sA σ (M + 1) (s_cp (z_I σ (M + 3)) (z_I σ (M + 1)) k), n32 k)) _ 942 (fun k hk => ?_) ?_ (by unfold zN; omega)
  · show b_X10_takesBack_2 M (z_sA σ (M + 1) (s_cp (z_I σ (M + 3)) (z_I σ (M + 1)) k)) (n32 k) = some (.inl (z_sA σ (M + 1) (s_cp (z_I σ (M + 3)) (z_I σ (M + 1)) (k + 1)), n32 (k + 1)))
    rw [← s_cp_step]
    simp (disch := omega) only [b_X10_takesBack_2, ↓zl_eq, ↓zb_eq, ↓zb2_eq, ↓zc_some, ↓zc_none, ↓zb_pre, ↓zb2_pre, ↓zc_pre, ↓zex_eq, ↓reduceIte, Option.isSome_some, Option.isSome_none, Option.getD_some, n32_lit, n32_nn, n32_nn2, n32_add, n32_mul, n32_toNat, n32_ix, hM.1, hM.2.1, hM.2.2.1, hM.2.2.2.1, hM.2.2.2.2.1, hM.2.2.2.2.2.1, hM.2.2.2.2.2.2.1, hM.2.2.2.2.2.2.2.1, hM.2.2.2.2.2.2.2.2.1, hM.2.2.2.2.2.2.2.2.2.1, hM.2.2.2.2.2.2.2.2.2.2.1, hM.2.2.2.2.2.2.2.2.2.2.2.1, hM.2.2.2.2.2.2.2.2.2.2.2.2, z_pI_eq, z_sA_sA, z_I_sA, z_J_sA, z_R_sA, z_ob_sA, z_ar_sA, z_ln_sA, z_nx_sA, n32_le, z_I_sAn]
    rw [if_neg (by omega)]
  · show b_X10_takesBack_2 M _ (n32 942) = _
    simp (disch := omega) only [b_X10_takesBack_2, ↓zl_eq, ↓zb_eq, ↓zb2_eq, ↓zc_some, ↓zc_none, ↓zb_pre, ↓zb2_pre, ↓zc_pre, ↓zex_eq, ↓reduceIte, Option.isSome_some, Option.isSome_none, Option.getD_some, n32_lit, n32_nn, n32_nn2, n32_add, n32_mul, n32_toNat, n32_ix, n32_le, Nat.le_refl]
end MODEL
end
section
/-- the saved arrays moved down by one, so far -/
def s_dn1 (f : zG) (k : Nat) : zG := fun j => if j < k then f (j + 942) else f j
/-- an array put behind the saved ones, so far -/
def s_up (f g : zG) (b k : Nat) : zG := fun j => if b ≤ j ∧ j < b + k then g (j - b) else f j
theorem s_dn1_0 (f : zG) : s_dn1 f 0 = f := by funext j; unfold s_dn1; rw [if_neg (by omega)]
theorem s_dn1_step (f : zG) (k : Nat) : gu (s_dn1 f k) k (s_dn1 f k (k + 942)) = s_dn1 f (k + 1) := by
  funext j
  unfold gu s_dn1
  by_cases h : j = k
  · subst h; rw [if_pos rfl, if_neg (by omega), if_pos (by omega)]
  · rw [if_neg h]
    by_cases h2 : j < k
    · rw [if_pos h2, if_pos (by omega)]
    · rw [if_neg h2, if_neg (by omega)]
theorem s_up_0 (f g : zG) (b : Nat) : s_up f g b 0 = f := by funext j; unfold s_up; rw [if_neg (by omega)]
theorem s_up_step (f g : zG) (b k : Nat) : gu (s_up f g b k) (b + k) (g k) = s_up f g b (k + 1) := by
  funext j
  unfold gu s_up
  by_cases h : j = b + k
  · subst h; rw [if_pos rfl, if_pos (by omega)]; congr 1; omega
  · rw [if_neg h]
    by_cases h2 : b ≤ j ∧ j < b + k
    · rw [if_pos h2, if_pos (by omega)]
    · rw [if_neg h2, if_neg (by omega)]
section MODEL
variable {σ : zSt} {M : Nat}
theorem m_save51 (hM : zMs σ M) {sm : Nat} (hs : sm ≤ 3) (h3 : z_I σ M 3 = n32 sm) : f_X10_save_49 σ M = some (z_sA (z_sA σ (M + 2) (s_up (z_I σ (M + 2)) (z_I σ (M + 1)) (942 * sm) 942)) M (gu (z_I σ M) 3 (n32 (sm + 1)))) := by
  unfold f_X10_save_49 f_X10_save_51
  have e0 : (σ, (0 : Int32)) = ((fun k => (z_sA σ (M + 2) (s_up (z_I σ (M + 2)) (z_I σ (M + 1)) (942 * sm) k), n32 k)) 0 : zSt × Int32) := by
    simp only [s_up_0, z_sA_id]; rfl
  rw [e0]
  refine zloop_go (N := zN) (fun k => (z_sA σ (M + 2) (s_up (z_I σ (M + 2)) (z_I σ (M + 1)) (942 * sm) k), n32 k)) _ 942 (fun k hk => ?_) ?_ (by unfold zN; omega)
  · show b_X10_save_51 M (z_sA σ (M + 2) (s_up (z_I σ (M + 2)) (z_I σ (M + 1)) (942 * sm) k)) (n32 k) = some (.inl (z_sA σ (M + 2) (s_up (z_I σ (M + 2)) (z_I σ (M + 1)) (942 * sm) (k + 1)), n32 (k + 1)))
    rw [← s_up_step]
    simp (disch := omega) only [b_X10_save_51, ↓zl_eq, ↓zb_eq, ↓zb2_eq, ↓zc_some, ↓zc_none, ↓zb_pre, ↓zb2_pre, ↓zc_pre, ↓zex_eq, ↓reduceIte, Option.isSome_some, Option.isSome_none, Option.getD_some, n32_lit, n32_nn, n32_nn2, n32_add, n32_mul, n32_toNat, n32_ix, hM.1, hM.2.1, hM.2.2.1, hM.2.2.2.1, hM.2.2.2.2.1, hM.2.2.2.2.2.1, hM.2.2.2.2.2.2.1, hM.2.2.2.2.2.2.2.1, hM.2.2.2.2.2.2.2.2.1, hM.2.2.2.2.2.2.2.2.2.1, hM.2.2.2.2.2.2.2.2.2.2.1, hM.2.2.2.2.2.2.2.2.2.2.2.1, hM.2.2.2.2.2.2.2.2.2.2.2.2, z_pI_eq, z_sA_sA, z_I_sA, z_J_sA, z_R_sA, z_ob_sA, z_ar_sA, z_ln_sA, z_nx_sA, n32_le, z_I_sAn, h3]
    rw [if_neg (by omega)]
  · show b_X10_save_51 M _ (n32 942) = _
    simp (disch := omega) only [b_X10_save_51, ↓zl_eq, ↓zb_eq, ↓zb2_eq, ↓zc_some, ↓zc_none, ↓zb_pre, ↓zb2_pre, ↓zc_pre, ↓zex_eq, ↓reduceIte, Option.isSome_some, Option.isSome_none, Option.getD_some, n32_lit, n32_nn, n32_nn2, n32_add, n32_mul, n32_toNat, n32_ix, hM.1, hM.2.1, hM.2.2.1, hM.2.2.2.1, hM.2.2.2.2.1, hM.2.2.2.2.2.1, hM.2.2.2.2.2.2.1, hM.2.2.2.2.2.2.2.1, hM.2.2.2.2.2.2.2.2.1, hM.2.2.2.2.2.2.2.2.2.1, hM.2.2.2.2.2.2.2.2.2.2.1, hM.2.2.2.2.2.2.2.2.2.2.2.1, hM.2.2.2.2.2.2.2.2.2.2.2.2, z_pI_eq, z_sA_sA, z_I_sA, z_J_sA, z_R_sA, z_ob_sA, z_ar_sA, z_ln_sA, z_nx_sA, n32_le, Nat.le_refl, z_I_sAn, h3]
theorem m_save (hM : zMs σ M) {sm : Nat} (hs : sm ≤ 3) (h3 : z_I σ M 3 = n32 sm) : f_X10_save σ M = some (z_sA (z_sA σ (M + 2) (s_up (z_I σ (M + 2)) (z_I σ (M + 1)) (942 * sm) 942)) M (gu (z_I σ M) 3 (n32 (sm + 1)))) := by
  simp (disch := omega) only [f_X10_save, ↓zl_eq, ↓zb_eq, ↓zb2_eq, ↓zc_some, ↓zc_none, ↓zb_pre, ↓zb2_pre, ↓zc_pre, ↓zex_eq, ↓reduceIte, Option.isSome_some, Option.isSome_none, Option.getD_some, n32_lit, n32_nn, n32_nn2, n32_add, n32_mul, n32_toNat, n32_ix, hM.1, hM.2.1, hM.2.2.1, hM.2.2.2.1, hM.2.2.2.2.1, hM.2.2.2.2.2.1, hM.2.2.2.2.2.2.1, hM.2.2.2.2.2.2.2.1, hM.2.2.2.2.2.2.2.2.1, hM.2.2.2.2.2.2.2.2.2.1, hM.2.2.2.2.2.2.2.2.2.2.1, hM.2.2.2.2.2.2.2.2.2.2.2.1, hM.2.2.2.2.2.2.2.2.2.2.2.2, n32_eq, h3, m_save51 hM hs h3]
  rw [if_neg (by omega)]
theorem m_save4 (hM : zMs σ M) (h3 : z_I σ M 3 = n32 4) : f_X10_save σ M = some (z_sA (z_sA σ (M + 2) (s_up (s_dn1 (z_I σ (M + 2)) 2826) (z_I σ (M + 1)) 2826 942)) M (gu (z_I σ M) 3 (n32 4))) := by
  simp (disch := omega) only [f_X10_save, f_X10_save_10, ↓zl_eq, ↓zb_eq, ↓zb2_eq, ↓zc_some, ↓zc_none, ↓zb_pre, ↓zb2_pre, ↓zc_pre, ↓zex_eq, ↓reduceIte, Option.isSome_some, Option.isSome_none, Option.getD_some, n32_lit, n32_nn, n32_nn2, n32_add, n32_mul, n32_toNat, n32_ix, hM.1, hM.2.1, hM.2.2.1, hM.2.2.2.1, hM.2.2.2.2.1, hM.2.2.2.2.2.1, hM.2.2.2.2.2.2.1, hM.2.2.2.2.2.2.2.1, hM.2.2.2.2.2.2.2.2.1, hM.2.2.2.2.2.2.2.2.2.1, hM.2.2.2.2.2.2.2.2.2.2.1, hM.2.2.2.2.2.2.2.2.2.2.2.1, hM.2.2.2.2.2.2.2.2.2.2.2.2, h3]
  have e0 : (σ, n32 0) = ((fun k => (z_sA σ (M + 2) (s_dn1 (z_I σ (M + 2)) k), n32 k)) 0 : zSt × Int32) := by
    simp only [s_dn1_0, z_sA_id]
  rw [e0]
  refine zloop_go (N := zN) (fun k => (z_sA σ (M + 2) (s_dn1 (z_I σ (M + 2)) k), n32 k)) _ 2826 (fun k hk => ?_) ?_ (by unfold zN; omega)
  · show b_X10_save_10 M (z_sA σ (M + 2) (s_dn1 (z_I σ (M + 2)) k)) (n32 k) = some (.inl (z_sA σ (M + 2) (s_dn1 (z_I σ (M + 2)) (k + 1)), n32 (k + 1)))
    rw [← s_dn1_step]
    simp (disch := omega) only [b_X10_save_10, ↓zl_eq, ↓zb_eq, ↓zb2_eq, ↓zc_some, ↓zc_none, ↓zb_pre, ↓zb2_pre, ↓zc_pre, ↓zex_eq, ↓reduceIte, Option.isSome_some, Option.isSome_none, Option.getD_some, n32_lit, n32_nn, n32_nn2, n32_add, n32_mul, n32_toNat, n32_ix, hM.1, hM.2.1, hM.2.2.1, hM.2.2.2.1, hM.2.2.2.2.1, hM.2.2.2.2.2.1, hM.2.2.2.2.2.2.1, hM.2.2.2.2.2.2.2.1, hM.2.2.2.2.2.2.2.2.1, hM.2.2.2.2.2.2.2.2.2.1, hM.2.2.2.2.2.2.2.2.2.2.1, hM.2.2.2.2.2.2.2.2.2.2.2.1, hM.2.2.2.2.2.2.2.2.2.2.2.2, z_pI_eq, z_sA_sA, z_I_sA, z_J_sA, z_R_sA, z_ob_sA, z_ar_sA, z_ln_sA, z_nx_sA, n32_le]
    rw [if_neg (by omega)]
  · show b_X10_save_10 M (z_sA σ (M + 2) (s_dn1 (z_I σ (M + 2)) 2826)) (n32 2826) = _
    have e8 : n32 4 - n32 1 = n32 3 := rfl
    have K := m_save51 (σ := z_sA (z_sA σ (M + 2) (s_dn1 (z_I σ (M + 2)) 2826)) M (gu (z_I σ M) 3 (n32 3))) (M := M) hM (sm := 3) (by omega) (by rw [z_I_sA, gu_same])
    have x1 : z_I (z_sA (z_sA σ (M + 2) (s_dn1 (z_I σ (M + 2)) 2826)) M (gu (z_I σ M) 3 (n32 3))) (M + 2) = s_dn1 (z_I σ (M + 2)) 2826 := by rw [z_I_sAn _ _ _ (by omega), z_I_sA]
    have x2 : z_I (z_sA (z_sA σ (M + 2) (s_dn1 (z_I σ (M + 2)) 2826)) M (gu (z_I σ M) 3 (n32 3))) (M + 1) = z_I σ (M + 1) := by rw [z_I_sAn _ _ _ (by omega), z_I_sAn _ _ _ (by omega)]
    rw [x1, x2, z_I_sA] at K
    have comm : ∀ (s : zSt) (f g h k : zG), z_sA (z_sA (z_sA (z_sA s (M + 2) f) M g) (M + 2) h) M k = z_sA (z_sA s (M + 2) h) M k := by
      intro s f g h k
      unfold z_sA
      congr 1; congr 1; congr 1
      funext x j
      by_cases h1 : x = M
      · simp [h1]
      · by_cases h2 : x = M + 2 <;> simp [h1, h2]
    rw [comm] at K
    have e9 : gu (gu (z_I σ M) 3 (n32 3)) 3 (n32 (3 + 1)) = gu (z_I σ M) 3 (n32 4) := by
      funext j; unfold gu; by_cases hj : j = 3 <;> simp [hj]
    rw [e9] at K
    simp (disch := omega) only [b_X10_save_10, ↓zl_eq, ↓zb_eq, ↓zb2_eq, ↓zc_some, ↓zc_none, ↓zb_pre, ↓zb2_pre, ↓zc_pre, ↓zex_eq, ↓reduceIte, Option.isSome_some, Option.isSome_none, Option.getD_some, n32_lit, n32_nn, n32_nn2, n32_add, n32_mul, n32_toNat, n32_ix, hM.1, hM.2.1, hM.2.2.1, hM.2.2.2.1, hM.2.2.2.2.1, hM.2.2.2.2.2.1, hM.2.2.2.2.2.2.1, hM.2.2.2.2.2.2.2.1, hM.2.2.2.2.2.2.2.2.1, hM.2.2.2.2.2.2.2.2.2.1, hM.2.2.2.2.2.2.2.2.2.2.1, hM.2.2.2.2.2.2.2.2.2.2.2.1, hM.2.2.2.2.2.2.2.2.2.2.2.2, z_pI_eq, z_sA_sA, z_I_sA, z_J_sA, z_R_sA, z_ob_sA, z_ar_sA, z_ln_sA, z_nx_sA, n32_le, Nat.le_refl, z_I_sAn, h3, e8, K]
end MODEL
end
section
/-! THE REFERENCE'S QUESTIONS: in, goes -/
section MODEL
variable {σ : zSt} {M : Nat}
theorem m_in64 (σ : zSt) (v lo hi : Int64) : f_X10_in σ v lo hi = some (bi (decide (lo ≤ v) && decide (v ≤ hi))) := by
  unfold f_X10_in f_X10_in_17 f_X10_in_18
  by_cases h1 : lg_cmp v lo < 0
  · rw [if_pos h1]
    rw [lg_cmp_lt] at h1
    have : ¬ lo ≤ v := by rw [Int64.not_le]; exact h1
    simp only [this, decide_false, Bool.false_and]
    rfl
  · rw [if_neg h1]
    rw [lg_cmp_lt, Int64.not_lt] at h1
    by_cases h2 : 0 < lg_cmp v hi
    · rw [if_pos h2]
      rw [lg_cmp_gt] at h2
      have : ¬ v ≤ hi := by rw [Int64.not_le]; exact h2
      simp only [this, decide_false, Bool.and_false]
      rfl
    · rw [if_neg h2]
      rw [lg_cmp_gt, Int64.not_lt] at h2
      simp only [h1, h2, decide_true, Bool.and_self]
      rfl
/-- the row of what `goes` notes -/
def s_goes (a b c : Bool) : Int32 := if a = false then n32 1 else if b = false then n32 2 else if c = false then n32 3 else n32 0
theorem m_goes (hM : zMs σ M) (a b c : Bool) : f_X10_goes σ M (bi a) (bi b) (bi c) = some (bi (a && b && c), z_sA σ M (gu (z_I σ M) 4 (s_goes a b c))) := by
  have n1 : (n32 1 = n32 0) = False := eq_false (by decide)
  have n2 : (n32 2 = n32 0) = False := eq_false (by decide)
  have n3 : (n32 3 = n32 0) = False := eq_false (by decide)
  have b1 : z_bl (n32 1) = true := rfl
  have b0 : z_bl (n32 0) = true := rfl
  unfold s_goes
  cases a <;> cases b <;> cases c <;> simp only [f_X10_goes, f_X10_goes_26, f_X10_goes_41, ↓zl_eq, ↓zb_eq, ↓zb2_eq, ↓zc_some, ↓zc_none, ↓zb_pre, ↓zb2_pre, ↓zc_pre, ↓zex_eq, ↓reduceIte, Option.isSome_some, Option.isSome_none, Option.getD_some, n32_lit, bi_0n, hM.1, z_pI_eq, z_ob_sA, z_I_sA, gu_same, n1, n2, n3, b1, b0, Bool.true_eq_false, Bool.false_eq_true] <;> rfl
end MODEL
end
section
theorem i64_le {x : Int32} {k : Nat} (hk : k < 2147483648) : (x.toInt64 ≤ Int64.ofNat k) ↔ x.toInt ≤ k := by
  rw [Int64.le_iff_toInt_le, Int32.toInt_toInt64, Int64.toInt_ofNat_of_lt (by omega)]
theorem i64_ge {x : Int32} {k : Nat} (hk : k < 2147483648) : (Int64.ofNat k ≤ x.toInt64) ↔ (k : Int) ≤ x.toInt := by
  rw [Int64.le_iff_toInt_le, Int32.toInt_toInt64, Int64.toInt_ofNat_of_lt (by omega)]
theorem n32_of2 {x : Int32} {k : Nat} (h0 : 0 ≤ x.toInt) (h1 : x.toInt ≤ k) (hk : k < 2147483648) : ∃ y, y ≤ k ∧ x = n32 y := by
  refine ⟨x.toInt.toNat, by omega, ?_⟩
  rw [← Int32.toInt_inj, n32_toInt (by omega)]
  omega
section MODEL
variable {σ : zSt} {M : Nat}
theorem m_inN (σ : zSt) (x : Int32) {lo hi : Nat} (h1 : lo < 2147483648) (h2 : hi < 2147483648) : f_X10_in σ x.toInt64 (Int64.ofNat lo) (Int64.ofNat hi) = some (bi (decide ((lo : Int) ≤ x.toInt ∧ x.toInt ≤ hi))) := by
  rw [m_in64]
  congr 2
  rw [Bool.decide_and]
  congr 1
  · exact decide_eq_decide.2 (i64_ge h1)
  · exact decide_eq_decide.2 (i64_le h2)
end MODEL
end
section
section MODEL
variable {σ : zSt} {M : Nat}
theorem m_isSt1 (hM : zMs σ M) {x : Nat} (hx : x < 32) : f_X10_isStation σ M (n32 x) = some (bi (decide (z_I σ (M + 1) (18 + 7 * x + 0) = n32 1))) := by
  have e : f_X10_in σ (n32 x).toInt64 (0 : Int64) (31 : Int64) = some (bi true) := by
    have := m_inN σ (n32 x) (lo := 0) (hi := 31) (by omega) (by omega)
    rw [n32_toInt (by omega)] at this
    rw [show (0 : Int64) = Int64.ofNat 0 from rfl, show (31 : Int64) = Int64.ofNat 31 from rfl, this]
    congr 2
    exact decide_eq_true (by omega)
  have b1 : z_bl (n32 1) = true := rfl
  have b0 : z_bl (n32 0) = true := rfl
  have t0 : (bi true = 0) = False := eq_false (by decide)
  unfold f_X10_isStation
  rw [e]
  simp (disch := omega) only [f_X10_isStation_26, f_X10_isStation_27, ↓zl_eq, ↓zb_eq, ↓zb2_eq, ↓zc_some, ↓zc_none, ↓zb_pre, ↓zb2_pre, ↓zc_pre, ↓zex_eq, ↓reduceIte, Option.isSome_some, Option.isSome_none, Option.getD_some, t0, hM.1, n32_lit, m_of hM, b1, b0]
  by_cases h : z_I σ (M + 1) (18 + 7 * x + 0) = n32 1
  · simp only [h, if_true, decide_true]; rfl
  · simp only [h, if_false, decide_false]; rfl
theorem m_isSt0 (x : Int32) (hx : ¬ (0 ≤ x.toInt ∧ x.toInt ≤ 31)) : f_X10_isStation σ M x = some (bi false) := by
  have e : f_X10_in σ x.toInt64 (0 : Int64) (31 : Int64) = some (bi false) := by
    have := m_inN σ x (lo := 0) (hi := 31) (by omega) (by omega)
    rw [show (0 : Int64) = Int64.ofNat 0 from rfl, show (31 : Int64) = Int64.ofNat 31 from rfl, this]
    congr 2
    exact decide_eq_false hx
  unfold f_X10_isStation
  rw [e]
  rfl
end MODEL
end
section
section CLASS
variable {σ : zSt}
theorem c_isWithin (σ : zSt) (x lo hi : Int32) : f_X9_isWithin σ x lo hi = some (bi (decide (lo.toInt ≤ x.toInt ∧ x.toInt ≤ hi.toInt))) := by
  have b1 : z_bl (n32 1) = true := rfl
  have b0 : z_bl (n32 0) = true := rfl
  unfold f_X9_isWithin f_X9_isWithin_14 f_X9_isWithin_15
  by_cases h1 : x < lo
  · rw [if_pos h1]
    rw [Int32.lt_iff_toInt_lt] at h1
    rw [decide_eq_false (by omega)]
    rfl
  · rw [if_neg h1]
    rw [Int32.lt_iff_toInt_lt] at h1
    by_cases h2 : hi < x
    · rw [if_pos h2]
      rw [Int32.lt_iff_toInt_lt] at h2
      rw [decide_eq_false (by omega)]
      rfl
    · rw [if_neg h2]
      rw [Int32.lt_iff_toInt_lt] at h2
      rw [decide_eq_true (by omega)]
      rfl
theorem c_isAddress (σ : zSt) (x : Int32) : f_X9_isAddress σ x = some (bi (decide (0 ≤ x.toInt ∧ x.toInt ≤ 31))) := by
  unfold f_X9_isAddress
  rw [c_isWithin, zb_eq, if_pos (bi_bl _)]
  rfl
end CLASS
end
section
/-! THE SAVED STATES OF THE CLASS -/
def zHs (σ : zSt) (hs : Nat) (hl : Nat → Nat) : Prop :=
  z_ob σ hs 1 = true ∧ z_R σ hs 0 = some (hs + 1) ∧ z_ar σ (hs + 1) 4 = true ∧ z_ln σ (hs + 1) = 4 ∧ ∀ i, i < 4 → z_R σ (hs + 1) i = some (hl i) ∧ z_ob σ (hl i) 2 = true
section CLASS
variable {σ : zSt} {hs : Nat} {hl : Nat → Nat}
theorem c_stateAt (h : zHs σ hs hl) {i : Nat} (hi : i < 4) : f_X1_stateAt σ hs (n32 i) = some (some (hl i)) := by
  obtain ⟨h1, h2, h3, h4, h5⟩ := h
  have f1 : (i < 0) = False := eq_false (by omega)
  have f2 : (4 ≤ i) = False := eq_false (by omega)
  simp (disch := omega) only [f_X1_stateAt, f_X1_stateAt_22, f_X1_stateAt_23, ↓zl_eq, ↓zb_eq, ↓zb2_eq, ↓zc_some, ↓zc_none, ↓zb_pre, ↓zb2_pre, ↓zc_pre, ↓zex_eq, ↓reduceIte, Option.isSome_some, Option.isSome_none, Option.getD_some, n32_lit, h1, h2, h3, h4, (h5 i hi).1, ofN_n32, n32_lt, n32_le, f1, f2, n32_ix, n32_toNat]
/-- the heap behind the dropping of the oldest state -/
def s_rot4 (σ : zSt) (hs : Nat) (hl : Nat → Nat) : zSt :=
  z_pR (z_pI (z_pR (z_pR (z_pR σ (hs + 1) 0 (some (hl 1))) (hs + 1) 1 (some (hl 2))) (hs + 1) 2 (some (hl 3))) hs 1 (n32 3)) (hs + 1) 3 (some (hl 0))
theorem c_dropOldest (h : zHs σ hs hl) : f_X1_dropOldest σ hs = some (s_rot4 σ hs hl) := by
  have hS := c_stateAt h (i := 0) (by decide)
  obtain ⟨h1, h2, h3, h4, h5⟩ := h
  have hne : ¬ hs = hs + 1 := by omega
  have a1 := h5 1 (by decide)
  have a2 := h5 2 (by decide)
  have a3 := h5 3 (by decide)
  have a0 := h5 0 (by decide)
  have e1 : f_X1_dropOldest σ hs = f_X1_dropOldest_8 hs (some (hl 0)) σ (n32 1) := by
    simp only [f_X1_dropOldest, ↓zl_eq, ↓zb_eq, ↓zb2_eq, ↓zc_some, ↓zc_none, ↓zb_pre, ↓zb2_pre, ↓zc_pre, ↓zex_eq, ↓reduceIte, Option.isSome_some, Option.isSome_none, Option.getD_some, n32_lit, h1, hS]
  rw [e1]
  unfold f_X1_dropOldest_8
  have m1 : n32 1 - n32 1 = n32 0 := rfl
  have m2 : n32 2 - n32 1 = n32 1 := rfl
  have m3 : n32 3 - n32 1 = n32 2 := rfl
  have m4 : n32 4 - n32 1 = n32 3 := rfl
  have g1 : (4 ≤ 1) = False := eq_false (by omega)
  have g2 : (4 ≤ 2) = False := eq_false (by omega)
  have g3 : (4 ≤ 3) = False := eq_false (by omega)
  refine (zloop_l (N := 4999) (t := (z_pR σ (hs + 1) 0 (some (hl 1)), n32 2)) ?_).trans ?_
  · show b_X1_dropOldest_8 hs (some (hl 0)) σ (n32 1) = _
    simp (disch := omega) only [b_X1_dropOldest_8, ↓zl_eq, ↓zb_eq, ↓zb2_eq, ↓zc_some, ↓zc_none, ↓zb_pre, ↓zb2_pre, ↓zc_pre, ↓zex_eq, ↓reduceIte, Option.isSome_some, Option.isSome_none, Option.getD_some, n32_lit, h1, h2, h3, h4, ofN_n32, n32_le, n32_ix, n32_toNat, a1.1, a1.2, g1, m1, n32_add]
  refine (zloop_l (N := 4998) (t := (z_pR (z_pR σ (hs + 1) 0 (some (hl 1))) (hs + 1) 1 (some (hl 2)), n32 3)) ?_).trans ?_
  · show b_X1_dropOldest_8 hs (some (hl 0)) (z_pR σ (hs + 1) 0 (some (hl 1))) (n32 2) = _
    simp (disch := omega) only [b_X1_dropOldest_8, ↓zl_eq, ↓zb_eq, ↓zb2_eq, ↓zc_some, ↓zc_none, ↓zb_pre, ↓zb2_pre, ↓zc_pre, ↓zex_eq, ↓reduceIte, Option.isSome_some, Option.isSome_none, Option.getD_some, n32_lit, z_ob_pR, z_ar_pR, z_ln_pR, z_R_pR, hne, false_and, true_and, if_false, h1, h2, h3, h4, ofN_n32, n32_le, n32_ix, n32_toNat, a2.1, a2.2, g2, m2, n32_add, show ((2 : Nat) = 0) = False from eq_false (by decide)]
  refine (zloop_l (N := 4997) (t := (z_pR (z_pR (z_pR σ (hs + 1) 0 (some (hl 1))) (hs + 1) 1 (some (hl 2))) (hs + 1) 2 (some (hl 3)), n32 4)) ?_).trans ?_
  · show b_X1_dropOldest_8 hs (some (hl 0)) (z_pR (z_pR σ (hs + 1) 0 (some (hl 1))) (hs + 1) 1 (some (hl 2))) (n32 3) = _
    simp (disch := omega) only [b_X1_dropOldest_8, ↓zl_eq, ↓zb_eq, ↓zb2_eq, ↓zc_some, ↓zc_none, ↓zb_pre, ↓zb2_pre, ↓zc_pre, ↓zex_eq, ↓reduceIte, Option.isSome_some, Option.isSome_none, Option.getD_some, n32_lit, z_ob_pR, z_ar_pR, z_ln_pR, z_R_pR, hne, false_and, true_and, if_false, h1, h2, h3, h4, ofN_n32, n32_le, n32_ix, n32_toNat, a3.1, a3.2, g3, m3, n32_add, show ((3 : Nat) = 0) = False from eq_false (by decide), show ((3 : Nat) = 1) = False from eq_false (by decide)]
  refine zloop_r (N := 4996) ?_
  show b_X1_dropOldest_8 hs (some (hl 0)) (z_pR (z_pR (z_pR σ (hs + 1) 0 (some (hl 1))) (hs + 1) 1 (some (hl 2))) (hs + 1) 2 (some (hl 3))) (n32 4) = _
  unfold s_rot4
  simp (disch := omega) only [b_X1_dropOldest_8, ↓zl_eq, ↓zb_eq, ↓zb2_eq, ↓zc_some, ↓zc_none, ↓zb_pre, ↓zb2_pre, ↓zc_pre, ↓zex_eq, ↓reduceIte, Option.isSome_some, Option.isSome_none, Option.getD_some, n32_lit, z_ob_pR, z_ar_pR, z_ln_pR, z_R_pR, z_ob_pI, z_ar_pI, z_ln_pI, z_R_pI, z_I_pI, and_self, hne, false_and, true_and, if_false, h1, h2, h3, h4, ofN_n32, n32_le, n32_ix, n32_toNat, Nat.le_refl, m4, a0.2]
end CLASS
end
section
/-! THE WHOLE OF THE CLASS AND OF THE REFERENCE: the rows of saved states -/
/-- a line that is copied onto: its shape and widths alone -/
def zBl (σ : zSt) (a : Nat) : Prop := zLs σ a ∧ (∃ pl, zPl σ a pl) ∧ qW σ a
/-- a line that is an array -/
def zLn (σ : zSt) (a : Nat) (g : zG) : Prop := ∃ pl ad qu n, zLs σ a ∧ zPl σ a pl ∧ zRep σ a pl ad qu n g ∧ qG σ a g
theorem zLn_bl {σ : zSt} {a : Nat} {g : zG} (h : zLn σ a g) : zBl σ a := by
  obtain ⟨pl, ad, qu, n, h1, h2, h3, h4⟩ := h
  exact ⟨h1, ⟨pl, h2⟩, h3.2.1⟩
/-- a line is copied: in these words -/
theorem zLn_copy {σ : zSt} {a c : Nat} {g : zG} (hA : zBl σ a) (hC : zLn σ c g) (hd : a + 19 ≤ c ∨ c + 19 ≤ a) (hN : s_num g) : ∃ σ', f_X2_copyFrom σ a c = some σ' ∧ zFr a σ σ' ∧ zLn σ' a g := by
  obtain ⟨hL, ⟨pa, hP⟩, hW⟩ := hA
  obtain ⟨pc, ad, qu, n, h1, h2, h3, h4⟩ := hC
  obtain ⟨σ', E, F, R, G⟩ := c_copy hL hP hW h1 h2 hd h3 h4 hN
  exact ⟨σ', E, F, pa, ad, qu, n, zLs_fr F hL, zPl_fr F hP, R, G⟩
/-- what a line is does not hang on other cells -/
theorem zLn_far {σ σ' : zSt} {a : Nat} {g : zG} (hob : z_ob σ' = z_ob σ) (har : z_ar σ' = z_ar σ) (hln : z_ln σ' = z_ln σ) (hR : ∀ q, a ≤ q → q < a + 19 → z_R σ' q = z_R σ q) (hI : ∀ q, a ≤ q → q < a + 19 → z_I σ' q = z_I σ q ∧ z_J σ' q = z_J σ q) (h : zLn σ a g) : zLn σ' a g := by
  obtain ⟨pl, ad, qu, n, h1, h2, h3, h4⟩ := h
  have I : ∀ k, k < 19 → z_I σ' (a + k) = z_I σ (a + k) := fun k hk => (hI _ (by omega) (by omega)).1
  have I0 : z_I σ' a = z_I σ a := (hI _ (by omega) (by omega)).1
  have RR : ∀ k, k < 19 → z_R σ' (a + k) = z_R σ (a + k) := fun k hk => hR _ (by omega) (by omega)
  have R0 : z_R σ' a = z_R σ a := hR _ (by omega) (by omega)
  obtain ⟨rL, rW, rM, rN, rC, rA, rS, rQ⟩ := h3
  have hp : ∀ i, i < n → z_I σ' (pl i) = z_I σ (pl i) := fun i hi => by
    have := (h2.1 i (by have := rA.1; omega)).2.2
    exact (hI _ (by omega) (by omega)).1
  refine ⟨pl, ad, qu, n, ?_, ?_, ⟨?_, ?_, qM_congr (I 2 (by omega)) (I 4 (by omega)) (sMs_r g) rM, qN_congr (I 5 (by omega)) (I 6 (by omega)) (I 7 (by omega)) rfl (fun _ _ => rfl) rN, qC_congr (I 8 (by omega)) (by rw [(hI (a + 8) (by omega) (by omega)).2]) (fun _ _ _ => rfl) (sMs_r g) rC, rA, ?_, qQ_congr (I 4 (by omega)) (fun i hi => by rw [hp i hi]; exact ⟨rfl, rfl⟩) (sMs_r g) rQ⟩, qG_congr (I 10 (by omega)) rfl rfl (fun _ _ => rfl) h4⟩
  · unfold zLs
    rw [hob, har, hln, R0, RR 2 (by omega), RR 3 (by omega), RR 5 (by omega), RR 9 (by omega)]
    exact h1
  · unfold zPl
    rw [hob, RR 1 (by omega)]
    exact h2
  · unfold qL; rw [I0]; exact rL
  · unfold qW; rw [I 3 (by omega), I 9 (by omega)]; exact rW
  · intro i hi; rw [hp i hi]; exact rS i hi
end
section
/-- a blank line does not hang on other cells -/
theorem zBl_far {σ σ' : zSt} {a : Nat} (hob : z_ob σ' = z_ob σ) (har : z_ar σ' = z_ar σ) (hln : z_ln σ' = z_ln σ) (hR : ∀ q, a ≤ q → q < a + 19 → z_R σ' q = z_R σ q) (hI : ∀ q, a ≤ q → q < a + 19 → z_I σ' q = z_I σ q) (h : zBl σ a) : zBl σ' a := by
  obtain ⟨h1, ⟨pl, h2⟩, h3⟩ := h
  have RR : ∀ k, k < 19 → z_R σ' (a + k) = z_R σ (a + k) := fun k hk => hR _ (by omega) (by omega)
  have R0 : z_R σ' a = z_R σ a := hR _ (by omega) (by omega)
  refine ⟨?_, ⟨pl, ?_⟩, ?_⟩
  · unfold zLs
    rw [hob, har, hln, R0, RR 2 (by omega), RR 3 (by omega), RR 5 (by omega), RR 9 (by omega)]
    exact h1
  · unfold zPl
    rw [hob, RR 1 (by omega)]
    exact h2
  · unfold qW; rw [hI _ (by omega) (by omega), hI _ (by omega) (by omega)]; exact h3
theorem zLn_fr {σ σ' : zSt} {a c : Nat} {g : zG} (F : zFr c σ σ') (hd : a + 19 ≤ c ∨ c + 19 ≤ a) (h : zLn σ a g) : zLn σ' a g :=
  zLn_far (z_ob_eq F.2.1) (z_ar_eq F.2.1) (z_ln_eq F.2.1) (fun q _ _ => by rw [F.2.2.1]) (fun q _ _ => F.2.2.2 q (by omega)) h
theorem zBl_fr {σ σ' : zSt} {a c : Nat} (F : zFr c σ σ') (hd : a + 19 ≤ c ∨ c + 19 ≤ a) (h : zBl σ a) : zBl σ' a :=
  zBl_far (z_ob_eq F.2.1) (z_ar_eq F.2.1) (z_ln_eq F.2.1) (fun q _ _ => by rw [F.2.2.1]) (fun q _ _ => (F.2.2.2 q (by omega)).1) h
end
section
/-- the history at hs: k saved states gs 0 .. gs (k-1), its lines at hl 0 .. hl 3, apart from each other and from the history's two cells -/
def zSv (σ : zSt) (hs : Nat) (hl : Nat → Nat) (k : Nat) (gs : Nat → zG) : Prop :=
  zHs σ hs hl ∧ z_I σ hs 1 = n32 k ∧ k ≤ 4 ∧ (∀ i, i < k → zLn σ (hl i) (gs i) ∧ s_num (gs i)) ∧ (∀ i, i < 4 → zBl σ (hl i) ∧ hs + 2 ≤ hl i) ∧ ∀ i j, i < 4 → j < 4 → i ≠ j → hl i + 19 ≤ hl j ∨ hl j + 19 ≤ hl i
section CLASS
variable {σ : zSt} {hs a k : Nat} {hl : Nat → Nat} {gs : Nat → zG} {g : zG}
/-- a change of one line far from the history leaves it -/
theorem zSv_fr {σ' : zSt} (F : zFr a σ σ') (h : zSv σ hs hl k gs) (hd : ∀ i, i < 4 → hl i + 19 ≤ a ∨ a + 19 ≤ hl i) (hh : hs + 2 ≤ a ∨ a + 19 ≤ hs) : zSv σ' hs hl k gs := by
  obtain ⟨⟨h1, h2, h3, h4, h5⟩, hk, hk4, hg, hb, hp⟩ := h
  refine ⟨⟨by rw [z_ob_eq F.2.1]; exact h1, by rw [F.2.2.1]; exact h2, by rw [z_ar_eq F.2.1]; exact h3, by rw [z_ln_eq F.2.1]; exact h4, fun i hi => by rw [F.2.2.1, z_ob_eq F.2.1]; exact h5 i hi⟩, by rw [(F.2.2.2 _ (by omega)).1]; exact hk, hk4, fun i hi => ⟨zLn_fr F (by have := hd i (by omega); omega) (hg i hi).1, (hg i hi).2⟩, fun i hi => ⟨zBl_fr F (by have := hd i hi; omega) (hb i hi).1, (hb i hi).2⟩, hp⟩
/-- the state is saved where there is room -/
theorem c_save16 (h : zSv σ hs hl k gs) (hk : k < 4) (hA : zLn σ a g) (hN : s_num g) (hd : ∀ i, i < 4 → hl i + 19 ≤ a ∨ a + 19 ≤ hl i) :
    ∃ σ', f_X1_save_16 σ hs a = some σ' ∧ zSv σ' hs hl (k + 1) (fun i => if i = k then g else gs i) ∧ z_nx σ' = z_nx σ ∧ z_sh σ' = z_sh σ ∧ z_R σ' = z_R σ ∧ ∀ q, q ≠ hs → (∀ i, i < 4 → q < hl i ∨ hl i + 19 ≤ q) → z_I σ' q = z_I σ q ∧ z_J σ' q = z_J σ q := by
  have hS := c_stateAt h.1 hk
  obtain ⟨⟨h1, h2, h3, h4, h5⟩, hk1, hk4, hg, hb, hp⟩ := h
  obtain ⟨σ1, E, F, L⟩ := zLn_copy (hb k hk).1 hA (hd k hk) hN
  have hx := (hb k hk).2
  have e1 : z_I σ1 hs 1 = n32 k := by rw [(F.2.2.2 _ (by omega)).1]; exact hk1
  have F2 : ∀ i, i < 4 → zFr hs σ1 (z_pI σ1 hs 1 (n32 (k + 1))) := fun i hi => by rw [z_pI_eq]; exact zFr_sA _ (Nat.le_refl _) (by omega) _
  have q2 : ∀ q, q ≠ hs → z_I (z_pI σ1 hs 1 (n32 (k + 1))) q = z_I σ1 q := fun q hq => by rw [z_pI_eq]; exact z_I_sAn _ _ _ hq
  have nob : z_ob (z_pI σ1 hs 1 (n32 (k + 1))) = z_ob σ1 := rfl
  have far : ∀ i (gi : zG), i < 4 → zLn σ1 (hl i) gi → zLn (z_pI σ1 hs 1 (n32 (k + 1))) (hl i) gi := fun i gi hi hln => by
    have hx2 := (hb i hi).2
    exact zLn_far (σ := σ1) rfl rfl rfl (fun _ _ _ => rfl) (fun q h1 h2 => ⟨q2 q (by omega), rfl⟩) hln
  have farb : ∀ i, i < 4 → zBl σ1 (hl i) → zBl (z_pI σ1 hs 1 (n32 (k + 1))) (hl i) := fun i hi hln => by
    have hx2 := (hb i hi).2
    exact zBl_far (σ := σ1) rfl rfl rfl (fun _ _ _ => rfl) (fun q h1 h2 => q2 q (by omega)) hln
  refine ⟨z_pI σ1 hs 1 (n32 (k + 1)), ?_, ⟨⟨?_, ?_, ?_, ?_, ?_⟩, ?_, by omega, ?_, ?_, hp⟩, F.1, F.2.1, F.2.2.1, ?_⟩
  · simp only [f_X1_save_16, f_X1_save_44, ↓zl_eq, ↓zb_eq, ↓zb2_eq, ↓zc_some, ↓zc_none, ↓zb_pre, ↓zb2_pre, ↓zc_pre, ↓zex_eq, ↓reduceIte, Option.isSome_some, Option.isSome_none, Option.getD_some, n32_lit, h1, hk1, hS, (h5 k hk).2, E, z_ob_eq F.2.1, e1, n32_add]
  · rw [nob, z_ob_eq F.2.1]; exact h1
  · show z_R σ1 hs 0 = _
    rw [F.2.2.1]; exact h2
  · show z_ar σ1 (hs + 1) 4 = true
    rw [z_ar_eq F.2.1]; exact h3
  · show z_ln σ1 (hs + 1) = 4
    rw [z_ln_eq F.2.1]; exact h4
  · intro i hi
    show z_R σ1 (hs + 1) i = _ ∧ z_ob σ1 (hl i) 2 = true
    rw [F.2.2.1, z_ob_eq F.2.1]; exact h5 i hi
  · rw [z_pI_eq, z_I_sA, gu_same]
  · intro i hi
    by_cases hik : i = k
    · subst hik
      simp only [if_true]
      exact ⟨far i g hk L, hN⟩
    · simp only [hik, if_false]
      exact ⟨far i _ (by omega) (zLn_fr F (hp i k (by omega) hk hik) (hg i (by omega)).1), (hg i (by omega)).2⟩
  · intro i hi
    by_cases hik : i = k
    · subst hik
      exact ⟨farb i hi (zLn_bl L), (hb i hi).2⟩
    · exact ⟨farb i hi (zBl_fr F (hp i k hi hk hik) (hb i hi).1), (hb i hi).2⟩
  · intro q hq hq2
    have := hq2 k hk
    exact ⟨(q2 q hq).trans (F.2.2.2 q (by omega)).1, (F.2.2.2 q (by omega)).2⟩
end CLASS
end
section
def s_hl (hl : Nat → Nat) : Nat → Nat := fun i => if i = 3 then hl 0 else hl (i + 1)
theorem s_hl_lt (i : Nat) (hl : Nat → Nat) (hi : i < 4) : ∃ j, j < 4 ∧ s_hl hl i = hl j ∧ (j = if i = 3 then 0 else i + 1) := by
  unfold s_hl
  by_cases h : i = 3
  · exact ⟨0, by omega, by rw [if_pos h], by rw [if_pos h]⟩
  · exact ⟨i + 1, by omega, by rw [if_neg h], by rw [if_neg h]⟩
section CLASS
variable {σ : zSt} {hs a k : Nat} {hl : Nat → Nat} {gs : Nat → zG} {g : zG}
theorem s_rot4_I (q : Nat) (hq : q ≠ hs) : z_I (s_rot4 σ hs hl) q = z_I σ q := by
  funext j
  unfold s_rot4
  rw [z_I_pR, z_I_pI, if_neg (by intro h; exact hq h.1), z_I_pR, z_I_pR, z_I_pR]
theorem s_rot4_R (q : Nat) (hq : q ≠ hs + 1) : z_R (s_rot4 σ hs hl) q = z_R σ q := by
  funext j
  unfold s_rot4
  rw [z_R_pR, if_neg (by intro h; exact hq h.1), z_R_pI, z_R_pR, if_neg (by intro h; exact hq h.1), z_R_pR, if_neg (by intro h; exact hq h.1), z_R_pR, if_neg (by intro h; exact hq h.1)]
theorem s_rot4_Rh (i : Nat) (hi : i < 4) : z_R (s_rot4 σ hs hl) (hs + 1) i = some (s_hl hl i) := by
  unfold s_rot4 s_hl
  rw [z_R_pR, z_R_pI, z_R_pR, z_R_pR, z_R_pR]
  rcases (show i = 0 ∨ i = 1 ∨ i = 2 ∨ i = 3 by omega) with rfl | rfl | rfl | rfl <;> simp
theorem c_rot4 (h : zSv σ hs hl 4 gs) : zSv (s_rot4 σ hs hl) hs (s_hl hl) 3 (fun i => gs (i + 1)) := by
  obtain ⟨⟨h1, h2, h3, h4, h5⟩, hk1, hk4, hg, hb, hp⟩ := h
  have ln : ∀ i (gi : zG), i < 4 → zLn σ (hl i) gi → zLn (s_rot4 σ hs hl) (hl i) gi := fun i gi hi hln => by
    have hx := (hb i hi).2
    exact zLn_far (σ := σ) rfl rfl rfl (fun q _ _ => s_rot4_R q (by omega)) (fun q _ _ => ⟨s_rot4_I q (by omega), rfl⟩) hln
  have bl : ∀ i, i < 4 → zBl (s_rot4 σ hs hl) (hl i) := fun i hi => by
    have hx := (hb i hi).2
    exact zBl_far (σ := σ) rfl rfl rfl (fun q _ _ => s_rot4_R q (by omega)) (fun q _ _ => s_rot4_I q (by omega)) (hb i hi).1
  refine ⟨⟨h1, by rw [s_rot4_R _ (by omega)]; exact h2, h3, h4, fun i hi => ⟨s_rot4_Rh i hi, ?_⟩⟩, ?_, by omega, ?_, ?_, ?_⟩
  · obtain ⟨j, hj, e, _⟩ := s_hl_lt i hl hi
    rw [e]; exact (h5 j hj).2
  · unfold s_rot4
    rw [z_I_pR, z_I_pI, if_pos ⟨rfl, rfl⟩]
  · intro i hi
    have e : s_hl hl i = hl (i + 1) := by unfold s_hl; rw [if_neg (by omega)]
    rw [e]
    exact ⟨ln _ _ (by omega) (hg (i + 1) (by omega)).1, (hg (i + 1) (by omega)).2⟩
  · intro i hi
    obtain ⟨j, hj, e, _⟩ := s_hl_lt i hl hi
    rw [e]; exact ⟨bl j hj, (hb j hj).2⟩
  · intro i j hi hj hij
    obtain ⟨i', hi', e, ei⟩ := s_hl_lt i hl hi
    obtain ⟨j', hj', e', ej⟩ := s_hl_lt j hl hj
    rw [e, e']
    refine hp i' j' hi' hj' ?_
    rw [ei, ej]
    by_cases c1 : i = 3
    · rw [if_pos c1]
      by_cases c2 : j = 3
      · omega
      · rw [if_neg c2]; omega
    · rw [if_neg c1]
      by_cases c2 : j = 3
      · rw [if_pos c2]; omega
      · rw [if_neg c2]; omega
end CLASS
end
section
section CLASS
variable {σ : zSt} {hs a k : Nat} {hl : Nat → Nat} {gs : Nat → zG} {g : zG}
/-- what a save leaves alone: all but the history's two cells and its lines -/
def zHo (σ σ' : zSt) (hs : Nat) (hl : Nat → Nat) : Prop := z_nx σ' = z_nx σ ∧ z_sh σ' = z_sh σ ∧ (∀ q, q ≠ hs + 1 → z_R σ' q = z_R σ q) ∧ ∀ q, q ≠ hs → (∀ i, i < 4 → q < hl i ∨ hl i + 19 ≤ q) → z_I σ' q = z_I σ q ∧ z_J σ' q = z_J σ q
theorem c_save3 (h : zSv σ hs hl k gs) (hk : k < 4) (hA : zLn σ a g) (hN : s_num g) (hd : ∀ i, i < 4 → hl i + 19 ≤ a ∨ a + 19 ≤ hl i) :
    ∃ σ', f_X1_save σ hs a = some σ' ∧ zSv σ' hs hl (k + 1) (fun i => if i = k then g else gs i) ∧ zHo σ σ' hs hl := by
  obtain ⟨σ', E, S, n1, n2, n3, n4⟩ := c_save16 h hk hA hN hd
  obtain ⟨⟨h1, h2, h3, h4, h5⟩, hk1, _⟩ := h
  refine ⟨σ', ?_, S, n1, n2, fun q _ => by rw [n3], n4⟩
  simp (disch := omega) only [f_X1_save, ↓zl_eq, ↓zb_eq, ↓zb2_eq, ↓zc_some, ↓zc_none, ↓zb_pre, ↓zb2_pre, ↓zc_pre, ↓zex_eq, ↓reduceIte, Option.isSome_some, Option.isSome_none, Option.getD_some, h1, h2, h3, h4, hk1, ofN_n32, n32_lt, if_pos hk, E]
theorem c_save4 (h : zSv σ hs hl 4 gs) (hA : zLn σ a g) (hN : s_num g) (hd : ∀ i, i < 4 → hl i + 19 ≤ a ∨ a + 19 ≤ hl i) (hh : hs + 2 ≤ a ∨ a + 19 ≤ hs) :
    ∃ σ', f_X1_save σ hs a = some σ' ∧ zSv σ' hs (s_hl hl) 4 (fun i => if i = 3 then g else gs (i + 1)) ∧ zHo σ σ' hs hl := by
  have hR := c_rot4 h
  have hD := c_dropOldest h.1
  have hA2 : zLn (s_rot4 σ hs hl) a g := zLn_far (σ := σ) rfl rfl rfl (fun q _ _ => s_rot4_R q (by omega)) (fun q _ _ => ⟨s_rot4_I q (by omega), rfl⟩) hA
  have hd2 : ∀ i, i < 4 → s_hl hl i + 19 ≤ a ∨ a + 19 ≤ s_hl hl i := fun i hi => by
    obtain ⟨j, hj, e, _⟩ := s_hl_lt i hl hi
    rw [e]; exact hd j hj
  obtain ⟨σ', E, S, n1, n2, n3, n4⟩ := c_save16 hR (by omega) hA2 hN hd2
  obtain ⟨⟨h1, h2, h3, h4, h5⟩, hk1, _⟩ := h
  refine ⟨σ', ?_, S, n1, n2, fun q hq => by rw [n3]; exact s_rot4_R q hq, fun q hq hq2 => ?_⟩
  · simp (disch := omega) only [f_X1_save, ↓zl_eq, ↓zb_eq, ↓zb2_eq, ↓zc_some, ↓zc_none, ↓zb_pre, ↓zb2_pre, ↓zc_pre, ↓zex_eq, ↓reduceIte, Option.isSome_some, Option.isSome_none, Option.getD_some, h1, h2, h3, h4, hk1, ofN_n32, n32_lt, hD, E]
    rw [if_neg (by omega)]
  · have := n4 q hq (fun i hi => by
      obtain ⟨j, hj, e, _⟩ := s_hl_lt i hl hi
      rw [e]; exact hq2 j hj)
    exact ⟨this.1.trans (s_rot4_I q hq), this.2⟩
/-- the latest state comes back -/
theorem c_restore (h : zSv σ hs hl (k + 1) gs) (hA : zBl σ a) (hd : ∀ i, i < 4 → hl i + 19 ≤ a ∨ a + 19 ≤ hl i) (hh : hs + 2 ≤ a ∨ a + 19 ≤ hs) :
    ∃ σ', f_X1_restore σ hs a = some σ' ∧ zSv σ' hs hl k gs ∧ zLn σ' a (gs k) ∧ z_nx σ' = z_nx σ ∧ z_sh σ' = z_sh σ ∧ z_R σ' = z_R σ ∧ ∀ q, q ≠ hs → (q < a ∨ a + 19 ≤ q) → z_I σ' q = z_I σ q ∧ z_J σ' q = z_J σ q := by
  have hk4 : k + 1 ≤ 4 := h.2.2.1
  have hS := c_stateAt h.1 (i := k) (by omega)
  have hLk := h.2.2.2.1 k (by omega)
  obtain ⟨σ1, E, F, L⟩ := zLn_copy hA hLk.1 (by have := hd k (by omega); omega) hLk.2
  have H1 := zSv_fr F h hd hh
  have e1 : z_I σ1 hs 1 = n32 (k + 1) := H1.2.1
  have q2 : ∀ q, q ≠ hs → z_I (z_pI σ1 hs 1 (n32 k)) q = z_I σ1 q := fun q hq => by rw [z_pI_eq]; exact z_I_sAn _ _ _ hq
  obtain ⟨⟨h1, h2, h3, h4, h5⟩, hk1, _, hg, hb, hp⟩ := H1
  have m1 : n32 (k + 1) - n32 1 = n32 k := n32_sub (by omega)
  refine ⟨z_pI σ1 hs 1 (n32 k), ?_, ⟨⟨h1, h2, h3, h4, h5⟩, ?_, by omega, ?_, ?_, hp⟩, ?_, F.1, F.2.1, F.2.2.1, ?_⟩
  · have hk0 := h.2.1
    have h10 := h.1.1
    simp only [f_X1_restore, f_X1_restore_30, ↓zl_eq, ↓zb_eq, ↓zb2_eq, ↓zc_some, ↓zc_none, ↓zb_pre, ↓zb2_pre, ↓zc_pre, ↓zex_eq, ↓reduceIte, Option.isSome_some, Option.isSome_none, Option.getD_some, n32_lit, h10, hk0, m1, hS, hA.1.1, E, h1, e1]
  · rw [z_pI_eq, z_I_sA, gu_same]
  · intro i hi
    have hx := (hb i (by omega)).2
    exact ⟨zLn_far (σ := σ1) rfl rfl rfl (fun _ _ _ => rfl) (fun q _ _ => ⟨q2 q (by omega), rfl⟩) (hg i (by omega)).1, (hg i (by omega)).2⟩
  · intro i hi
    have hx := (hb i hi).2
    exact ⟨zBl_far (σ := σ1) rfl rfl rfl (fun _ _ _ => rfl) (fun q _ _ => q2 q (by omega)) (hb i hi).1, hx⟩
  · exact zLn_far (σ := σ1) rfl rfl rfl (fun _ _ _ => rfl) (fun q _ _ => ⟨q2 q (by omega), rfl⟩) L
  · intro q hq hq2
    exact ⟨(q2 q hq).trans (F.2.2.2 q hq2).1, (F.2.2.2 q hq2).2⟩
end CLASS
end
section
/-! ONLY 942 CELLS OF AN ARRAY COUNT -/
def s_eq (g g' : zG) : Prop := ∀ j, j < 942 → g' j = g j
theorem s_eq_nat {g g' : zG} (h : s_eq g g') {j : Nat} (hj : j < 942) : s_nat g' j = s_nat g j := by unfold s_nat; rw [h j hj]
theorem s_eq_ms {g g' : zG} (h : s_eq g g') (h5 : s_nat g 5 ≤ 100) : sMs g g' := ⟨h 5 (by decide), fun m w hm hw => h _ (by omega)⟩
theorem s_num_eq {g g' : zG} (h : s_eq g g') (H : s_num g) : s_num g' := by
  obtain ⟨h5, h52, h6, hgg, hmo, hb, hst, mv, hmv, h9, h7⟩ := H
  have e3 := s_eq_nat h (j := 3) (by decide)
  have e5 := s_eq_nat h (j := 5) (by decide)
  refine ⟨by rw [e5]; exact h5, by rw [e5, h 5 (by decide)]; exact h52, by rw [h 6 (by decide)]; exact h6, by rw [h 2 (by decide)]; exact hgg, ?_, by rw [e3]; exact hb, ?_, mv, hmv, by rw [h 9 (by decide)]; exact h9, by rw [h 7 (by decide)]; exact h7⟩
  · refine ⟨by rw [e3, h 3 (by decide)]; exact hmo.1, fun m hm => ?_⟩
    rw [e5] at hm
    have := hmo.2 m hm
    rw [e3, h _ (by omega), h _ (by omega)]
    exact this
  · exact s_sta_congr (fun j _ _ => h j (by omega)) hst
theorem s_hol_eq {g g' : zG} (h : s_eq g g') (H : s_hol g) : s_hol g' := by
  rcases H with h4 | ⟨x, hx, h4, hz⟩
  · exact Or.inl (by rw [h 4 (by decide)]; exact h4)
  · exact Or.inr ⟨x, hx, by rw [h 4 (by decide)]; exact h4, by rw [h _ (by omega)]; exact hz⟩
theorem s_inv_eq {g g' : zG} {B V : Nat} (h : s_eq g g') (H : s_inv g B V) : s_inv g' B V := by
  obtain ⟨hN, hs, ho, hb, hv⟩ := H
  exact ⟨s_num_eq h hN, by rw [h 1 (by decide)]; exact hs, s_hol_eq h ho, by rw [s_eq_nat h (by decide)]; exact hb, by rw [s_eq_nat h (by decide)]; exact hv⟩
theorem zLn_eq {σ : zSt} {a : Nat} {g g' : zG} (h : s_eq g g') (hN : s_num g) (H : zLn σ a g) : zLn σ a g' := by
  obtain ⟨h5, h52, ⟨z, hz, h6⟩, hgg, hmo, hb, hst, mv, hmv, h9, h7⟩ := hN
  obtain ⟨pl, ad, qu, n, h1, h2, ⟨rL, rW, rM, rN, rC, rA, rS, rQ⟩, hG⟩ := H
  have hm := s_eq_ms h h5
  have n6 : s_nat g 6 = z := s_nat_n32 h6 (by omega)
  have n7 : s_nat g 7 = min mv 40 := s_nat_n32 h7 (by omega)
  refine ⟨pl, ad, qu, n, h1, h2, ⟨?_, rW, qM_congr (σ := σ) rfl rfl hm rM, qN_congr (σ := σ) rfl rfl rfl (h 6 (by decide)) (fun k _ => h _ (by omega)) rN, qC_congr (σ := σ) rfl rfl (fun j _ _ => h j (by omega)) hm rC, qA_congr (fun x _ => h _ (by omega)) rA, ?_, qQ_congr (σ := σ) rfl (fun _ _ => ⟨rfl, rfl⟩) hm rQ⟩, ?_⟩
  · unfold qL
    rw [h 0 (by decide), h 1 (by decide), h 2 (by decide), h 3 (by decide), h 4 (by decide)]
    exact rL
  · intro i hi
    have := (rA.2.1 i hi).1
    rw [h _ (by omega), h _ (by omega), h _ (by omega), h _ (by omega), h _ (by omega), h _ (by omega)]
    exact rS i hi
  · intro i w hi hw
    have e7 := s_eq_nat h (j := 7) (by decide)
    have e9 := s_eq_nat h (j := 9) (by decide)
    rw [e7] at hi ⊢
    rw [e9, h _ (by omega)]
    exact hG i w hi hw
theorem s_cp_eq (f g : zG) : s_eq f (s_cp f g 942) := fun j hj => by unfold s_cp; rw [if_pos hj]
end
section
/-! WHAT IS READ OFF A LINE: walks over the stations in the order of their addresses -/
def s_fA {β : Type} (P : Nat → Bool) (F : Nat → β → β) (b : β) : Nat → β
  | 0 => b
  | k + 1 => if P k = true then F k (s_fA P F b k) else s_fA P F b k
def s_fI {β : Type} (ad : Nat → Nat) (F : Nat → β → β) (b : β) : Nat → β
  | 0 => b
  | j + 1 => F (ad j) (s_fI ad F b j)
theorem s_fold {β : Type} {P : Nat → Bool} {F : Nat → β → β} {b : β} {ad : Nat → Nat} {n : Nat} (h1 : ∀ i, i < n → ad i < 32 ∧ P (ad i) = true) (h2 : ∀ i j, i < j → j < n → ad i < ad j) (h3 : ∀ x, x < 32 → P x = true → ∃ i, i < n ∧ ad i = x) : s_fA P F b 32 = s_fI ad F b n := by
  have key : ∀ k, k ≤ 32 → ∃ j, j ≤ n ∧ s_fA P F b k = s_fI ad F b j ∧ (∀ i, i < j → ad i < k) ∧ ∀ i, j ≤ i → i < n → k ≤ ad i := by
    intro k
    induction k with
    | zero => intro _; exact ⟨0, Nat.zero_le _, rfl, fun i hi => by omega, fun i _ _ => Nat.zero_le _⟩
    | succ k ih =>
      intro hk
      obtain ⟨j, hj, e, a1, a2⟩ := ih (by omega)
      have es : s_fA P F b (k + 1) = if P k = true then F k (s_fA P F b k) else s_fA P F b k := rfl
      by_cases hp : P k = true
      · obtain ⟨i, hi, hik⟩ := h3 k (by omega) hp
        have hij : i = j := by
          rcases Nat.lt_trichotomy i j with h | h | h
          · have := a1 i h; omega
          · exact h
          · have := h2 j i h hi
            have := a2 j (Nat.le_refl _) (by omega)
            omega
        subst hij
        refine ⟨i + 1, by omega, ?_, ?_, ?_⟩
        · rw [es, if_pos hp, e]
          show F k _ = F (ad i) _
          rw [hik]
        · intro i' hi'
          rcases Nat.lt_or_ge i' i with h | h
          · have := a1 i' h; omega
          · have : i' = i := by omega
            subst this; omega
        · intro i' h h'
          have := h2 i i' (by omega) h'
          omega
      · refine ⟨j, hj, by rw [es, if_neg hp, e], fun i hi => by have := a1 i hi; omega, fun i h h' => ?_⟩
        have h5 := a2 i h h'
        rcases Nat.lt_or_ge k (ad i) with h4 | h4
        · omega
        · have e6 : ad i = k := by omega
          have h7 := (h1 i h').2
          rw [e6] at h7
          exact absurd h7 hp
  obtain ⟨j, hj, e, a1, a2⟩ := key 32 (Nat.le_refl _)
  have : j = n := by
    rcases Nat.lt_or_ge j n with h | h
    · have := a2 j (Nat.le_refl _) h
      have := (h1 j h).1
      omega
    · omega
  rw [e, this]
def s_is (g : zG) (x : Nat) : Bool := decide (g (18 + 7 * x + 0) = n32 1)
theorem s_fold_A {β : Type} {F : Nat → β → β} {b : β} {ad : Nat → Nat} {n : Nat} {g : zG} (H : qA ad n g) : s_fA (s_is g) F b 32 = s_fI ad F b n := by
  refine s_fold (fun i hi => ⟨(H.2.1 i hi).1, ?_⟩) H.2.2.1 (fun x hx hp => ?_)
  · unfold s_is; rw [(H.2.1 i hi).2]; rfl
  · unfold s_is at hp
    rw [decide_eq_true_eq] at hp
    rcases H.2.2.2 x hx with h | h
    · rw [h] at hp; exact absurd hp (by decide)
    · exact h.2
def s_rc (P : Nat → Bool) (x c : Nat) : Nat := c + if P x = true then 1 else 0
theorem s_cnt_fA {P Q : Nat → Bool} (h : ∀ x, P x = true → Q x = true) : ∀ k, s_cnt P k = s_fA Q (s_rc P) 0 k
  | 0 => rfl
  | k + 1 => by
    have ih := s_cnt_fA h k
    unfold s_cnt s_fA
    rw [ih]
    by_cases hq : Q k = true
    · rw [if_pos hq]; rfl
    · rw [if_neg hq, if_neg (fun hp => hq (h k hp))]
      rfl
def s_one (_ c : Nat) : Nat := c + 1
theorem s_fI_one (ad : Nat → Nat) : ∀ n, s_fI ad s_one 0 n = n
  | 0 => rfl
  | n + 1 => by show s_fI ad s_one 0 n + 1 = n + 1; rw [s_fI_one ad n]
theorem s_sum_n {ad : Nat → Nat} {n : Nat} {g : zG} (H : qA ad n g) : s_sum (fun x => g (18 + 7 * x + 0)) 32 = n32 n := by
  have key : ∀ k, k ≤ 32 → s_sum (fun x => g (18 + 7 * x + 0)) k = n32 (s_fA (s_is g) s_one 0 k) := by
    intro k
    induction k with
    | zero => intro _; rfl
    | succ k ih =>
      intro hk
      have e1 : s_sum (fun x => g (18 + 7 * x + 0)) (k + 1) = s_sum (fun x => g (18 + 7 * x + 0)) k + g (18 + 7 * k + 0) := rfl
      have e2 : s_fA (s_is g) s_one 0 (k + 1) = if s_is g k = true then s_fA (s_is g) s_one 0 k + 1 else s_fA (s_is g) s_one 0 k := rfl
      rw [e1, e2, ih (by omega)]
      rcases H.2.2.2 k (by omega) with h | h
      · have e3 : s_is g k = false := by unfold s_is; rw [h]; rfl
        rw [h, e3, n32_add]; rfl
      · have e3 : s_is g k = true := by unfold s_is; rw [h.1]; rfl
        rw [h.1, e3, n32_add]; rfl
  rw [key 32 (Nat.le_refl _), s_fold_A H, s_fI_one]
theorem nn10 : ¬ n32 1 = n32 0 := by decide
theorem nn01 : ¬ n32 0 = n32 1 := by decide
theorem d01 : decide (n32 0 = n32 1) = false := by decide
theorem d11 : decide (n32 1 = n32 1) = true := by decide
theorem n01 : (n32 0 = n32 1) = False := eq_false (by decide)
theorem s_ring_is {g : zG} {x : Nat} (h : s_ring g x = true) : s_is g x = true := by
  unfold s_ring at h
  unfold s_is
  simp only [Bool.and_eq_true] at h
  exact h.1.1
section CLASS
variable {σ : zSt} {a n : Nat} {pl ad : Nat → Nat} {qu : Nat → Nat → Nat} {g : zG}
theorem c_qA (h : zC0 σ a pl ad qu n g) : qA ad n g := h.2.2.2.2.2.2.2.1
theorem s_ring_2 (H : s_sta g) {x : Nat} (hx : x < 32) (hz : g (18 + 7 * x + 0) = n32 1) : s_ring g x = decide (g (18 + 7 * x + 2) = n32 1) := by
  have st := H x hx hz
  unfold s_ring
  rcases st.2.1 with r | r
  · rw [r, d01, Bool.and_false]
  · rw [r, st.2.2.1 r, hz]; rfl
theorem c_ringSize (h : zCs σ a pl ad qu n g) : f_X2_ringSize σ a = some (n32 (s_cnt (s_ring g) 32)) := by
  have h0 := zC0_of h
  have hn := c_n8 h0
  have e5 := (c_L h0).1
  rw [s_cnt_fA (Q := s_is g) (fun x hx => s_ring_is hx), s_fold_A (c_qA h0)]
  unfold f_X2_ringSize f_X2_ringSize_4
  refine zloop_go (fun k => (n32 (s_fI ad (s_rc (s_ring g)) 0 k), n32 k)) _ n (fun k hk => ?_) ?_ (by unfold zN; omega)
  · show b_X2_ringSize_4 σ a (n32 (s_fI ad (s_rc (s_ring g)) 0 k)) (n32 k) = some (.inl (n32 (s_fI ad (s_rc (s_ring g)) 0 k + if s_ring g (ad k) = true then 1 else 0), n32 (k + 1)))
    have F := c_in h0 hk
    have ob := c_ob h0 hk
    have e2 := (c_S h0 hk).2.2.1
    have st := h.2.2.2.2 (ad k) (c_ad h0 hk).1 (c_ad h0 hk).2
    have er := s_ring_2 h.2.2.2.2 (c_ad h0 hk).1 (c_ad h0 hk).2
    simp (disch := omega) only [b_X2_ringSize_4, f_X2_ringSize_32, ↓zl_eq, ↓zb_eq, ↓zb2_eq, ↓zc_some, ↓zc_none, ↓zb_pre, ↓zb2_pre, ↓zc_pre, ↓zex_eq, ↓reduceIte, Option.isSome_some, Option.isSome_none, Option.getD_some, n32_lit, h.1.1, e5, n32_le, F, ob, e2, n32_add]
    rw [if_neg (by omega), er]
    rcases st.2.1 with r | r
    · rw [r, if_pos rfl, d01]; rfl
    · rw [r, if_neg nn10, d11]; rfl
  · show b_X2_ringSize_4 σ a _ (n32 n) = _
    simp (disch := omega) only [b_X2_ringSize_4, ↓zl_eq, ↓zb_eq, ↓zb2_eq, ↓zc_some, ↓zc_none, ↓zb_pre, ↓zb2_pre, ↓zc_pre, ↓zex_eq, ↓reduceIte, Option.isSome_some, Option.isSome_none, Option.getD_some, n32_lit, h.1.1, e5, n32_le, Nat.le_refl]
def s_cok (g : zG) (x : Nat) (b : Bool) : Bool := b && (decide (g (18 + 7 * x + 1) = n32 0) || decide (g (18 + 7 * x + 2) = n32 1))
theorem s_compl_fA (H : qA ad n g) : ∀ k, k ≤ 32 → s_compl g k = s_fA (s_is g) (s_cok g) true k
  | 0, _ => rfl
  | k + 1, hk => by
    have ih := s_compl_fA H k (by omega)
    unfold s_compl s_fA
    rw [ih]
    rcases H.2.2.2 k (by omega) with h | h
    · have e3 : s_is g k = false := by unfold s_is; rw [h]; rfl
      rw [e3, h]
      simp
    · have e3 : s_is g k = true := by unfold s_is; rw [h.1]; rfl
      rw [e3, h.1]
      have e4 : decide (n32 1 = n32 0) = false := by decide
      rw [e4, Bool.false_or]; rfl
theorem s_cok_f (n k : Nat) (h : s_fI ad (s_cok g) true k = false) : s_fI ad (s_cok g) true (k + n) = false := by
  induction n with
  | zero => exact h
  | succ n ih =>
    show s_cok g (ad (k + n)) (s_fI ad (s_cok g) true (k + n)) = false
    rw [ih]; rfl
theorem c_isComplete (h : zCs σ a pl ad qu n g) : f_X2_isComplete σ a = some (bi (s_compl g 32)) := by
  have h0 := zC0_of h
  have hn := c_n8 h0
  have e5 := (c_L h0).1
  rw [s_compl_fA (c_qA h0) 32 (Nat.le_refl _), s_fold_A (c_qA h0)]
  unfold f_X2_isComplete f_X2_isComplete_2
  obtain ⟨r, hr, hr2⟩ := zloop_inv (N := zN) (s := (0 : Int32)) (body := fun (t : Int32) => b_X2_isComplete_2 σ a t) (Inv := fun k s => s = n32 k ∧ s_fI ad (s_cok g) true k = true)
    (Post := fun r => r = bi (s_fI ad (s_cok g) true n)) n (fun k s hk hi => by
      obtain ⟨rfl, hi⟩ := hi
      by_cases hkn : k = n
      · subst hkn
        refine Or.inl ⟨bi true, ?_, by rw [hi]⟩
        show b_X2_isComplete_2 σ a (n32 k) = _
        simp (disch := omega) only [b_X2_isComplete_2, ↓zl_eq, ↓zb_eq, ↓zb2_eq, ↓zc_some, ↓zc_none, ↓zb_pre, ↓zb2_pre, ↓zc_pre, ↓zex_eq, ↓reduceIte, Option.isSome_some, Option.isSome_none, Option.getD_some, n32_lit, h.1.1, e5, n32_le, Nat.le_refl]
        rfl
      · have hk2 : k < n := by omega
        have F := c_in h0 hk2
        have ob := c_ob h0 hk2
        have e1 := (c_S h0 hk2).2.1
        have e2 := (c_S h0 hk2).2.2.1
        have st := h.2.2.2.2 (ad k) (c_ad h0 hk2).1 (c_ad h0 hk2).2
        have ek : s_fI ad (s_cok g) true (k + 1) = (true && (decide (g (18 + 7 * ad k + 1) = n32 0) || decide (g (18 + 7 * ad k + 2) = n32 1))) := by
          show s_cok g (ad k) (s_fI ad (s_cok g) true k) = _
          rw [hi]; rfl
        have E : b_X2_isComplete_2 σ a (n32 k) = if g (18 + 7 * ad k + 1) = n32 0 then some (.inl (n32 (k + 1))) else if g (18 + 7 * ad k + 2) = n32 0 then some (.inr (n32 0)) else some (.inl (n32 (k + 1))) := by
          simp (disch := omega) only [b_X2_isComplete_2, f_X2_isComplete_36, ↓zl_eq, ↓zb_eq, ↓zb2_eq, ↓zc_some, ↓zc_none, ↓zb_pre, ↓zb2_pre, ↓zc_pre, ↓zex_eq, ↓reduceIte, Option.isSome_some, Option.isSome_none, Option.getD_some, n32_lit, h.1.1, e5, n32_le, F, ob, e1, e2, n32_add]
          rw [if_neg (by omega)]
        by_cases h1 : g (18 + 7 * ad k + 1) = n32 0
        · rw [if_pos h1] at E
          refine Or.inr ⟨hk2, n32 (k + 1), E, rfl, ?_⟩
          rw [ek, h1]; rfl
        · rw [if_neg h1] at E
          rcases st.2.1 with r | r
          · rw [r, if_pos rfl] at E
            refine Or.inl ⟨n32 0, E, ?_⟩
            have e9 : s_fI ad (s_cok g) true (k + 1) = false := by
              rw [ek, r, d01, decide_eq_false h1]; rfl
            have := s_cok_f (n - (k + 1)) (k + 1) e9
            rw [show k + 1 + (n - (k + 1)) = n by omega] at this
            rw [this]; rfl
          · rw [r, if_neg nn10] at E
            refine Or.inr ⟨hk2, n32 (k + 1), E, rfl, ?_⟩
            rw [ek, r, d11, Bool.or_true]; rfl) (by unfold zN; omega) ⟨rfl, rfl⟩
  rw [hr, hr2]
/-- how many messages wait at stations that are on -/
def s_wtn (g : zG) : Nat → Nat
  | 0 => 0
  | k + 1 => s_wtn g k + (if s_isOn g k = true then s_len g k else 0)
theorem s_wtn_le (g : zG) (h5 : s_nat g 5 ≤ 100) : ∀ k, s_wtn g k ≤ 100 * k
  | 0 => Nat.le_refl _
  | k + 1 => by
    have := s_wtn_le g h5 k
    have h2 : s_len g k ≤ s_nat g 5 := s_len_le g k
    unfold s_wtn
    split <;> omega
theorem s_waiting_n (g : zG) : ∀ k, s_waiting g (s_nat g 5) k = n32 (s_wtn g k)
  | 0 => rfl
  | k + 1 => by
    unfold s_waiting s_wtn
    rw [s_waiting_n g k]
    split
    · rw [n32_add]; rfl
    · rw [n32_add]
def s_wk (g : zG) (x c : Nat) : Nat := c + if g (18 + 7 * x + 1) = n32 1 then s_len g x else 0
theorem s_wtn_fA (g : zG) : ∀ k, s_wtn g k = s_fA (s_is g) (s_wk g) 0 k
  | 0 => rfl
  | k + 1 => by
    unfold s_wtn s_fA
    rw [s_wtn_fA g k]
    by_cases hq : s_is g k = true
    · rw [if_pos hq]
      unfold s_is at hq
      rw [decide_eq_true_eq] at hq
      unfold s_wk s_isOn
      rw [hq, d11, Bool.true_and]
      simp only [decide_eq_true_eq]
    · rw [if_neg hq]
      have : s_isOn g k = false := by
        unfold s_is at hq
        unfold s_isOn
        rw [Bool.not_eq_true] at hq
        rw [hq, Bool.false_and]
      rw [this]; rfl
theorem c_Q (h : zC0 σ a pl ad qu n g) {i : Nat} (hi : i < n) : z_I σ (pl i) 6 = n32 (s_len g (ad i)) ∧ z_I σ (pl i) 5 = (if 0 < s_len g (ad i) then n32 (qu (ad i) 0) else nn) ∧
  (∀ j, j < s_len g (ad i) → z_I σ (a + 4) (6 * qu (ad i) j + 5) = if j + 1 < s_len g (ad i) then n32 (qu (ad i) (j + 1)) else nn) ∧ s_qok g (ad i) (qu (ad i)) := h.2.2.2.2.2.2.2.2.2 i hi
theorem c_isWaitedAt (h : zCs σ a pl ad qu n g) (h5 : s_nat g 5 ≤ 100) : f_X2_isWaitedAt σ a = some (bi (decide (0 < s_wtn g 32))) := by
  have h0 := zC0_of h
  have hn := c_n8 h0
  have e5 := (c_L h0).1
  rw [s_wtn_fA, s_fold_A (c_qA h0)]
  unfold f_X2_isWaitedAt f_X2_isWaitedAt_2
  have mono : ∀ d k, s_fI ad (s_wk g) 0 k ≤ s_fI ad (s_wk g) 0 (k + d) := by
    intro d k
    induction d with
    | zero => exact Nat.le_refl _
    | succ d ih =>
      refine Nat.le_trans ih ?_
      exact Nat.le_add_right _ _
  obtain ⟨r, hr, hr2⟩ := zloop_inv (N := zN) (s := (0 : Int32)) (body := fun (t : Int32) => b_X2_isWaitedAt_2 σ a t) (Inv := fun k s => s = n32 k ∧ s_fI ad (s_wk g) 0 k = 0)
    (Post := fun r => r = bi (decide (0 < s_fI ad (s_wk g) 0 n))) n (fun k s hk hi => by
      obtain ⟨rfl, hi⟩ := hi
      by_cases hkn : k = n
      · subst hkn
        refine Or.inl ⟨bi false, ?_, by rw [hi]; rfl⟩
        show b_X2_isWaitedAt_2 σ a (n32 k) = _
        simp (disch := omega) only [b_X2_isWaitedAt_2, ↓zl_eq, ↓zb_eq, ↓zb2_eq, ↓zc_some, ↓zc_none, ↓zb_pre, ↓zb2_pre, ↓zc_pre, ↓zex_eq, ↓reduceIte, Option.isSome_some, Option.isSome_none, Option.getD_some, n32_lit, h.1.1, e5, n32_le, Nat.le_refl]
        rfl
      · have hk2 : k < n := by omega
        have F := c_in h0 hk2
        have ob := c_ob h0 hk2
        have e1 := (c_S h0 hk2).2.1
        have e6 := (c_Q h0 hk2).1
        have l5 : s_len g (ad k) ≤ s_nat g 5 := s_len_le g (ad k)
        have st := h.2.2.2.2 (ad k) (c_ad h0 hk2).1 (c_ad h0 hk2).2
        have ek : s_fI ad (s_wk g) 0 (k + 1) = 0 + (if g (18 + 7 * ad k + 1) = n32 1 then s_len g (ad k) else 0) := by
          show s_wk g (ad k) (s_fI ad (s_wk g) 0 k) = _
          rw [hi]; rfl
        have E : b_X2_isWaitedAt_2 σ a (n32 k) = if g (18 + 7 * ad k + 1) = n32 0 then some (.inl (n32 (k + 1))) else if s_len g (ad k) ≤ 0 then some (.inl (n32 (k + 1))) else some (.inr (n32 1)) := by
          simp (disch := omega) only [b_X2_isWaitedAt_2, f_X2_isWaitedAt_36, ↓zl_eq, ↓zb_eq, ↓zb2_eq, ↓zc_some, ↓zc_none, ↓zb_pre, ↓zb2_pre, ↓zc_pre, ↓zex_eq, ↓reduceIte, Option.isSome_some, Option.isSome_none, Option.getD_some, n32_lit, h.1.1, e5, n32_le, F, ob, e1, e6, n32_add]
          rw [if_neg (by omega)]
        rcases st.1 with r | r
        · rw [r, if_pos rfl] at E
          refine Or.inr ⟨hk2, n32 (k + 1), E, rfl, ?_⟩
          rw [ek, r, if_neg nn01]
        · rw [r, if_neg nn10] at E
          rw [r, if_pos rfl] at ek
          by_cases hl : s_len g (ad k) ≤ 0
          · rw [if_pos hl] at E
            exact Or.inr ⟨hk2, n32 (k + 1), E, rfl, by rw [ek]; omega⟩
          · rw [if_neg hl] at E
            refine Or.inl ⟨n32 1, E, ?_⟩
            have := mono (n - (k + 1)) (k + 1)
            rw [show k + 1 + (n - (k + 1)) = n by omega] at this
            rw [decide_eq_true (by omega)]; rfl) (by unfold zN; omega) ⟨rfl, rfl⟩
  rw [hr, hr2]
end CLASS
end
section
section CLASS
variable {σ : zSt} {a n : Nat} {pl ad : Nat → Nat} {qu : Nat → Nat → Nat} {g : zG}
theorem c_settingValue (h : zCs σ a pl ad qu n g) {what : Nat} (hw : what < 9) : f_X2_settingValue σ a (n32 what) = some (s_set g what) := by
  have h0 := zC0_of h
  have hL := h.1
  obtain ⟨l5, l6, l7, l8, l9, l10⟩ := c_L h0
  have R := c_ringSize h
  have eN : z_I σ (a + 5) 2 = g 6 := h.2.2.1.2.2.2.1.1
  have eM : z_I σ (a + 2) 1 = g 5 := h.2.2.1.2.2.1.1
  have o1 := hL.1
  have r1 := hL.2.2.1
  have r2 := hL.2.2.2.1
  have o2 := hL.2.2.2.2.2.2.2.2.1
  have o5 := hL.2.2.2.2.2.2.2.2.2.2.2.2.2.2.1
  have e3 := s_sum_n (c_qA h0)
  unfold s_set
  rw [e3]
  simp (disch := omega) only [f_X2_settingValue, f_X3_number, ↓zl_eq, ↓zb_eq, ↓zb2_eq, ↓zc_some, ↓zc_none, ↓zb_pre, ↓zb2_pre, ↓zc_pre, ↓zex_eq, ↓reduceIte, Option.isSome_some, Option.isSome_none, Option.getD_some, n32_lit, n32_eq, o1, l5, l6, l7, l8, l9, l10, R, r1, r2, o2, o5, eN, eM]
  rcases (show what = 0 ∨ what = 1 ∨ what = 2 ∨ what = 3 ∨ what = 4 ∨ what = 5 ∨ what = 6 ∨ what = 7 ∨ what = 8 by omega) with rfl | rfl | rfl | rfl | rfl | rfl | rfl | rfl | rfl <;> simp
theorem c_value6 (h : zCs σ a pl ad qu n g) {i what : Nat} (hi : i < n) (hw : what < 7) : f_X6_value σ (pl i) (n32 what) = some (s_stv g (ad i) what (s_nat g 5)) := by
  have h0 := zC0_of h
  have ob := c_ob h0 hi
  obtain ⟨s0, s1, s2, s3, s4, s7, s8⟩ := c_S h0 hi
  have e6 := (c_Q h0 hi).1
  have st := h.2.2.2.2 (ad i) (c_ad h0 hi).1 (c_ad h0 hi).2
  unfold s_stv
  simp (disch := omega) only [f_X6_value, f_X6_value_52, f_X6_value_65, ↓zl_eq, ↓zb_eq, ↓zb2_eq, ↓zc_some, ↓zc_none, ↓zb_pre, ↓zb2_pre, ↓zc_pre, ↓zex_eq, ↓reduceIte, Option.isSome_some, Option.isSome_none, Option.getD_some, n32_lit, n32_eq, ob, s1, s2, s3, s4, s7, s8, e6]
  have e1 : (if g (18 + 7 * ad i + 1) = n32 0 then some (n32 0) else some (n32 1)) = some (g (18 + 7 * ad i + 1)) := by
    rcases st.1 with r | r
    · rw [r, if_pos rfl]
    · rw [r, if_neg nn10]
  have e2 : (if g (18 + 7 * ad i + 2) = n32 0 then some (n32 0) else some (n32 1)) = some (g (18 + 7 * ad i + 2)) := by
    rcases st.2.1 with r | r
    · rw [r, if_pos rfl]
    · rw [r, if_neg nn10]
  have el : s_cnt (s_wt g (n32 (ad i))) (s_nat g 5) = s_len g (ad i) := rfl
  rw [e1, e2, el]
  rcases (show what = 0 ∨ what = 1 ∨ what = 2 ∨ what = 3 ∨ what = 4 ∨ what = 5 ∨ what = 6 by omega) with rfl | rfl | rfl | rfl | rfl | rfl | rfl <;> simp
theorem c_value0 (h : zC0 σ a pl ad qu n g) {i : Nat} (hi : i < 7) : f_X0_value σ (a + 8) (n32 i) = some (g (9 + i)) := by
  have o8 := h.1.2.2.2.2.2.2.2.2.2.2.2.2.2.2.2.2.2.2.2.2.2.1
  have c0 := c_C h (i := 0) (by decide)
  have c1 := c_C h (i := 1) (by decide)
  have c2 := c_C h (i := 2) (by decide)
  have c3 := c_C h (i := 3) (by decide)
  have c4 := c_C h (i := 4) (by decide)
  have c5 := c_C h (i := 5) (by decide)
  have c6 := c_C h (i := 6) (by decide)
  simp (disch := omega) only [f_X0_value, ↓zl_eq, ↓zb_eq, ↓zb2_eq, ↓zc_some, ↓zc_none, ↓zb_pre, ↓zb2_pre, ↓zc_pre, ↓zex_eq, ↓reduceIte, Option.isSome_some, Option.isSome_none, Option.getD_some, n32_lit, n32_eq, o8, c0, c1, c2, c3, c4, c5, c6]
  rcases (show i = 0 ∨ i = 1 ∨ i = 2 ∨ i = 3 ∨ i = 4 ∨ i = 5 ∨ i = 6 by omega) with rfl | rfl | rfl | rfl | rfl | rfl | rfl <;> simp
theorem c_logLength (h : zC0 σ a pl ad qu n g) {mv : Nat} (hmv : mv < 2147483648) (h9 : g 9 = n32 mv) (h7 : g 7 = n32 (min mv 40)) : f_X2_logLength σ a = some (g 7) := by
  have e0 : z_I σ (a + 8) 0 = n32 mv := (c_C h (i := 0) (by decide)).trans h9
  have o1 := h.1.1
  have r3 := h.1.2.2.2.2.1
  have o8 := h.1.2.2.2.2.2.2.2.2.2.2.2.2.2.2.2.2.2.2.2.2.2.1
  simp only [f_X2_logLength, ↓zl_eq, ↓zb_eq, ↓zb2_eq, ↓zc_some, ↓zc_none, ↓zb_pre, ↓zb2_pre, ↓zc_pre, ↓zex_eq, ↓reduceIte, Option.isSome_some, Option.isSome_none, Option.getD_some, n32_lit, o1, r3, o8, e0]
  rw [h7]
  congr 1
  by_cases h : 40 < mv
  · rw [if_pos (by rw [n32_lt (by omega) (by omega)]; exact h)]; congr 1; omega
  · rw [if_neg (by rw [n32_lt (by omega) (by omega)]; exact h)]; congr 1; omega
theorem c_logValue (h : zC0 σ a pl ad qu n g) (hG : qG σ a g) {mv : Nat} (hmv : mv ≤ 2000000000) (h9 : g 9 = n32 mv) (h7 : g 7 = n32 (min mv 40)) {i w : Nat} (hi : i < min mv 40) (hw : w < 4) : f_X2_logValue σ a (n32 i) (n32 w) = some (g (782 + 4 * i + w)) := by
  have e0 : z_I σ (a + 8) 0 = n32 mv := (c_C h (i := 0) (by decide)).trans h9
  have o1 := h.1.1
  have r3 := h.1.2.2.2.2.1
  have r4 := h.1.2.2.2.2.2.1
  have o8 := h.1.2.2.2.2.2.2.2.2.2.2.2.2.2.2.2.2.2.2.2.2.2.1
  have o9 := h.1.2.2.2.2.2.2.2.2.2.2.2.2.2.2.2.2.2.2.2.2.2.2.1
  have LL := c_logLength h (by omega) h9 h7
  rw [h7] at LL
  have n7 : s_nat g 7 = min mv 40 := s_nat_n32 h7 (by omega)
  have n9 : s_nat g 9 = mv := s_nat_n32 h9 (by omega)
  have hm := Nat.mod_lt (mv - min mv 40 + i) (show 40 > 0 by decide)
  have ex : n32 mv - n32 (min mv 40) = n32 (mv - min mv 40) := n32_sub (by omega)
  have em : n32 (mv - min mv 40 + i) - n32 (mv - min mv 40 + i) / n32 40 * n32 40 = n32 ((mv - min mv 40 + i) % 40) := n32_mod (by omega) (by omega)
  have A := c_at4 (σ := σ) h.1 h.2.2.2.1.2 hm hw
  have G := hG i w (by rw [n7]; exact hi) hw
  rw [n7, n9] at G
  simp only [f_X2_logValue, ↓zl_eq, ↓zb_eq, ↓zb2_eq, ↓zc_some, ↓zc_none, ↓zb_pre, ↓zb2_pre, ↓zc_pre, ↓zex_eq, ↓reduceIte, Option.isSome_some, Option.isSome_none, Option.getD_some, n32_lit, o1, r3, r4, o8, o9, LL, e0, ex, n32_add, em, A, G]
theorem c_inQueue (h : zC0 σ a pl ad qu n g) (h5 : s_nat g 5 ≤ 100) {i j : Nat} (hi : i < n) (hj : j < s_len g (ad i)) : f_X3_inQueue σ (a + 2) (pl i) (n32 j) = some (n32 (qu (ad i) j)) := by
  have ob := c_ob h hi
  obtain ⟨_, q5, q3, qk⟩ := c_Q h hi
  have o2 := h.1.2.2.2.2.2.2.2.2.1
  have hl := s_len_le g (ad i)
  rw [if_pos (by omega)] at q5
  unfold f_X3_inQueue
  simp only [↓zl_eq, ↓zb_eq, ↓zb2_eq, ↓zc_some, ↓zc_none, ↓zb_pre, ↓zb2_pre, ↓zc_pre, ↓zex_eq, ↓reduceIte, Option.isSome_some, Option.isSome_none, Option.getD_some, ob, q5]
  unfold f_X3_inQueue_8
  refine zloop_go (N := zN) (fun k => (n32 (qu (ad i) k), n32 k)) _ j (fun k hk => ?_) ?_ (by unfold zN; omega)
  · show b_X3_inQueue_8 σ (a + 2) (n32 j) (n32 (qu (ad i) k)) (n32 k) = some (.inl (n32 (qu (ad i) (k + 1)), n32 (k + 1)))
    have hq := (qk.1 k (by omega)).1
    have F := c_follower h.1 h.2.2.2.1.1 (m := qu (ad i) k) (by omega)
    rw [q3 k (by omega), if_pos (by omega)] at F
    simp (disch := omega) only [b_X3_inQueue_8, ↓zl_eq, ↓zb_eq, ↓zb2_eq, ↓zc_some, ↓zc_none, ↓zb_pre, ↓zb2_pre, ↓zc_pre, ↓zex_eq, ↓reduceIte, Option.isSome_some, Option.isSome_none, Option.getD_some, n32_lit, n32_le, o2, F, n32_add]
    rw [if_neg (by omega)]
  · show b_X3_inQueue_8 σ (a + 2) (n32 j) (n32 (qu (ad i) j)) (n32 j) = _
    simp (disch := omega) only [b_X3_inQueue_8, ↓zl_eq, ↓zb_eq, ↓zb2_eq, ↓zc_some, ↓zc_none, ↓zb_pre, ↓zb2_pre, ↓zc_pre, ↓zex_eq, ↓reduceIte, Option.isSome_some, Option.isSome_none, Option.getD_some, n32_le, Nat.le_refl]
/-- the station at a place that is none -/
theorem c_in0 (h : zC0 σ a pl ad qu n g) (x : Int32) (hx : ¬ (0 ≤ x.toInt ∧ x.toInt < n)) : f_X2_stationIn σ a x = some none := by
  have hn := c_n8 h
  have e5 := (c_L h).1
  have o1 := h.1.1
  have r0 := h.1.2.1
  have z0 : ((0 : Int32).toInt) = 0 := rfl
  unfold f_X2_stationIn f_X2_stationIn_30 f_X2_stationIn_31
  by_cases h1 : x < 0
  · rw [if_pos h1]
  · rw [if_neg h1, if_pos o1, e5]
    rw [Int32.lt_iff_toInt_lt] at h1
    have h2 : n32 n ≤ x := by rw [Int32.le_iff_toInt_le, n32_toInt (by omega)]; omega
    rw [if_pos h2]
end CLASS
end
section
/-! HOW MANY MESSAGES HAVE BEEN SENT -/
def s_done (g : zG) (m : Nat) : Bool := !decide (g (242 + 5 * m + 4) = nn)
def s_ds (g : zG) : Prop := g 10 = n32 (s_cnt (s_done g) (s_nat g 5))
theorem s_ds_congr {g g' : zG} (h10 : g' 10 = g 10) (h5 : g' 5 = g 5) (hm : ∀ m, m < s_nat g 5 → g' (242 + 5 * m + 4) = g (242 + 5 * m + 4)) (H : s_ds g) : s_ds g' := by
  have e5 : s_nat g' 5 = s_nat g 5 := by unfold s_nat; rw [h5]
  unfold s_ds
  rw [h10, e5, s_cnt_congr (P := s_done g) _ (fun m h => by unfold s_done; rw [hm m h])]
  exact H
theorem s_ds_sends {g : zG} (H : s_ds g) (hmo : s_mo g) {m : Nat} (hm : m < s_nat g 5) (hw : g (242 + 5 * m + 4) = nn) (hb : s_nat g 3 < 2147483648) : s_ds (s_sends g m) := by
  by_cases hs : s_spoilt g m = true
  · unfold s_sends
    rw [if_pos hs]
    exact s_ds_congr (s_takes_ne _ _ (by decide) (by decide)) (s_takes_ne _ _ (by decide) (by decide)) (fun k _ => s_takes_ne _ _ (by omega) (by omega)) H
  · have e5 : s_nat (s_sends g m) 5 = s_nat g 5 := by unfold s_nat; rw [s_sends_ne _ _ (by decide) (by decide) (by decide) (by decide) (by omega)]
    have hv := c_wait hmo hm hb
    have e4 : s_sends g m (242 + 5 * m + 4) = g 3 - g (242 + 5 * m + 3) := by
      unfold s_sends s_sent
      rw [if_neg hs, gu_ne _ _ (by omega), gu_ne _ _ (by omega), gu_same]
    have u := (s_cnt_upd (P := s_done (s_sends g m)) (P' := s_done g) (m := m) (by unfold s_done; rw [e4, decide_eq_false hv]; rfl) (by unfold s_done; rw [hw]; rfl) (fun k hk => by unfold s_done; rw [s_sends_ne _ _ (by omega) (by omega) (by omega) (by omega) (by omega)]) (s_nat g 5)).2 hm
    have H2 : g 10 = n32 (s_cnt (s_done g) (s_nat g 5)) := H
    unfold s_ds
    rw [e5, s_sends_10, if_neg hs, ← u, H2, n32_add]
theorem s_next_w (g : zG) (x : Int32) (h5 : s_nat g 5 ≤ 100) : s_next g x nn = nn ∨ ∃ c, c < s_nat g 5 ∧ s_next g x nn = n32 c ∧ g (242 + 5 * c + 4) = nn := by
  have e : s_next g x nn = s_nx g x nn (s_nat g 5) := rfl
  rw [e]
  rcases s_nx_min g x nn (s_nat g 5) (by omega) with ⟨h1, _⟩ | ⟨c, h1, h2, h3, _⟩
  · exact Or.inl h1
  · refine Or.inr ⟨c, h1, h2, ?_⟩
    unfold s_wt at h3
    simp only [Bool.and_eq_true, decide_eq_true_eq] at h3
    exact h3.1.2
theorem s_ds_sl (x t0 al : Int32) : ∀ (k : Nat) (g : zG) (sp : Bool), s_ds g → s_mo g → s_nat g 5 ≤ 100 → s_nat g 3 + 20 * k + 20 ≤ 2147483647 → s_ds (s_sl x t0 al k g sp) := by
  intro k
  induction k with
  | zero => intro g sp H _ _ _; exact H
  | succ k ih =>
    intro g sp H hmo h5 hb
    unfold s_sl
    by_cases hs : s_stop x t0 al g sp = true
    · rw [if_pos hs]; exact H
    · rw [if_neg hs]
      rcases s_next_w g x h5 with hj | ⟨c, hc, hce, hw⟩
      · exact absurd (by simp [s_stop, hj]) hs
      · rw [hce, n32_toNat (by omega)]
        obtain ⟨m1, m2, m3⟩ := s_mo_sends hmo hc (B := 2147483647) (by omega) (by omega)
        exact ih _ _ (s_ds_sends H hmo hc hw (by omega)) m1 (by omega) (by omega)
theorem s_ds_all (x t0 al : Int32) (k : Nat) (g : zG) (H : s_ds g) (hmo : s_mo g) (h5 : s_nat g 5 ≤ 100) (hb : s_nat g 3 + 20 * k + 40 ≤ 2147483647) : s_ds (s_all x t0 al k g) := by
  unfold s_all
  by_cases hu : s_urg g x = true
  · rw [if_pos hu]
    rcases s_next_w g x h5 with hj | ⟨c, hc, hce, hw⟩
    · unfold s_urg at hu; rw [hj] at hu; simp at hu
    · rw [hce, n32_toNat (by omega)]
      obtain ⟨m1, m2, m3⟩ := s_mo_sends hmo hc (B := 2147483647) (by omega) (by omega)
      exact s_ds_sl _ _ _ _ _ _ (s_ds_sends H hmo hc hw (by omega)) m1 (by omega) (by omega)
  · rw [if_neg hu]
    exact s_ds_sl _ _ _ _ _ _ H hmo h5 (by omega)
theorem s_ds_vis {g : zG} (hN : s_num g) {h : Nat} (hh : h < 32) (hz : g (18 + 7 * h + 0) = n32 1) (hb : s_nat g 3 ≤ 1900000000) (H : s_ds g) : s_ds (s_vis g h 101) := by
  obtain ⟨h5, h52, ⟨z, hz6, h6⟩, ⟨gg, hg1, hg2, h2⟩, hmo, _, hst, mv', hmv', h9', h7⟩ := hN
  have ob := s_ok_begin (show s_ok g from ⟨⟨z, hz6, h6⟩, ⟨_, h5, h52⟩⟩) h
  have bn : ∀ {j : Nat}, j ≠ 8 → j ≠ 9 → j ≠ 18 + 7 * h + 5 → j ≠ 18 + 7 * h + 6 → s_begin g h j = g j := fun a b c d => s_begin_ne _ _ a b c d
  have mid : ∀ {j : Nat}, j ≠ 3 → j ≠ 11 → j ≠ 10 → j ≠ 15 → (j < 242 ∨ 742 ≤ j) → s_mid g h 101 j = s_begin g h j := fun a b c d e => s_all_ne _ _ _ _ _ a b c d e ob
  have lgd : ∀ {j : Nat}, j ≠ 7 → j < 782 → s_logged g h 101 (s_nat g 7) j = s_mid g h 101 j := fun a b => by unfold s_logged; exact s_log_ne _ _ _ _ _ _ a b
  have st := hst h hh hz
  obtain ⟨nx, hnx, e3⟩ := st.2.2.2.1
  have lx : s_logged g h 101 (s_nat g 7) (18 + 7 * h + 3) = n32 nx := by
    rw [lgd (by omega) (by omega), mid (by omega) (by omega) (by omega) (by omega) (by omega), bn (by omega) (by omega) (by omega) (by omega)]; exact e3
  have vn : ∀ {j : Nat}, j ≠ 3 → j ≠ 11 → j ≠ 4 → j ≠ 13 → j ≠ 14 → (j < 18 ∨ 242 ≤ j) → s_vis g h 101 j = s_logged g h 101 (s_nat g 7) j := fun a b c d e f => s_vis_ne g hh hnx (gp := 0) (by decide) lx a b c d e f
  have D1 : s_ds (s_begin g h) := s_ds_congr (bn (by omega) (by omega) (by omega) (by omega)) (bn (by omega) (by omega) (by omega) (by omega)) (fun m _ => bn (by omega) (by omega) (by omega) (by omega)) H
  have b3 : s_begin g h 3 = g 3 := bn (by omega) (by omega) (by omega) (by omega)
  have b5 : s_begin g h 5 = g 5 := bn (by omega) (by omega) (by omega) (by omega)
  have n3 : s_nat (s_begin g h) 3 = s_nat g 3 := by unfold s_nat; rw [b3]
  have n5 : s_nat (s_begin g h) 5 = s_nat g 5 := by unfold s_nat; rw [b5]
  have M1 : s_mo (s_begin g h) := s_mo_t (d := 0) hmo (by rw [b3]; exact hmo.1) (by omega) b5 (fun m _ => ⟨bn (by omega) (by omega) (by omega) (by omega), bn (by omega) (by omega) (by omega) (by omega)⟩)
  have D2 : s_ds (s_mid g h 101) := s_ds_all _ _ _ _ _ D1 M1 (by omega) (by omega)
  have m5 : s_nat (s_mid g h 101) 5 = s_nat g 5 := by unfold s_nat; rw [mid (by omega) (by omega) (by omega) (by omega) (by omega), b5]
  refine s_ds_congr (g := s_mid g h 101) ?_ ?_ (fun m hm => ?_) D2
  · rw [vn (by omega) (by omega) (by omega) (by omega) (by omega) (by omega), lgd (by omega) (by omega)]
  · rw [vn (by omega) (by omega) (by omega) (by omega) (by omega) (by omega), lgd (by omega) (by omega)]
  · rw [vn (by omega) (by omega) (by omega) (by omega) (by omega) (by omega), lgd (by omega) (by omega)]
theorem s_low_P (P : Nat → Bool) (h0 : Int32) : ∀ k, k ≤ 32 → s_low P h0 k = h0 ∨ ∃ x, x < 32 ∧ s_low P h0 k = n32 x ∧ P x = true
  | 0, _ => Or.inl rfl
  | k + 1, hk => by
    unfold s_low
    by_cases h : P (31 - k) = true
    · rw [if_pos h]; exact Or.inr ⟨31 - k, by omega, rfl, h⟩
    · rw [if_neg h]; exact s_low_P P h0 k (by omega)
theorem s_h2_on (g : zG) : s_h2 g = nn ∨ ∃ x, x < 32 ∧ s_h2 g = n32 x ∧ s_isOn g x = true := by
  unfold s_h2
  rcases s_low_P (s_ring g) (s_h1 g) 32 (Nat.le_refl _) with h | ⟨x, hx, h1, h2⟩
  · rw [h]
    unfold s_h1
    rcases s_low_P (s_isOn g) nn 32 (Nat.le_refl _) with h | ⟨x, hx, h1, h2⟩
    · exact Or.inl h
    · exact Or.inr ⟨x, hx, h1, h2⟩
  · refine Or.inr ⟨x, hx, h1, ?_⟩
    unfold s_ring at h2
    unfold s_isOn
    simp only [Bool.and_eq_true] at h2 ⊢
    exact h2.1
theorem s_ds_visits {g : zG} {B V : Nat} (hI : s_inv g B V) (hB : B ≤ 1800000000) (H : s_ds g) : s_ds (s_visits g) := by
  obtain ⟨hN, ⟨s, hs, h1⟩, hol, hb, hv⟩ := hI
  unfold s_visits
  by_cases h4 : g 4 = nn
  · rw [if_pos h4]
    rcases s_h2_on g with h | ⟨x, hx, hx2, hon⟩
    · rw [if_pos h]; exact H
    · have hne : ¬ s_h2 g = nn := by rw [hx2, n32_ne (by omega)]; exact not_false
      rw [if_neg hne, hx2, n32_toNat (by omega)]
      unfold s_isOn at hon
      simp only [Bool.and_eq_true, decide_eq_true_eq] at hon
      have ti := s_tok_inv hN hs h1 hx hon.2 (by omega)
      refine s_ds_vis ti.1 hx ?_ (by have := ti.2; omega) ?_
      · rw [s_tok_ne _ (by omega) (by omega) (by omega) (by omega) (by omega)]; exact hon.1
      · exact s_ds_congr (s_tok_ne _ (by omega) (by omega) (by omega) (by omega) (by omega)) (s_tok_ne _ (by omega) (by omega) (by omega) (by omega) (by omega)) (fun m _ => s_tok_ne _ (by omega) (by omega) (by omega) (by omega) (by omega)) H
  · rw [if_neg h4]
    rcases hol with h | ⟨x, hx, hx4, hz⟩
    · exact absurd h h4
    · rw [s_nat_n32 hx4 (by omega)]
      exact s_ds_vis hN hx hz (by omega) H
end
section
/-! THE HOLDER IS ON; EVERY MESSAGE HAS A STATION -/
def s_hon (g : zG) : Prop := g 4 = nn ∨ ∃ x, x < 32 ∧ g 4 = n32 x ∧ g (18 + 7 * x + 1) = n32 1
def s_own (g : zG) : Prop := ∀ m, m < s_nat g 5 → ∃ y, y < 32 ∧ g (242 + 5 * m + 2) = n32 y ∧ g (18 + 7 * y + 0) = n32 1
theorem s_come_on (g : zG) {h to x : Nat} : s_come g h to (18 + 7 * x + 1) = g (18 + 7 * x + 1) := by
  unfold s_come
  rw [gu_ne _ _ (by omega), gu_ne _ _ (by omega), gu_ne _ _ (by omega), gu_ne _ _ (by omega), gu_ne _ _ (by omega)]
theorem s_polls_on (g : zG) {h nx gp x : Nat} : s_polls g h nx gp (18 + 7 * x + 1) = g (18 + 7 * x + 1) := by
  unfold s_polls s_poll s_asked
  split
  · split
    · rfl
    · split
      · rw [s_tick_ne _ (by omega), s_takes_ne _ _ (by omega) (by omega), gu_ne _ _ (by omega)]
      · split
        · split
          · rw [s_tick_ne _ (by omega), s_takes_ne _ _ (by omega) (by omega), s_takes_ne _ _ (by omega) (by omega), gu_ne _ _ (by omega)]
          · rw [s_come_on, s_takes_ne _ _ (by omega) (by omega), s_takes_ne _ _ (by omega) (by omega), gu_ne _ _ (by omega)]
        · rw [s_tick_ne _ (by omega), s_takes_ne _ _ (by omega) (by omega), gu_ne _ _ (by omega)]
  · rfl
theorem s_drop_on (g : zG) {h nx x : Nat} : s_drop g h nx (18 + 7 * x + 1) = g (18 + 7 * x + 1) := by
  unfold s_drop
  split
  · rw [gu_ne _ _ (by omega), gu_ne _ _ (by omega)]
  · rfl
theorem s_passes_on (g : zG) {h nx x : Nat} : s_passes g h nx (18 + 7 * x + 1) = g (18 + 7 * x + 1) := by
  unfold s_passes
  split
  · exact s_tries_ne _ _ _ (by omega) (by omega) (by omega)
  · unfold s_end
    rw [gu_ne _ _ (by omega), gu_ne _ _ (by omega), s_ask_ne _ _ _ _ (by omega) (by omega), s_drop_on, s_tries_ne _ _ _ (by omega) (by omega) (by omega)]
theorem s_tries_hon {nx : Nat} : ∀ (k : Nat) (g : zG), (s_tries nx k g).1 = true → (s_tries nx k g).2 (18 + 7 * nx + 1) = n32 1 := by
  intro k
  induction k with
  | zero => intro g h; cases h
  | succ k ih =>
    intro g
    rw [s_tries]
    split
    · rename_i hc
      intro _
      show gu (s_takes g (n32 1)) 4 (n32 nx) (18 + 7 * nx + 1) = _
      rw [gu_ne _ _ (by omega)]
      have := hc.2
      simp only [s_ring, Bool.and_eq_true, decide_eq_true_eq] at this
      exact this.1.2
    · exact ih _
theorem s_passes_hon {g : zG} {h nx : Nat} (hh : h < 32) (hx : nx < 32) (hz : g (18 + 7 * h + 1) = n32 1) : s_hon (s_passes g h nx) := by
  have AP := fun x => s_passes_on g (h := h) (nx := nx) (x := x)
  right
  unfold s_passes at AP ⊢
  split
  · rename_i ht
    exact ⟨nx, hx, (s_tries_hol hx 3 g ht).1, s_tries_hon 3 g ht⟩
  · rename_i ht
    rw [if_neg ht] at AP
    have hm := Nat.mod_lt (nx + 1) (show 32 > 0 by decide)
    obtain ⟨l1, l2⟩ := s_ask_lt h hh 32 (s_drop (s_tries nx 3 g).2 h nx) ((nx + 1) % 32) hm (by omega)
    refine ⟨_, l1, by unfold s_end; rw [gu_same], ?_⟩
    rcases l2 with l2 | l2
    · rw [l2] at AP ⊢
      rw [AP h]; exact hz
    · simp only [s_ring, Bool.and_eq_true, decide_eq_true_eq] at l2
      unfold s_end
      rw [gu_ne _ _ (by omega), gu_ne _ _ (by omega)]
      exact l2.1.2
theorem s_sl_w (x t0 al : Int32) {m w : Nat} (hw : w < 4) : ∀ (k : Nat) (g : zG) (sp : Bool), s_ok g → s_sl x t0 al k g sp (242 + 5 * m + w) = g (242 + 5 * m + w) := by
  intro k
  induction k with
  | zero => intro g sp _; rfl
  | succ k ih =>
    intro g sp ho
    unfold s_sl
    by_cases hs : s_stop x t0 al g sp = true
    · rw [if_pos hs]
    · rw [if_neg hs]
      rcases s_next_ok ho x nn with hj | ⟨m', hm, hme⟩
      · exact absurd (by simp [s_stop, hj]) hs
      · rw [hme, n32_toNat (by omega)]
        rw [ih _ _ (s_ok_sends ho m'), s_sends_ne _ _ (by omega) (by omega) (by omega) (by omega) (by omega)]
theorem s_all_w (x t0 al : Int32) {m w : Nat} (hw : w < 4) (k : Nat) (g : zG) (ho : s_ok g) : s_all x t0 al k g (242 + 5 * m + w) = g (242 + 5 * m + w) := by
  unfold s_all
  by_cases hu : s_urg g x = true
  · rw [if_pos hu]
    rcases s_next_ok ho x nn with hj | ⟨m', hm, hme⟩
    · unfold s_urg at hu; rw [hj] at hu; simp at hu
    · rw [hme, n32_toNat (by omega), s_sl_w _ _ _ hw _ _ _ (s_ok_sends ho m'), s_sends_ne _ _ (by omega) (by omega) (by omega) (by omega) (by omega)]
  · rw [if_neg hu, s_sl_w _ _ _ hw _ _ _ ho]
theorem s_vis_kp {g : zG} (hN : s_num g) {h : Nat} (hh : h < 32) (hz : g (18 + 7 * h + 0) = n32 1) : (∀ x, s_vis g h 101 (18 + 7 * x + 1) = g (18 + 7 * x + 1) ∨ 32 ≤ x) ∧ (∀ m w, m < 100 → w < 4 → s_vis g h 101 (242 + 5 * m + w) = g (242 + 5 * m + w)) ∧ (g (18 + 7 * h + 1) = n32 1 → s_hon (s_vis g h 101)) := by
  obtain ⟨h5, h52, ⟨z, hz6, h6⟩, ⟨gg, hg1, hg2, h2⟩, hmo, _, hst, mv', hmv', h9', h7⟩ := hN
  have ob := s_ok_begin (show s_ok g from ⟨⟨z, hz6, h6⟩, ⟨_, h5, h52⟩⟩) h
  have bn : ∀ {j : Nat}, j ≠ 8 → j ≠ 9 → j ≠ 18 + 7 * h + 5 → j ≠ 18 + 7 * h + 6 → s_begin g h j = g j := fun a b c d => s_begin_ne _ _ a b c d
  have mid : ∀ {j : Nat}, j ≠ 3 → j ≠ 11 → j ≠ 10 → j ≠ 15 → (j < 242 ∨ 742 ≤ j) → s_mid g h 101 j = s_begin g h j := fun a b c d e => s_all_ne _ _ _ _ _ a b c d e ob
  have lgd : ∀ {j : Nat}, j ≠ 7 → j < 782 → s_logged g h 101 (s_nat g 7) j = s_mid g h 101 j := fun a b => by unfold s_logged; exact s_log_ne _ _ _ _ _ _ a b
  have st := hst h hh hz
  obtain ⟨nx, hnx, e3⟩ := st.2.2.2.1
  have lx : s_logged g h 101 (s_nat g 7) (18 + 7 * h + 3) = n32 nx := by
    rw [lgd (by omega) (by omega), mid (by omega) (by omega) (by omega) (by omega) (by omega), bn (by omega) (by omega) (by omega) (by omega)]; exact e3
  have lon : ∀ x, x < 32 → s_logged g h 101 (s_nat g 7) (18 + 7 * x + 1) = g (18 + 7 * x + 1) := fun x hx => by
    rw [lgd (by omega) (by omega), mid (by omega) (by omega) (by omega) (by omega) (by omega), bn (by omega) (by omega) (by omega) (by omega)]
  refine ⟨fun x => ?_, fun m w hm hw => ?_, fun hon => ?_⟩
  · rcases Nat.lt_or_ge x 32 with hx | hx
    · left
      unfold s_vis s_ps
      rw [s_passes_on]
      unfold s_pl
      rw [s_polls_on, lon x hx]
    · exact Or.inr hx
  · rw [s_vis_ne g hh hnx (gp := 0) (by decide) lx (by omega) (by omega) (by omega) (by omega) (by omega) (by omega), lgd (by omega) (by omega)]
    have e : s_mid g h 101 (242 + 5 * m + w) = s_begin g h (242 + 5 * m + w) := s_all_w _ _ _ hw _ _ ob
    rw [e, bn (by omega) (by omega) (by omega) (by omega)]
  · unfold s_vis s_ps
    obtain ⟨ny, hny, e⟩ := s_polls_next (gp := s_nat (s_logged g h 101 (s_nat g 7)) (18 + 7 * h + 4)) (s_logged g h 101 (s_nat g 7)) hh hnx lx
    have e2 : s_nat (s_logged g h 101 (s_nat g 7)) (18 + 7 * h + 3) = nx := s_nat_n32 lx (by omega)
    have ey : s_nat (s_pl (s_logged g h 101 (s_nat g 7)) h) (18 + 7 * h + 3) = ny := s_nat_n32 (by unfold s_pl; rw [e2]; exact e) (by omega)
    rw [ey]
    refine s_passes_hon hh hny ?_
    unfold s_pl
    rw [s_polls_on, lon h hh]; exact hon
/-- all that is said of an array at rest -/
def s_I (g : zG) (B V : Nat) : Prop := s_inv g B V ∧ s_hon g ∧ s_ds g ∧ s_own g
theorem s_I_w {g : zG} {B B' V V' : Nat} (h : s_I g B V) (hB : B ≤ B') (hV : V ≤ V') : s_I g B' V' := by
  obtain ⟨⟨a, b, c, d, e⟩, r⟩ := h
  exact ⟨⟨a, b, c, by omega, by omega⟩, r⟩
theorem s_own_vis {g g' : zG} (h5 : g' 5 = g 5) (hq : s_nat g 5 ≤ 100) (hw : ∀ m, m < 100 → g' (242 + 5 * m + 2) = g (242 + 5 * m + 2)) (hz : ∀ x, x < 32 → g' (18 + 7 * x + 0) = g (18 + 7 * x + 0)) (H : s_own g) : s_own g' := by
  intro m hm
  have e5 : s_nat g' 5 = s_nat g 5 := by unfold s_nat; rw [h5]
  rw [e5] at hm
  obtain ⟨y, hy, h1, h2⟩ := H m hm
  exact ⟨y, hy, by rw [hw m (by omega)]; exact h1, by rw [hz y hy]; exact h2⟩
theorem s_vis_5 {g : zG} (hN : s_num g) {h : Nat} (hh : h < 32) (hz : g (18 + 7 * h + 0) = n32 1) : s_vis g h 101 5 = g 5 := by
  obtain ⟨h5, h52, ⟨z, hz6, h6⟩, ⟨gg, hg1, hg2, h2⟩, hmo, _, hst, mv', hmv', h9', h7⟩ := hN
  have ob := s_ok_begin (show s_ok g from ⟨⟨z, hz6, h6⟩, ⟨_, h5, h52⟩⟩) h
  have bn : ∀ {j : Nat}, j ≠ 8 → j ≠ 9 → j ≠ 18 + 7 * h + 5 → j ≠ 18 + 7 * h + 6 → s_begin g h j = g j := fun a b c d => s_begin_ne _ _ a b c d
  have mid : ∀ {j : Nat}, j ≠ 3 → j ≠ 11 → j ≠ 10 → j ≠ 15 → (j < 242 ∨ 742 ≤ j) → s_mid g h 101 j = s_begin g h j := fun a b c d e => s_all_ne _ _ _ _ _ a b c d e ob
  have lgd : ∀ {j : Nat}, j ≠ 7 → j < 782 → s_logged g h 101 (s_nat g 7) j = s_mid g h 101 j := fun a b => by unfold s_logged; exact s_log_ne _ _ _ _ _ _ a b
  obtain ⟨nx, hnx, e3⟩ := (hst h hh hz).2.2.2.1
  have lx : s_logged g h 101 (s_nat g 7) (18 + 7 * h + 3) = n32 nx := by
    rw [lgd (by omega) (by omega), mid (by omega) (by omega) (by omega) (by omega) (by omega), bn (by omega) (by omega) (by omega) (by omega)]; exact e3
  rw [s_vis_ne g hh hnx (gp := 0) (by decide) lx (by omega) (by omega) (by omega) (by omega) (by omega) (by omega), lgd (by omega) (by omega), mid (by omega) (by omega) (by omega) (by omega) (by omega), bn (by omega) (by omega) (by omega) (by omega)]
/-- what a visit keeps besides -/
theorem s_visits_kp {g : zG} {B V : Nat} (hI : s_inv g B V) (hB : B ≤ 1800000000) (hS : s_same g (s_visits g)) (ho : s_hon g) (hw : s_own g) : s_hon (s_visits g) ∧ s_own (s_visits g) ∧ s_visits g 5 = g 5 ∧ (∀ m w, m < 100 → w < 4 → s_visits g (242 + 5 * m + w) = g (242 + 5 * m + w)) := by
  obtain ⟨hN, ⟨s, hs, h1⟩, hol, hb, hv⟩ := hI
  have q5 := hN.1
  have hS2 := hS.2
  clear hS
  unfold s_visits at hS2 ⊢
  by_cases h4 : g 4 = nn
  · rw [if_pos h4] at hS2 ⊢
    rcases s_h2_on g with h | ⟨x, hx, hx2, hon⟩
    · rw [if_pos h]; exact ⟨ho, hw, rfl, fun _ _ _ _ => rfl⟩
    · have hne : ¬ s_h2 g = nn := by rw [hx2, n32_ne (by omega)]; exact not_false
      rw [if_neg hne, hx2, n32_toNat (by omega)] at hS2 ⊢
      unfold s_isOn at hon
      simp only [Bool.and_eq_true, decide_eq_true_eq] at hon
      have ti := s_tok_inv hN hs h1 hx hon.2 (by omega)
      have tz : s_tok g x (18 + 7 * x + 0) = n32 1 := by rw [s_tok_ne _ (by omega) (by omega) (by omega) (by omega) (by omega)]; exact hon.1
      obtain ⟨k1, k2, k3⟩ := s_vis_kp ti.1 hx tz
      have v5 : s_vis (s_tok g x) x 101 5 = g 5 := by
        rw [s_vis_5 ti.1 hx tz, s_tok_ne _ (by omega) (by omega) (by omega) (by omega) (by omega)]
      have vw : ∀ m w, m < 100 → w < 4 → s_vis (s_tok g x) x 101 (242 + 5 * m + w) = g (242 + 5 * m + w) := fun m w hm hw => by
        rw [k2 m w hm hw, s_tok_ne _ (by omega) (by omega) (by omega) (by omega) (by omega)]
      refine ⟨k3 (by rw [s_tok_ne _ (by omega) (by omega) (by omega) (by omega) (by omega)]; exact hon.2), s_own_vis v5 q5 (fun m hm => vw m 2 hm (by decide)) hS2 hw, v5, vw⟩
  · rw [if_neg h4] at hS2 ⊢
    rcases hol with h | ⟨x, hx, hx4, hz⟩
    · exact absurd h h4
    · rw [s_nat_n32 hx4 (by omega)] at hS2 ⊢
      obtain ⟨k1, k2, k3⟩ := s_vis_kp hN hx hz
      have v5 := s_vis_5 hN hx hz
      have hon : g (18 + 7 * x + 1) = n32 1 := by
        rcases ho with h | ⟨y, hy, hy4, hon⟩
        · exact absurd h h4
        · rw [hx4, n32_eq (by omega) (by omega)] at hy4
          rw [hy4]; exact hon
      exact ⟨k3 hon, s_own_vis v5 q5 (fun m hm => k2 m 2 hm (by decide)) hS2 hw, v5, k2⟩
/-- A VISIT keeps what is said of an array at rest -/
theorem s_I_visits {g : zG} {B V : Nat} (h : s_I g B V) (hB : B ≤ 1800000000) (hV : s_inv (s_visits g) (B + 4200) (V + 1)) (hS : s_same g (s_visits g)) : s_I (s_visits g) (B + 4200) (V + 1) := by
  obtain ⟨hI, ho, hd, hw⟩ := h
  obtain ⟨k1, k2, k3, k4⟩ := s_visits_kp hI hB hS ho hw
  exact ⟨hV, k1, s_ds_visits hI hB hd, k2⟩
end
section
/-! CHANGES OF A LINE: stations switched, times, noises -/
def s_sw (g : zG) (x : Nat) (on : Bool) : zG :=
  if on = true then gu g (18 + 7 * x + 1) (n32 1) else if g 4 = n32 x then gu (gu (gu g (18 + 7 * x + 1) (n32 0)) (18 + 7 * x + 2) (n32 0)) 4 nn else gu (gu g (18 + 7 * x + 1) (n32 0)) (18 + 7 * x + 2) (n32 0)
def s_swR (g : zG) (x : Nat) (had on : Bool) : zG :=
  if had = true then (if on = true then g else gu (gu (gu g (18 + 7 * x + 1) (n32 0)) (18 + 7 * x + 2) (n32 0)) 4 (if g 4 = n32 x then nn else g 4)) else (if on = true then gu g (18 + 7 * x + 1) (n32 1) else g)
theorem gu_id2 (g : zG) (k : Nat) {v : Int32} (h : g k = v) : gu g k v = g := by rw [← h]; exact gu_id g k
theorem s_sw_eq {g : zG} (H : s_sta g) (ho : s_hon g) {x : Nat} (hx : x < 32) (hz : g (18 + 7 * x + 0) = n32 1) (on : Bool) : s_swR g x (decide (g (18 + 7 * x + 1) = n32 1)) on = s_sw g x on := by
  have st := H x hx hz
  unfold s_swR s_sw
  cases on with
  | true =>
    rcases st.1 with r | r
    · rw [r, d01]; rfl
    · rw [r, d11, gu_id2 g _ r]; rfl
  | false =>
    rcases st.1 with r | r
    · have r2 : g (18 + 7 * x + 2) = n32 0 := by
        rcases st.2.1 with q | q
        · exact q
        · have := st.2.2.1 q
          rw [r] at this
          exact absurd this (by decide)
      have h4 : ¬ g 4 = n32 x := by
        intro he
        rcases ho with h | ⟨y, hy, h1, h2⟩
        · rw [h] at he
          have : (n32 x = nn) := he.symm
          rw [n32_ne (by omega)] at this
          exact this
        · rw [he, n32_eq (by omega) (by omega)] at h1
          rw [← h1, r] at h2
          exact absurd h2 (by decide)
      have e1 : gu g (18 + 7 * x + 1) (n32 0) = g := gu_id2 g _ r
      rw [r, d01, e1, gu_id2 g _ r2]
      simp [h4]
    · rw [r, d11]
      by_cases h4 : g 4 = n32 x
      · rw [if_pos h4, if_pos h4]; rfl
      · rw [if_neg h4, if_neg h4]
        have e : gu (gu (gu g (18 + 7 * x + 1) (n32 0)) (18 + 7 * x + 2) (n32 0)) 4 (g 4) = gu (gu g (18 + 7 * x + 1) (n32 0)) (18 + 7 * x + 2) (n32 0) := gu_id2 _ _ (by rw [gu_ne _ _ (by omega), gu_ne _ _ (by omega)])
        rw [e]; rfl
theorem bl0 : z_bl (n32 0) = true := rfl
theorem bl1 : z_bl (n32 1) = true := rfl
section MODEL
variable {σ : zSt} {M : Nat}
theorem m_setOn35 (hM : zMs σ M) {x : Nat} (hx : x < 32) (had on : Bool) : f_X10_setOn_35 σ M (n32 x) (bi on) (bi had) = some (bi had, z_sA σ (M + 1) (s_swR (z_I σ (M + 1)) x had on)) := by
  unfold s_swR
  cases had <;> cases on <;> simp (disch := omega) only [f_X10_setOn_35, f_X10_setOn_92, f_X10_setOn_91, f_X10_setOn_111, f_X10_at, ↓zl_eq, ↓zb_eq, ↓zb2_eq, ↓zc_some, ↓zc_none, ↓zb_pre, ↓zb2_pre, ↓zc_pre, ↓zex_eq, ↓reduceIte, Option.isSome_some, Option.isSome_none, Option.getD_some, n32_lit, n32_nn, n32_nn2, n32_add, n32_mul, n32_toNat, n32_ix, z_pI_eq, z_sA_sA, z_I_sA, z_J_sA, z_R_sA, z_ob_sA, z_ar_sA, z_ln_sA, z_nx_sA, hM.1, hM.2.1, hM.2.2.1, hM.2.2.2.1, hM.2.2.2.2.1, hM.2.2.2.2.2.1, hM.2.2.2.2.2.2.1, hM.2.2.2.2.2.2.2.1, hM.2.2.2.2.2.2.2.2.1, hM.2.2.2.2.2.2.2.2.2.1, hM.2.2.2.2.2.2.2.2.2.2.1, hM.2.2.2.2.2.2.2.2.2.2.2.1, hM.2.2.2.2.2.2.2.2.2.2.2.2, bi_0n, bi_bl, gu_ne, gu_same, Bool.true_eq_false, Bool.false_eq_true, z_sA_id]
  by_cases h4 : z_I σ (M + 1) 4 = n32 x
  · rw [if_pos h4, if_pos h4]
  · rw [if_neg h4, if_neg h4]
end MODEL
section CLASS
variable {σ : zSt} {a n : Nat} {pl ad : Nat → Nat} {qu : Nat → Nat → Nat} {g : zG}
theorem c_switch (h : zC0 σ a pl ad qu n g) {i : Nat} (hi : i < n) (on : Bool) : ∃ σ', f_X2_switchStation σ a (pl i) (bi on) = some σ' ∧ zAn σ σ' a pl ad qu n (s_sw g (ad i) on) := by
  have ob := c_ob h hi
  have o1 := h.1.1
  unfold s_sw
  cases on with
  | true =>
    refine ⟨z_pI σ (pl i) 1 (bi true), ?_, c_sta h hi (Or.inl ⟨rfl, rfl⟩) (n32 1)⟩
    simp only [f_X2_switchStation, ↓zl_eq, ↓zb_eq, ↓zb2_eq, ↓zc_some, ↓zc_none, ↓zb_pre, ↓zb2_pre, ↓zc_pre, ↓zex_eq, ↓reduceIte, Option.isSome_some, Option.isSome_none, Option.getD_some, ob, n32_lit, bi_0n, bi_bl, Bool.true_eq_false]
  | false =>
    have A1 := c_sta h hi (Or.inl ⟨rfl, rfl⟩) (n32 0)
    have h1 := zC0_step h A1
    have A2 := c_sta h1 hi (Or.inr (Or.inl ⟨rfl, rfl⟩)) (n32 0)
    have h2 := zC0_step h1 A2
    have hai := (c_ad h hi).1
    have e10 : z_I (z_pI (z_pI σ (pl i) 1 (n32 0)) (pl i) 2 (n32 0)) a 10 = g 4 := by
      rw [(c_L h2).2.2.2.2.2, gu_ne _ _ (by omega), gu_ne _ _ (by omega)]
    have e0 := (c_S h2 hi).1
    have T : f_X2_switchStation σ a (pl i) (bi false) = if g 4 = n32 (ad i) then some (z_pI (z_pI (z_pI σ (pl i) 1 (n32 0)) (pl i) 2 (n32 0)) a 10 nn) else some (z_pI (z_pI σ (pl i) 1 (n32 0)) (pl i) 2 (n32 0)) := by
      simp only [f_X2_switchStation, f_X2_switchStation_31, ↓zl_eq, ↓zb_eq, ↓zb2_eq, ↓zc_some, ↓zc_none, ↓zb_pre, ↓zb2_pre, ↓zc_pre, ↓zex_eq, ↓reduceIte, Option.isSome_some, Option.isSome_none, Option.getD_some, ob, o1, n32_lit, n32_nn2, bi_0n, bi_bl, z_ob_pI, ← bi_f, bl0, e10, e0]
    rw [T, if_neg (show ¬ (false = true) by decide)]
    by_cases h4 : g 4 = n32 (ad i)
    · rw [if_pos h4, if_pos h4]
      exact ⟨_, rfl, zAn_t (zAn_t A1 A2) (c_hold h2 nn)⟩
    · rw [if_neg h4, if_neg h4]
      exact ⟨_, rfl, zAn_t A1 A2⟩
/-- one of T, S, G -/
theorem zRep_top (hP : zPl σ a pl) (h : zRep σ a pl ad qu n g) {k : Nat} (hk : k < 3) (v : Int32) : zRep (z_sA σ a (gu (z_I σ a) (6 + k) v)) a pl ad qu n (gu g k v) := by
  obtain ⟨hRL, hRW, hRM, hRN, hRC, hRA, hRS, hRQ⟩ := h
  have hm : sMs g (gu g k v) := ⟨gu_ne _ _ (by omega), fun m w _ _ => gu_ne _ _ (by omega)⟩
  have hp : ∀ i, i < n → pl i ≠ a := fun i hi => by have := (hP.1 i (by have := hRA.1; omega)).2.2; omega
  refine ⟨?_, ?_, qM_congr (by simp (disch := omega) only [z_I_sA, z_I_sAn, z_J_sA]) (by simp (disch := omega) only [z_I_sA, z_I_sAn, z_J_sA]) hm hRM, qN_congr (by simp (disch := omega) only [z_I_sA, z_I_sAn, z_J_sA]) (by simp (disch := omega) only [z_I_sA, z_I_sAn, z_J_sA]) (by simp (disch := omega) only [z_I_sA, z_I_sAn, z_J_sA]) (gu_ne _ _ (by omega)) (fun k _ => gu_ne _ _ (by omega)) hRN, qC_congr (σ := σ) (by simp (disch := omega) only [z_I_sA, z_I_sAn, z_J_sA]) rfl (fun j h1 h2 => gu_ne _ _ (by omega)) hm hRC, qA_congr (fun x _ => gu_ne _ _ (by omega)) hRA, ?_, qQ_congr (by simp (disch := omega) only [z_I_sA, z_I_sAn, z_J_sA]) (fun i hi => by rw [z_I_sAn _ _ _ (hp i hi)]; exact ⟨rfl, rfl⟩) hm hRQ⟩
  · obtain ⟨h1, h2, h3, h4, h5, h6⟩ := hRL
    unfold qL
    rw [z_I_sA]
    rcases (show k = 0 ∨ k = 1 ∨ k = 2 by omega) with rfl | rfl | rfl <;> simp (disch := omega) only [gu_ne, gu_same, h1, h2, h3, h4, h5, h6, and_self]
  · unfold qW
    simp (disch := omega) only [z_I_sAn]
    exact hRW
  · intro i hi
    have h32 := (hRA.2.1 i hi).1
    rw [z_I_sAn _ _ _ (hp i hi)]
    simp (disch := omega) only [gu_ne]
    exact hRS i hi
theorem c_top (h : zC0 σ a pl ad qu n g) {k : Nat} (hk : k < 3) (v : Int32) : zAn σ (z_pI σ a (6 + k) v) a pl ad qu n (gu g k v) := by
  rw [z_pI_eq]
  exact ⟨zFr_sA _ (Nat.le_refl _) (by omega) _, z_I_sAn _ _ _ (by omega), zRep_top h.2.1 h.2.2 hk v⟩
/-- a noise -/
def s_an (g : zG) (z : Nat) (f t : Int32) : zG := gu (gu (gu g (742 + 2 * z) f) (742 + 2 * z + 1) t) 6 (n32 (z + 1))
theorem s_an_ne (g : zG) (z : Nat) (f t : Int32) {j : Nat} (a : j ≠ 6) (b : j ≠ 742 + 2 * z) (c : j ≠ 742 + 2 * z + 1) : s_an g z f t j = g j := by
  unfold s_an; rw [gu_ne _ _ a, gu_ne _ _ c, gu_ne _ _ b]
theorem c_addNoise (h : zC0 σ a pl ad qu n g) (h5 : s_nat g 5 ≤ 100) {z : Nat} (hz : z < 20) (h6 : g 6 = n32 z) (f t : Int32) : ∃ σ', f_X4_add σ (a + 5) f t = some σ' ∧ zAn σ σ' a pl ad qu n (s_an g z f t) ∧ z_I σ' (a + 5) 2 = n32 (z + 1) := by
  have hL := h.1
  have hP := h.2.1
  obtain ⟨hRL, hRW, hRM, hRN, hRC, hRA, hRS, hRQ⟩ := h.2.2
  have e2 : z_I σ (a + 5) 2 = n32 z := hRN.1.trans h6
  have n6 : s_nat g 6 = z := s_nat_n32 h6 (by omega)
  have sn : ∀ {j : Nat}, j ≠ 6 → j ≠ 742 + 2 * z → j ≠ 742 + 2 * z + 1 → s_an g z f t j = g j := fun a b c => s_an_ne g z f t a b c
  have hm : sMs g (s_an g z f t) := ⟨sn (by omega) (by omega) (by omega), fun m w hm hw => sn (by omega) (by omega) (by omega)⟩
  have o5 := hL.2.2.2.2.2.2.2.2.2.2.2.2.2.2.1
  have r0 := hL.2.2.2.2.2.2.2.2.2.2.2.2.2.2.2.1
  have r1 := hL.2.2.2.2.2.2.2.2.2.2.2.2.2.2.2.2.1
  have a6 := hL.2.2.2.2.2.2.2.2.2.2.2.2.2.2.2.2.2.1
  have l6 := hL.2.2.2.2.2.2.2.2.2.2.2.2.2.2.2.2.2.2.1
  have a7 := hL.2.2.2.2.2.2.2.2.2.2.2.2.2.2.2.2.2.2.2.1
  have l7 := hL.2.2.2.2.2.2.2.2.2.2.2.2.2.2.2.2.2.2.2.2.1
  generalize hs1 : z_sA σ (a + 6) (gu (z_I σ (a + 6)) z f) = σ1
  generalize hs2 : z_sA σ1 (a + 7) (gu (z_I σ (a + 7)) z t) = σ2
  generalize hs3 : z_sA σ2 (a + 5) (gu (z_I σ (a + 5)) 2 (n32 (z + 1))) = σ3
  have q1 : ∀ q, q ≠ a + 6 → z_I σ1 q = z_I σ q := fun q hq => by rw [← hs1]; exact z_I_sAn _ _ _ hq
  have q2 : ∀ q, q ≠ a + 6 → q ≠ a + 7 → z_I σ2 q = z_I σ q := fun q hq hq2 => by rw [← hs2, z_I_sAn _ _ _ hq2]; exact q1 q hq
  have q3 : ∀ q, q ≠ a + 6 → q ≠ a + 7 → q ≠ a + 5 → z_I σ3 q = z_I σ q := fun q hq hq2 hq3 => by rw [← hs3, z_I_sAn _ _ _ hq3]; exact q2 q hq hq2
  have F : zFr a σ σ3 := by
    rw [← hs3, ← hs2, ← hs1]
    exact zFr_t (zFr_sA _ (by omega) (by omega) _) (zFr_t (zFr_sA _ (by omega) (by omega) _) (zFr_sA _ (by omega) (by omega) _))
  have J : z_J σ3 = z_J σ := by rw [← hs3, ← hs2, ← hs1]; rfl
  have i6 : z_I σ3 (a + 6) = gu (z_I σ (a + 6)) z f := by rw [← hs3, z_I_sAn _ _ _ (by omega), ← hs2, z_I_sAn _ _ _ (by omega), ← hs1, z_I_sA]
  have i7 : z_I σ3 (a + 7) = gu (z_I σ (a + 7)) z t := by rw [← hs3, z_I_sAn _ _ _ (by omega), ← hs2, z_I_sA]
  have i5 : z_I σ3 (a + 5) = gu (z_I σ (a + 5)) 2 (n32 (z + 1)) := by rw [← hs3, z_I_sA]
  have hp : ∀ i, i < n → z_I σ3 (pl i) = z_I σ (pl i) := fun i hi => by
    have := (hP.1 i (by have := hRA.1; omega)).2.2
    exact q3 _ (by omega) (by omega) (by omega)
  refine ⟨σ3, ?_, ⟨F, q3 _ (by omega) (by omega) (by omega), ?_, ?_, ?_, ?_, ?_, ?_, ?_, ?_⟩, by rw [i5, gu_same]⟩
  · have eo : z_ob σ1 = z_ob σ ∧ z_R σ1 = z_R σ ∧ z_ar σ1 = z_ar σ ∧ z_ln σ1 = z_ln σ := by rw [← hs1]; exact ⟨rfl, rfl, rfl, rfl⟩
    have eo2 : z_ob σ2 = z_ob σ := by rw [← hs2, ← hs1]; rfl
    have p1 : z_pI σ (a + 6) z f = σ1 := by rw [z_pI_eq]; exact hs1
    have p2 : z_pI σ1 (a + 7) z t = σ2 := by rw [z_pI_eq, q1 _ (by omega)]; exact hs2
    have p3 : z_pI σ2 (a + 5) 2 (n32 (z + 1)) = σ3 := by rw [z_pI_eq, q2 _ (by omega) (by omega)]; exact hs3
    have e21 : z_I σ1 (a + 5) 2 = n32 z := by rw [q1 _ (by omega)]; exact e2
    have e22 : z_I σ2 (a + 5) 2 = n32 z := by rw [q2 _ (by omega) (by omega)]; exact e2
    simp (disch := omega) only [f_X4_add, f_X4_add_46, ↓zl_eq, ↓zb_eq, ↓zb2_eq, ↓zc_some, ↓zc_none, ↓zb_pre, ↓zb2_pre, ↓zc_pre, ↓zex_eq, ↓reduceIte, Option.isSome_some, Option.isSome_none, Option.getD_some, n32_lit, n32_lt, n32_le, o5, e2, r0, a6, l6, n32_ix, n32_toNat, p1, eo.1, eo.2.1, eo.2.2.1, eo.2.2.2, r1, a7, l7, e21, p2, eo2, e22, n32_add, p3]
    rw [if_neg (by omega), if_neg (by omega)]
  · unfold qL
    rw [q3 _ (by omega) (by omega) (by omega)]
    simp (disch := omega) only [sn]
    exact hRL
  · unfold qW
    rw [q3 _ (by omega) (by omega) (by omega), q3 _ (by omega) (by omega) (by omega)]
    exact hRW
  · exact qM_congr (q3 _ (by omega) (by omega) (by omega)) (q3 _ (by omega) (by omega) (by omega)) hm hRM
  · have g6 : s_an g z f t 6 = n32 (z + 1) := by unfold s_an; rw [gu_same]
    have n6' : s_nat (s_an g z f t) 6 = z + 1 := s_nat_n32 g6 (by omega)
    refine ⟨by rw [i5, gu_same, g6], fun k hk => ?_⟩
    rw [n6'] at hk
    rw [i6, i7]
    by_cases hkz : k = z
    · subst hkz
      unfold s_an
      rw [gu_same, gu_same, gu_ne _ _ (by omega), gu_ne _ _ (by omega), gu_same, gu_ne _ _ (by omega), gu_same]
      exact ⟨rfl, rfl⟩
    · rw [gu_ne _ _ hkz, gu_ne _ _ hkz, sn (by omega) (by omega) (by omega), sn (by omega) (by omega) (by omega)]
      exact hRN.2 k (by omega)
  · exact qC_congr (q3 _ (by omega) (by omega) (by omega)) (by rw [J]) (fun j h1 h2 => sn (by omega) (by omega) (by omega)) hm hRC
  · exact qA_congr (fun x hx => sn (by omega) (by omega) (by omega)) hRA
  · intro i hi
    have h32 := (hRA.2.1 i hi).1
    rw [hp i hi]
    simp (disch := omega) only [sn]
    exact hRS i hi
  · exact qQ_congr (q3 _ (by omega) (by omega) (by omega)) (fun i hi => by rw [hp i hi]; exact ⟨rfl, rfl⟩) hm hRQ
end CLASS
end
section
/-! A STATION IS PLACED -/
/-- nothing but the cells of one line has changed, and no shape of any -/
def zFw (a : Nat) (σ σ' : zSt) : Prop := z_nx σ' = z_nx σ ∧ z_sh σ' = z_sh σ ∧ ∀ q, (q < a ∨ a + 19 ≤ q) → z_I σ' q = z_I σ q ∧ z_J σ' q = z_J σ q ∧ z_R σ' q = z_R σ q
theorem zFw_of {a : Nat} {σ σ' : zSt} (h : zFr a σ σ') : zFw a σ σ' := ⟨h.1, h.2.1, fun q hq => ⟨(h.2.2.2 q hq).1, (h.2.2.2 q hq).2, by rw [h.2.2.1]⟩⟩
theorem zFw_t {a : Nat} {σ σ' σ'' : zSt} (h : zFw a σ σ') (h2 : zFw a σ' σ'') : zFw a σ σ'' :=
  ⟨h2.1.trans h.1, h2.2.1.trans h.2.1, fun q hq => ⟨(h2.2.2 q hq).1.trans (h.2.2 q hq).1, (h2.2.2 q hq).2.1.trans (h.2.2 q hq).2.1, (h2.2.2 q hq).2.2.trans (h.2.2 q hq).2.2⟩⟩
/-- a row with something put in at place l; of the first n + 1 -/
def s_ins {β : Type} (f : Nat → β) (l n : Nat) (v : β) (i : Nat) : β := if i < l then f i else if i = l then v else if i ≤ n then f (i - 1) else f i
theorem s_ins_lt {β : Type} (f : Nat → β) {l n i : Nat} (v : β) (h : i < l) : s_ins f l n v i = f i := if_pos h
theorem s_ins_eq {β : Type} (f : Nat → β) {l n : Nat} (v : β) : s_ins f l n v l = v := by unfold s_ins; rw [if_neg (by omega), if_pos rfl]
theorem s_ins_gt {β : Type} (f : Nat → β) {l n i : Nat} (v : β) (h : l < i) (h2 : i ≤ n) : s_ins f l n v i = f (i - 1) := by unfold s_ins; rw [if_neg (by omega), if_neg (by omega), if_pos h2]
theorem s_ins_far {β : Type} (f : Nat → β) {l n i : Nat} (v : β) (h : l < i) (h2 : n < i) : s_ins f l n v i = f i := by unfold s_ins; rw [if_neg (by omega), if_neg (by omega), if_neg (by omega)]
/-- where it comes from -/
def s_pi (l n i : Nat) : Nat := if i < l then i else if i = l then n else if i ≤ n then i - 1 else i
theorem s_ins_pi {β : Type} (f : Nat → β) (l n i : Nat) : s_ins f l n (f n) i = f (s_pi l n i) := by
  unfold s_ins s_pi
  split
  · rfl
  · split
    · rfl
    · split <;> rfl
theorem s_pi_lt {l n i : Nat} (h : n < 8) (hi : i < 8) : s_pi l n i < 8 := by
  unfold s_pi
  split
  · omega
  · split
    · omega
    · split <;> omega
theorem s_pi_inj {l n i j : Nat} (h : l ≤ n) (e : s_pi l n i = s_pi l n j) : i = j := by
  unfold s_pi at e
  repeat' split at e
  all_goals omega
def s_adds (g : zG) (x : Nat) : zG := gu (gu (gu (gu (gu (gu (gu g (18 + 7 * x + 0) (n32 1)) (18 + 7 * x + 1) (n32 1)) (18 + 7 * x + 2) (n32 0)) (18 + 7 * x + 3) (n32 x)) (18 + 7 * x + 4) (n32 x)) (18 + 7 * x + 5) (n32 0)) (18 + 7 * x + 6) nn
theorem s_adds_ne (g : zG) (x : Nat) {j : Nat} (h : j < 18 + 7 * x ∨ 18 + 7 * x + 7 ≤ j) : s_adds g x j = g j := by
  unfold s_adds
  simp (disch := omega) only [gu_ne]
theorem s_cnt_0 {P : Nat → Bool} : ∀ k, (∀ m, m < k → P m = false) → s_cnt P k = 0
  | 0, _ => rfl
  | k + 1, h => by
    unfold s_cnt
    rw [s_cnt_0 k (fun m hm => h m (by omega)), h k (by omega)]
    rfl
/-- a row whose station is none is empty -/
theorem s_len_none {g : zG} (hw : s_own g) {x : Nat} (hx : x < 32) (hz : ¬ g (18 + 7 * x + 0) = n32 1) : s_len g x = 0 ∧ ∀ m, m < s_nat g 5 → s_wt g (n32 x) m = false := by
  have key : ∀ m, m < s_nat g 5 → s_wt g (n32 x) m = false := by
    intro m hm
    obtain ⟨y, hy, h1, h2⟩ := hw m hm
    have : ¬ g (242 + 5 * m + 2) = n32 x := by
      intro he
      rw [h1, n32_eq (by omega) (by omega)] at he
      rw [he] at h2
      exact hz h2
    unfold s_wt
    rw [decide_eq_false this, Bool.false_and]
  exact ⟨s_cnt_0 _ key, key⟩
section CLASS
variable {σ : zSt} {a n : Nat} {pl ad : Nat → Nat} {qu : Nat → Nat → Nat} {g : zG}
theorem c_reset {p x : Nat} (hp : z_ob σ p 6 = true) : f_X6_reset σ p (n32 x) = some (z_sA σ p (gu (gu (gu (gu (gu (gu (gu (gu (gu (z_I σ p) 0 (n32 x)) 1 (n32 1)) 2 (n32 0)) 3 (n32 x)) 4 (n32 x)) 5 nn) 6 (n32 0)) 7 (n32 0)) 8 nn)) := by
  simp (disch := omega) only [f_X6_reset, ↓zl_eq, ↓zb_eq, ↓zb2_eq, ↓zc_some, ↓zc_none, ↓zb_pre, ↓zb2_pre, ↓zc_pre, ↓zex_eq, ↓reduceIte, Option.isSome_some, Option.isSome_none, Option.getD_some, n32_lit, n32_nn2, z_pI_eq, z_ob_sA, z_sA_sA, z_I_sA, hp]
/-- the places before the new station are found -/
theorem c_placeLoop (hL : zLs σ a) (hP : zPl σ a pl) (hn : n < 8) (hA : ∀ i, i < n → ad i < 32 ∧ z_I σ (pl i) 0 = n32 (ad i)) {x : Nat} (hx : x < 32) (h5 : z_I σ a 5 = n32 n) :
    ∃ l σ', f_X2_placeStation_38 a (n32 x) (pl n) σ (n32 n) = some (some (pl n), z_pI σ' a 5 (n32 (n + 1))) ∧ l ≤ n ∧ (∀ i, l ≤ i → i < n → x ≤ ad i) ∧ (l = 0 ∨ ad (l - 1) < x) ∧ z_nx σ' = z_nx σ ∧ z_sh σ' = z_sh σ ∧ z_I σ' = z_I σ ∧ z_J σ' = z_J σ ∧ (∀ q, q ≠ a + 1 → z_R σ' q = z_R σ q) ∧ ∀ i, i < 8 → z_R σ' (a + 1) i = some (s_ins pl l n (pl n) i) := by
  have ob0 := (hP.1 n hn).2.1
  obtain ⟨r, hr, hr2⟩ := zloop_inv (N := zN) (s := (σ, n32 n)) (body := fun (t : zSt × Int32) => b_X2_placeStation_38 a (n32 x) (pl n) t.1 t.2)
    (Inv := fun k s => ∃ l, l + k = n ∧ s.2 = n32 l ∧ (∀ i, l ≤ i → i < n → x ≤ ad i) ∧ z_nx s.1 = z_nx σ ∧ z_sh s.1 = z_sh σ ∧ z_I s.1 = z_I σ ∧ z_J s.1 = z_J σ ∧ (∀ q, q ≠ a + 1 → z_R s.1 q = z_R σ q) ∧ ∀ i, i < 8 → z_R s.1 (a + 1) i = some (s_ins pl l n (pl n) i))
    (Post := fun r => ∃ l σ', r = (some (pl n), z_pI σ' a 5 (n32 (n + 1))) ∧ l ≤ n ∧ (∀ i, l ≤ i → i < n → x ≤ ad i) ∧ (l = 0 ∨ ad (l - 1) < x) ∧ z_nx σ' = z_nx σ ∧ z_sh σ' = z_sh σ ∧ z_I σ' = z_I σ ∧ z_J σ' = z_J σ ∧ (∀ q, q ≠ a + 1 → z_R σ' q = z_R σ q) ∧ ∀ i, i < 8 → z_R σ' (a + 1) i = some (s_ins pl l n (pl n) i)) n (fun k s hk hi => by
      obtain ⟨s, l2⟩ := s
      obtain ⟨l, hlk, rfl, hge, h1, h2, h3, h4, h6, h7⟩ := hi
      have eob : z_ob s = z_ob σ := z_ob_eq h2
      have ear : z_ar s = z_ar σ := z_ar_eq h2
      have eln : z_ln s = z_ln σ := z_ln_eq h2
      have o1 := hL.1
      have r0 : z_R s a 0 = some (a + 1) := by rw [h6 _ (by omega)]; exact hL.2.1
      have a1 := hL.2.2.2.2.2.2.1
      have l8 := hL.2.2.2.2.2.2.2.1
      have T : f_X2_placeStation_101 s a (pl n) = some (some (pl n), z_pI s a 5 (n32 (n + 1))) := by
        simp only [f_X2_placeStation_101, ↓zl_eq, ↓zb_eq, ↓zb2_eq, ↓zc_some, ↓zc_none, ↓zb_pre, ↓zb2_pre, ↓zc_pre, ↓zex_eq, ↓reduceIte, Option.isSome_some, Option.isSome_none, Option.getD_some, n32_lit, eob, o1, h3, h5, n32_add]
      by_cases hl0 : l = 0
      · subst hl0
        refine Or.inl ⟨_, ?_, 0, s, rfl, by omega, hge, Or.inl rfl, h1, h2, h3, h4, h6, h7⟩
        show b_X2_placeStation_38 a (n32 x) (pl n) s (n32 0) = _
        unfold b_X2_placeStation_38
        rw [if_pos (by decide), T]
        rfl
      · have hv : z_R s (a + 1) (l - 1) = some (pl (l - 1)) := by rw [h7 _ (by omega), s_ins_lt _ _ (by omega)]
        have obv := (hP.1 (l - 1) (by omega)).2.1
        have adv := hA (l - 1) (by omega)
        have em : n32 l - n32 1 = n32 (l - 1) := n32_sub (by omega)
        have em2 : n32 l + nn = n32 (l - 1) := by
          have e1 : n32 (l - 1) + n32 1 = n32 l := by rw [n32_add]; congr 1; omega
          rw [← e1, Int32.add_assoc]
          have e2 : n32 1 + nn = n32 0 := rfl
          rw [e2, n32_add]; rfl
        by_cases hlt : x ≤ ad (l - 1)
        · refine Or.inr ⟨by omega, (z_pR (z_pR s (a + 1) l (some (pl (l - 1)))) (a + 1) (l - 1) (some (pl n)), n32 (l - 1)), ?_, l - 1, by omega, rfl, fun i hi1 hi2 => ?_, h1, h2, h3, h4, fun q hq => ?_, fun i hi => ?_⟩
          · show b_X2_placeStation_38 a (n32 x) (pl n) s (n32 l) = _
            have f1 : ¬ (a = a + 1 ∧ 0 = l) := by omega
            simp (disch := omega) only [b_X2_placeStation_38, ↓zl_eq, ↓zb_eq, ↓zb2_eq, ↓zc_some, ↓zc_none, ↓zb_pre, ↓zb2_pre, ↓zc_pre, ↓zex_eq, ↓reduceIte, Option.isSome_some, Option.isSome_none, Option.getD_some, n32_lit, n32_nn2, n32_le, eob, ear, eln, o1, r0, a1, l8, ofN_n32, em, em2, n32_ix, n32_toNat, hv, obv, h3, adv.2, z_ob_pR, z_ar_pR, z_ln_pR, z_R_pR, if_neg f1, ob0]
            rw [if_neg (by omega), if_neg (by omega), if_pos hlt]
          · by_cases hil : i = l - 1
            · subst hil; exact hlt
            · exact hge i (by omega) hi2
          · show z_R (z_pR (z_pR s (a + 1) l _) (a + 1) (l - 1) _) q = _
            funext j
            rw [z_R_pR, if_neg (by omega), z_R_pR, if_neg (by omega), h6 q hq]
          · show z_R (z_pR (z_pR s (a + 1) l _) (a + 1) (l - 1) _) (a + 1) i = _
            rw [z_R_pR, z_R_pR, h7 i hi]
            by_cases c1 : i = l - 1
            · subst c1
              rw [if_pos ⟨rfl, rfl⟩, s_ins_eq]
            · rw [if_neg (by omega)]
              by_cases c2 : i = l
              · subst c2
                rw [if_pos ⟨rfl, rfl⟩, s_ins_gt _ _ (by omega) (by omega)]
              · rw [if_neg (by omega)]
                rcases Nat.lt_or_ge i l with c3 | c3
                · rw [s_ins_lt _ _ c3, s_ins_lt _ _ (by omega)]
                · rcases Nat.lt_or_ge n i with c4 | c4
                  · rw [s_ins_far _ _ (by omega) c4, s_ins_far _ _ (by omega) c4]
                  · rw [s_ins_gt _ _ (by omega) c4, s_ins_gt _ _ (by omega) c4]
        · refine Or.inl ⟨_, ?_, l, s, rfl, by omega, hge, Or.inr (by omega), h1, h2, h3, h4, h6, h7⟩
          show b_X2_placeStation_38 a (n32 x) (pl n) s (n32 l) = _
          simp (disch := omega) only [b_X2_placeStation_38, ↓zl_eq, ↓zb_eq, ↓zb2_eq, ↓zc_some, ↓zc_none, ↓zb_pre, ↓zb2_pre, ↓zc_pre, ↓zex_eq, ↓reduceIte, Option.isSome_some, Option.isSome_none, Option.getD_some, n32_lit, n32_le, eob, ear, eln, o1, r0, a1, l8, ofN_n32, em, n32_ix, n32_toNat, hv, obv, h3, adv.2, T]
          rw [if_neg (by omega), if_neg (by omega), if_neg hlt]) (by unfold zN; omega)
    ⟨n, by omega, rfl, fun i h1 h2 => by omega, rfl, rfl, rfl, rfl, fun _ _ => rfl, fun i hi => by
      rw [(hP.1 i hi).1, s_ins_pi]
      congr 2
      unfold s_pi
      split
      · rfl
      · split
        · omega
        · rw [if_neg (by omega)]⟩
  obtain ⟨l, σ', h0, hh⟩ := hr2
  refine ⟨l, σ', ?_, hh⟩
  rw [← h0]
  exact hr
end CLASS
end
section
section CLASS
variable {σ : zSt} {a n : Nat} {pl ad : Nat → Nat} {qu : Nat → Nat → Nat} {g : zG}
/-- A STATION IS PLACED: the line is the array with the station -/
theorem c_place (h : zC0 σ a pl ad qu n g) (hG : qG σ a g) (hn : n < 8) (hw : s_own g) (h6' : s_nat g 6 ≤ 20) (h5' : s_nat g 5 ≤ 100) {x : Nat} (hx : x < 32) (hz : ¬ g (18 + 7 * x + 0) = n32 1) :
    ∃ σ' pl' ad' p, f_X2_placeStation σ a (n32 x) = some (some p, σ') ∧ zFw a σ σ' ∧ zC0 σ' a pl' ad' qu (n + 1) (s_adds g x) ∧ qG σ' a (s_adds g x) ∧ ∃ i, i < n + 1 ∧ pl' i = p ∧ ad' i = x := by
  obtain ⟨hL, hP, hRL, hRW, hRM, hRN, hRC, hRA, hRS, hRQ⟩ := h
  have hob := (hP.1 n hn).2.1
  have hpn := (hP.1 n hn).2.2
  have hR := c_reset (σ := σ) (p := pl n) (x := x) hob
  generalize hF : gu (gu (gu (gu (gu (gu (gu (gu (gu (z_I σ (pl n)) 0 (n32 x)) 1 (n32 1)) 2 (n32 0)) 3 (n32 x)) 4 (n32 x)) 5 nn) 6 (n32 0)) 7 (n32 0)) 8 nn = F at hR
  generalize hσ1 : z_sA σ (pl n) F = σ1 at hR
  have F1 : zFr a σ σ1 := by rw [← hσ1]; exact zFr_sA _ (by omega) (by omega) _
  have i1 : ∀ q, q ≠ pl n → z_I σ1 q = z_I σ q := fun q hq => by rw [← hσ1]; exact z_I_sAn _ _ _ hq
  have ne : ∀ i, i < n → pl i ≠ pl n := fun i hi he => by have := hP.2 i n (by omega) hn he; omega
  have hA1 : ∀ i, i < n → ad i < 32 ∧ z_I σ1 (pl i) 0 = n32 (ad i) := fun i hi => ⟨(hRA.2.1 i hi).1, by rw [i1 _ (ne i hi)]; exact (hRS i hi).1⟩
  obtain ⟨l, σ2, E, hl, hge, hlt, n1, n2, n3, n4, n5, n6⟩ := c_placeLoop (zLs_fr F1 hL) (zPl_fr F1 hP) hn hA1 hx (by rw [i1 _ (by omega)]; exact hRL.1)
  have adn : ∀ i, i < n → ad i ≠ x := fun i hi he => by
    have := (hRA.2.1 i hi).2
    rw [he] at this
    exact hz this
  have hlt2 : ∀ i, i < l → ad i < x := fun i hi => by
    rcases hlt with h0 | h0
    · omega
    · rcases Nat.lt_or_ge i (l - 1) with h1 | h1
      · have := hRA.2.2.1 i (l - 1) h1 (by omega); omega
      · have : i = l - 1 := by omega
        subst this; exact h0
  have hge2 : ∀ i, l ≤ i → i < n → x < ad i := fun i h1 h2 => by
    have a1 := hge i h1 h2
    have a2 := adn i h2
    omega
  generalize hσ3 : z_pI σ2 a 5 (n32 (n + 1)) = σ3 at E
  have j3 : ∀ q, q ≠ a → z_I σ3 q = z_I σ1 q := fun q hq => by rw [← hσ3, z_pI_eq, z_I_sAn _ _ _ hq, n3]
  have ja : z_I σ3 a = gu (z_I σ a) 5 (n32 (n + 1)) := by rw [← hσ3, z_pI_eq, z_I_sA, n3, i1 _ (by omega)]
  have jp : z_I σ3 (pl n) = F := by rw [j3 _ (by omega), ← hσ1, z_I_sA]
  have jq : ∀ q, q ≠ a → q ≠ pl n → z_I σ3 q = z_I σ q := fun q h1 h2 => by rw [j3 q h1, i1 q h2]
  have jJ : z_J σ3 = z_J σ := by rw [← hσ3]; show z_J σ2 = _; rw [n4, ← hσ1]; rfl
  have jR : ∀ q, q ≠ a + 1 → z_R σ3 q = z_R σ q := fun q hq => by rw [← hσ3]; show z_R σ2 q = _; rw [n5 q hq, ← hσ1]; rfl
  have jR1 : ∀ i, i < 8 → z_R σ3 (a + 1) i = some (s_ins pl l n (pl n) i) := fun i hi => by rw [← hσ3]; show z_R σ2 (a + 1) i = _; exact n6 i hi
  have jsh : z_sh σ3 = z_sh σ := by rw [← hσ3]; show z_sh σ2 = _; rw [n2, ← hσ1]; rfl
  have eob := z_ob_eq jsh
  have ear := z_ar_eq jsh
  have eln := z_ln_eq jsh
  have sn : ∀ {j : Nat}, (j < 18 + 7 * x ∨ 18 + 7 * x + 7 ≤ j) → s_adds g x j = g j := fun h => s_adds_ne g x h
  have hm : sMs g (s_adds g x) := ⟨sn (by omega), fun m w hm hw => sn (by omega)⟩
  have ad32 : ∀ i, i < n → ad i < 32 := fun i hi => (hRA.2.1 i hi).1
  have snA : ∀ i w, i < n → w < 7 → s_adds g x (18 + 7 * ad i + w) = g (18 + 7 * ad i + w) := fun i w hi hw => sn (by have := adn i hi; omega)
  -- the places and addresses of the new row
  have P1 : ∀ i, i < n + 1 → (i = l ∧ s_ins pl l n (pl n) i = pl n ∧ s_ins ad l n x i = x) ∨ ∃ k, k < n ∧ s_ins pl l n (pl n) i = pl k ∧ s_ins ad l n x i = ad k := by
    intro i hi
    rcases Nat.lt_trichotomy i l with c | c | c
    · exact Or.inr ⟨i, by omega, s_ins_lt _ _ c, s_ins_lt _ _ c⟩
    · subst c; exact Or.inl ⟨rfl, s_ins_eq _ _, s_ins_eq _ _⟩
    · exact Or.inr ⟨i - 1, by omega, s_ins_gt _ _ c (by omega), s_ins_gt _ _ c (by omega)⟩
  refine ⟨σ3, s_ins pl l n (pl n), s_ins ad l n x, pl n, ?_, ⟨?_, jsh, fun q hq => ⟨jq q (by omega) (by omega), by rw [jJ], jR q (by omega)⟩⟩, ⟨?_, ⟨fun i hi => ?_, fun i j hi hj he => ?_⟩, ?_, ?_, ?_, ?_, ?_, ?_, ?_, ?_⟩, ?_, l, by omega, s_ins_eq _ _, s_ins_eq _ _⟩
  · have o1 := hL.1
    have r0 := hL.2.1
    have a1 := hL.2.2.2.2.2.2.1
    have l8 := hL.2.2.2.2.2.2.2.1
    have r1 := (hP.1 n hn).1
    simp (disch := omega) only [f_X2_placeStation, ↓zl_eq, ↓zb_eq, ↓zb2_eq, ↓zc_some, ↓zc_none, ↓zb_pre, ↓zb2_pre, ↓zc_pre, ↓zex_eq, ↓reduceIte, Option.isSome_some, Option.isSome_none, Option.getD_some, n32_lit, n32_lt, o1, hRL.1, r0, a1, l8, ofN_n32, n32_ix, n32_toNat, r1, hob, hR, E, Nat.not_lt_zero, if_pos hn]
  · rw [← hσ3]; show z_nx σ2 = _; rw [n1, ← hσ1]; rfl
  · unfold zLs
    rw [eob, ear, eln, jR a (by omega), jR (a + 2) (by omega), jR (a + 3) (by omega), jR (a + 5) (by omega), jR (a + 9) (by omega)]
    exact hL
  · rw [jR1 i hi, s_ins_pi, eob]
    have := hP.1 (s_pi l n i) (s_pi_lt hn hi)
    exact ⟨rfl, this.2.1, this.2.2⟩
  · rw [s_ins_pi, s_ins_pi] at he
    exact s_pi_inj hl (hP.2 _ _ (s_pi_lt hn hi) (s_pi_lt hn hj) he)
  · unfold qL
    rw [ja]
    simp (disch := omega) only [gu_ne, gu_same, sn]
    exact ⟨trivial, hRL.2⟩
  · unfold qW
    rw [jq _ (by omega) (by omega), jq _ (by omega) (by omega)]
    exact hRW
  · exact qM_congr (jq _ (by omega) (by omega)) (jq _ (by omega) (by omega)) hm hRM
  · exact qN_congr (jq _ (by omega) (by omega)) (jq _ (by omega) (by omega)) (jq _ (by omega) (by omega)) (sn (by omega)) (fun k hk => sn (by omega)) hRN
  · exact qC_congr (jq _ (by omega) (by omega)) (by rw [jJ]) (fun j h1 h2 => sn (by omega)) hm hRC
  · refine ⟨by omega, fun i hi => ?_, fun i j hij hj => ?_, fun y hy => ?_⟩
    · rcases P1 i hi with ⟨_, _, e⟩ | ⟨k, hk, _, e⟩
      · rw [e]
        refine ⟨hx, ?_⟩
        unfold s_adds
        simp (disch := omega) only [gu_ne, gu_same]
      · rw [e, snA k 0 hk (by omega)]; exact hRA.2.1 k hk
    · rcases Nat.lt_trichotomy i l with c | c | c
      · rw [s_ins_lt _ _ c]
        rcases Nat.lt_trichotomy j l with d | d | d
        · rw [s_ins_lt _ _ d]; exact hRA.2.2.1 i j hij (by omega)
        · subst d; rw [s_ins_eq]; exact hlt2 i c
        · rw [s_ins_gt _ _ d (by omega)]
          have := hlt2 i c
          have := hge2 (j - 1) (by omega) (by omega)
          omega
      · subst c
        rw [s_ins_eq, s_ins_gt _ _ hij (by omega)]
        exact hge2 (j - 1) (by omega) (by omega)
      · rw [s_ins_gt _ _ c (by omega), s_ins_gt _ _ (by omega) (by omega)]
        exact hRA.2.2.1 (i - 1) (j - 1) (by omega) (by omega)
    · by_cases hyx : y = x
      · subst hyx
        right
        refine ⟨?_, l, by omega, s_ins_eq _ _⟩
        unfold s_adds
        simp (disch := omega) only [gu_ne, gu_same]
      · rw [sn (by omega)]
        rcases hRA.2.2.2 y hy with h0 | ⟨h0, i, hi, hiy⟩
        · exact Or.inl h0
        · right
          refine ⟨h0, ?_⟩
          rcases Nat.lt_or_ge i l with c | c
          · exact ⟨i, by omega, by rw [s_ins_lt _ _ c]; exact hiy⟩
          · exact ⟨i + 1, by omega, by rw [s_ins_gt _ _ (by omega) (by omega)]; exact hiy⟩
  · intro i hi
    rcases P1 i hi with ⟨_, e1, e⟩ | ⟨k, hk, e1, e⟩
    · rw [e, e1, jp, ← hF]
      unfold s_adds
      simp (disch := omega) only [gu_ne, gu_same, and_self]
    · rw [e, e1, jq _ (by have := (hP.1 k (by omega)).2.2; omega) (ne k hk)]
      rw [snA k 1 hk (by omega), snA k 2 hk (by omega), snA k 3 hk (by omega), snA k 4 hk (by omega), snA k 5 hk (by omega), snA k 6 hk (by omega)]
      exact hRS k hk
  · intro i hi
    have c4 : z_I σ3 (a + 4) = z_I σ (a + 4) := jq _ (by omega) (by omega)
    rcases P1 i hi with ⟨_, e1, e⟩ | ⟨k, hk, e1, e⟩
    · obtain ⟨s0, s1⟩ := s_len_none hw hx hz
      rw [e, e1, jp, ← hF, s_len_congr hm, s0]
      refine ⟨?_, ?_, fun j hj => by omega, s_qok_congr hm ⟨fun j hj => by omega, fun i j _ hj => by omega, fun m hm hwm => ?_⟩⟩
      · simp (disch := omega) only [gu_ne, gu_same]
      · simp (disch := omega) only [gu_ne, gu_same, Nat.lt_irrefl, if_false]
      · rw [s1 m hm] at hwm; cases hwm
    · have hp := (hP.1 k (by omega)).2.2
      obtain ⟨h1, h2, h3, h4⟩ := hRQ k hk
      rw [e, e1, jq _ (by omega) (ne k hk), c4, s_len_congr hm]
      exact ⟨h1, h2, h3, s_qok_congr hm h4⟩
  · exact qG_congr (jq _ (by omega) (by omega)) (sn (by omega)) (sn (by omega)) (fun j hj => sn (by omega)) hG
end CLASS
end
section
/-! A MESSAGE IS GIVEN: the queue -/
def s_gives (g : zG) (q : Nat) (x L U : Int32) : zG := gu (gu (gu (gu (gu (gu g (242 + 5 * q + 0) L) (242 + 5 * q + 1) U) (242 + 5 * q + 2) x) (242 + 5 * q + 3) (g 3)) (242 + 5 * q + 4) nn) 5 (n32 (q + 1))
theorem s_gives_ne (g : zG) (q : Nat) (x L U : Int32) {j : Nat} (h5 : j ≠ 5) (h : j < 242 + 5 * q ∨ 242 + 5 * q + 5 ≤ j) : s_gives g q x L U j = g j := by
  unfold s_gives
  simp (disch := omega) only [gu_ne]
theorem s_gives_5 (g : zG) (q : Nat) (x L U : Int32) : s_gives g q x L U 5 = n32 (q + 1) := gu_same _ _ _
theorem s_gives_q (g : zG) (q : Nat) (x L U : Int32) : s_gives g q x L U (242 + 5 * q + 0) = L ∧ s_gives g q x L U (242 + 5 * q + 1) = U ∧ s_gives g q x L U (242 + 5 * q + 2) = x ∧ s_gives g q x L U (242 + 5 * q + 3) = g 3 ∧ s_gives g q x L U (242 + 5 * q + 4) = nn := by
  unfold s_gives
  simp (disch := omega) only [gu_ne, gu_same, and_self]
section GIV
variable {g : zG} {q x : Nat} {L U : Int32}
theorem s_gives_n5 (hq : q < 100) : s_nat (s_gives g q (n32 x) L U) 5 = q + 1 := s_nat_n32 (s_gives_5 _ _ _ _ _) (by omega)
theorem s_gives_row {m w : Nat} (hm : m < q) (hw : w < 5) : s_gives g q (n32 x) L U (242 + 5 * m + w) = g (242 + 5 * m + w) := s_gives_ne _ _ _ _ _ (by omega) (by omega)
theorem s_gives_wt {y : Int32} {m : Nat} (hm : m < q) : s_wt (s_gives g q (n32 x) L U) y m = s_wt g y m := s_wt_congr y (fun w hw => s_gives_row hm hw)
theorem s_gives_wq {y : Int32} : s_wt (s_gives g q (n32 x) L U) y q = decide (n32 x = y) := by
  unfold s_wt
  rw [(s_gives_q g q (n32 x) L U).2.2.1, (s_gives_q g q (n32 x) L U).2.2.2.2, decide_eq_true rfl, Bool.and_true]
theorem s_gives_len (h5 : s_nat g 5 = q) (hq : q < 100) (y : Nat) : s_len (s_gives g q (n32 x) L U) y = s_len g y + (if n32 x = n32 y then 1 else 0) := by
  unfold s_len
  rw [s_gives_n5 hq, h5]
  show s_cnt _ q + (if s_wt _ _ q = true then 1 else 0) = _
  rw [s_gives_wq, s_cnt_congr (P := s_wt g (n32 y)) q (fun m hm => s_gives_wt hm)]
  simp only [decide_eq_true_eq]
theorem s_gives_most (h5 : s_nat g 5 = q) : s_most (s_gives g q (n32 x) L U) (q + 1) = s_most g q := by
  have e : s_most (s_gives g q (n32 x) L U) q = s_most g q := s_most_congr q (fun m hm => s_gives_row hm (by decide))
  have e1 : s_most (s_gives g q (n32 x) L U) (q + 1) = if s_gives g q (n32 x) L U (242 + 5 * q + 4) ≤ s_most (s_gives g q (n32 x) L U) q then s_most (s_gives g q (n32 x) L U) q else s_gives g q (n32 x) L U (242 + 5 * q + 4) := rfl
  rw [e1, e, (s_gives_q g q (n32 x) L U).2.2.2.2]
  have e4 : nn ≤ s_most g q := by
    rw [Int32.le_iff_toInt_le]
    have := s_most_nn g q
    have : nn.toInt = -1 := rfl
    omega
  rw [if_pos e4]
theorem s_gives_sumw : s_sumw (s_gives g q (n32 x) L U) (q + 1) = s_sumw g q := by
  have e : s_sumw (s_gives g q (n32 x) L U) q = s_sumw g q := s_sumw_congr q (fun m hm => s_gives_row hm (by decide))
  have e1 : s_sumw (s_gives g q (n32 x) L U) (q + 1) = s_sumw (s_gives g q (n32 x) L U) q + (if s_gives g q (n32 x) L U (242 + 5 * q + 4) = nn then 0 else (s_gives g q (n32 x) L U (242 + 5 * q + 4)).toInt64) := rfl
  rw [e1, e, (s_gives_q g q (n32 x) L U).2.2.2.2, if_pos rfl, Int64.add_zero]
theorem s_prec_ne {m : Nat} (h : s_prec g m m) : False := by
  rw [s_prec_i] at h
  omega
theorem s_qok_ne {f : Nat → Nat} (hq : s_qok g x f) {i j : Nat} (hi : i < s_len g x) (hj : j < s_len g x) (hij : i ≠ j) : f i ≠ f j := by
  intro he
  rcases Nat.lt_or_ge i j with h | h
  · have := hq.2.1 i j h hj
    rw [he] at this
    exact s_prec_ne this
  · have := hq.2.1 j i (by omega) hi
    rw [he] at this
    exact s_prec_ne this
/-- the queue of another station -/
theorem s_qok_oth (h5 : s_nat g 5 = q) (hq : q < 100) {y : Nat} {f : Nat → Nat} (hne : ¬ n32 x = n32 y) (H : s_qok g y f) : s_len (s_gives g q (n32 x) L U) y = s_len g y ∧ s_qok (s_gives g q (n32 x) L U) y f := by
  have el : s_len (s_gives g q (n32 x) L U) y = s_len g y := by rw [s_gives_len h5 hq, if_neg hne, Nat.add_zero]
  refine ⟨el, fun j hj => ?_, fun i j hij hj => ?_, fun m hm hw => ?_⟩
  · rw [el] at hj
    have := H.1 j hj
    rw [h5] at this
    rw [s_gives_n5 hq, s_gives_wt this.1]
    exact ⟨by omega, this.2⟩
  · rw [el] at hj
    have h1 := (H.1 i (by omega)).1
    have h2 := (H.1 j hj).1
    rw [h5] at h1 h2
    have := H.2.1 i j hij hj
    unfold s_prec at this ⊢
    rw [s_gives_row h1 (by decide), s_gives_row h2 (by decide)]
    exact this
  · rw [s_gives_n5 hq] at hm
    rw [el]
    by_cases hmq : m = q
    · subst hmq
      rw [s_gives_wq, decide_eq_false hne] at hw
      cases hw
    · rw [s_gives_wt (by omega)] at hw
      exact H.2.2 m (by omega) hw
/-- the queue that the message comes into -/
theorem s_qok_ins (h5 : s_nat g 5 = q) (hq : q < 100) {f : Nat → Nat} (H : s_qok g x f) {p : Nat} (hp : p ≤ s_len g x) (h1 : ∀ i, i < p → U ≤ g (242 + 5 * f i + 1)) (h2 : p = s_len g x ∨ g (242 + 5 * f p + 1) < U) : s_len (s_gives g q (n32 x) L U) x = s_len g x + 1 ∧ s_qok (s_gives g q (n32 x) L U) x (s_ins f p (s_len g x) q) := by
  have el : s_len (s_gives g q (n32 x) L U) x = s_len g x + 1 := by rw [s_gives_len h5 hq, if_pos rfl]
  have fl : ∀ j, j < s_len g x → f j < q := fun j hj => by have := (H.1 j hj).1; omega
  have uq := (s_gives_q g q (n32 x) L U).2.1
  have ur : ∀ j, j < s_len g x → s_gives g q (n32 x) L U (242 + 5 * f j + 1) = g (242 + 5 * f j + 1) := fun j hj => s_gives_row (fl j hj) (by decide)
  have old : ∀ i j, i < j → j < s_len g x → s_prec (s_gives g q (n32 x) L U) (f i) (f j) := fun i j hij hj => by
    have := H.2.1 i j hij hj
    unfold s_prec at this ⊢
    rw [ur i (by omega), ur j hj]
    exact this
  refine ⟨el, fun j hj => ?_, fun i j hij hj => ?_, fun m hm hw => ?_⟩
  · rw [el] at hj
    rw [s_gives_n5 hq]
    rcases Nat.lt_trichotomy j p with c | c | c
    · rw [s_ins_lt _ _ c]
      have := fl j (by omega)
      rw [s_gives_wt this]
      exact ⟨by omega, (H.1 j (by omega)).2⟩
    · subst c
      rw [s_ins_eq, s_gives_wq, decide_eq_true rfl]
      exact ⟨by omega, rfl⟩
    · rw [s_ins_gt _ _ c (by omega)]
      have := fl (j - 1) (by omega)
      rw [s_gives_wt this]
      exact ⟨by omega, (H.1 (j - 1) (by omega)).2⟩
  · rw [el] at hj
    rcases Nat.lt_trichotomy i p with c | c | c
    · rw [s_ins_lt _ _ c]
      rcases Nat.lt_trichotomy j p with d | d | d
      · rw [s_ins_lt _ _ d]; exact old i j hij (by omega)
      · subst d
        rw [s_ins_eq]
        unfold s_prec
        rw [uq, ur i (by omega)]
        have a1 := h1 i c
        have a2 := fl i (by omega)
        rw [Int32.le_iff_toInt_le] at a1
        by_cases he : U.toInt = (g (242 + 5 * f i + 1)).toInt
        · exact Or.inr ⟨(Int32.toInt_inj.1 he).symm, a2⟩
        · left; rw [Int32.lt_iff_toInt_lt]; omega
      · rw [s_ins_gt _ _ d (by omega)]; exact old i (j - 1) (by omega) (by omega)
    · subst c
      rw [s_ins_eq, s_ins_gt _ _ hij (by omega)]
      have h3 : g (242 + 5 * f i + 1) < U := by
        rcases h2 with h2 | h2
        · omega
        · exact h2
      left
      rw [uq, ur (j - 1) (by omega), Int32.lt_iff_toInt_lt]
      rw [Int32.lt_iff_toInt_lt] at h3
      by_cases hji : j - 1 = i
      · rw [hji]; exact h3
      · have := H.2.1 i (j - 1) (by omega) (by omega)
        rw [s_prec_i] at this
        omega
    · rw [s_ins_gt _ _ c (by omega), s_ins_gt _ _ (by omega) (by omega)]
      exact old (i - 1) (j - 1) (by omega) (by omega)
  · rw [s_gives_n5 hq] at hm
    rw [el]
    by_cases hmq : m = q
    · subst hmq
      exact ⟨p, by omega, s_ins_eq _ _⟩
    · rw [s_gives_wt (by omega)] at hw
      obtain ⟨j, hj, hjm⟩ := H.2.2 m (by omega) hw
      rcases Nat.lt_or_ge j p with c | c
      · exact ⟨j, by omega, by rw [s_ins_lt _ _ c]; exact hjm⟩
      · exact ⟨j + 1, by omega, by rw [s_ins_gt _ _ (by omega) (by omega)]; exact hjm⟩
end GIV
/-! the chain in the class -/
section CLASS
variable {σ : zSt} {a : Nat}
/-- what stands before and behind place k of a chain -/
def s_bef (f : Nat → Nat) (k : Nat) : Int32 := if k = 0 then nn else n32 (f (k - 1))
def s_fol (f : Nat → Nat) (len k : Nat) : Int32 := if k < len then n32 (f k) else nn
def s_C4 (T : zG) (f : Nat → Nat) (len q k : Nat) : zG := if k = 0 then gu T (6 * q + 5) (s_fol f len k) else gu (gu T (6 * q + 5) (s_fol f len k)) (6 * f (k - 1) + 5) (n32 q)
def s_S6 (S : zG) (len q k : Nat) : zG := if k = 0 then gu (gu S 5 (n32 q)) 6 (n32 (len + 1)) else gu S 6 (n32 (len + 1))
theorem c_enq56 (hL : zLs σ a) (hw : z_I σ (a + 3) 0 = n32 6) {p q len k : Nat} {f : Nat → Nat} (hp : z_ob σ p 6 = true) (hpa : a + 11 ≤ p) (hq : q < 100) (hf : ∀ j, j < len → f j < 100) (hk : k ≤ len) (h6 : z_I σ p 6 = n32 len) :
    f_X3_enqueue_56 σ (a + 2) p (n32 q) (s_bef f k) (s_fol f len k) = some (z_sA (z_sA σ (a + 4) (s_C4 (z_I σ (a + 4)) f len q k)) p (s_S6 (z_I σ p) len q k)) := by
  have o2 := hL.2.2.2.2.2.2.2.2.1
  have r2 := hL.2.2.2.2.2.2.2.2.2.1
  have o3 := hL.2.2.2.2.2.2.2.2.2.2.1
  have P1 := c_put hL hw hq (show 5 < 6 by decide) (s_fol f len k)
  unfold s_bef s_C4 s_S6
  by_cases hk0 : k = 0
  · subst hk0
    simp (disch := omega) only [f_X3_enqueue_56, f_X3_enqueue_92, ↓zl_eq, ↓zb_eq, ↓zb2_eq, ↓zc_some, ↓zc_none, ↓zb_pre, ↓zb2_pre, ↓zc_pre, ↓zex_eq, ↓reduceIte, Option.isSome_some, Option.isSome_none, Option.getD_some, n32_lit, n32_nn2, o2, r2, o3, P1, z_ob_sA, z_R_sA, hp, z_pI_eq, z_I_sA, z_I_sAn, z_sA_sA, gu_ne, h6, n32_add]
  · have hb := hf (k - 1) (by omega)
    have nb : (n32 (f (k - 1)) = nn) = False := eq_false (by rw [n32_ne (by omega)]; exact not_false)
    have P2 := c_put (σ := z_sA σ (a + 4) (gu (z_I σ (a + 4)) (6 * q + 5) (s_fol f len k))) hL (by rw [z_I_sAn _ _ _ (by omega)]; exact hw) hb (show 5 < 6 by decide) (n32 q)
    rw [z_I_sA, z_sA_sA] at P2
    simp (disch := omega) only [f_X3_enqueue_56, f_X3_enqueue_92, ↓zl_eq, ↓zb_eq, ↓zb2_eq, ↓zc_some, ↓zc_none, ↓zb_pre, ↓zb2_pre, ↓zc_pre, ↓zex_eq, ↓reduceIte, Option.isSome_some, Option.isSome_none, Option.getD_some, n32_lit, n32_nn2, o2, r2, o3, P1, P2, z_ob_sA, z_R_sA, hp, z_pI_eq, z_I_sA, z_I_sAn, z_sA_sA, gu_ne, h6, n32_add, if_neg hk0, nb]
theorem c_enqueue (hL : zLs σ a) (hw : z_I σ (a + 3) 0 = n32 6) {p q len : Nat} {f : Nat → Nat} {u : Nat → Int32} {U : Int32} (hp : z_ob σ p 6 = true) (hpa : a + 11 ≤ p) (hq : q < 100) (hln : len ≤ 100) (hf : ∀ j, j < len → f j < 100) (h6 : z_I σ p 6 = n32 len) (h5 : z_I σ p 5 = if 0 < len then n32 (f 0) else nn)
    (hfo : ∀ j, j < len → z_I σ (a + 4) (6 * f j + 5) = if j + 1 < len then n32 (f (j + 1)) else nn) (hu : ∀ j, j < len → z_I σ (a + 4) (6 * f j + 1) = u j) :
    ∃ k, k ≤ len ∧ (∀ i, i < k → U ≤ u i) ∧ (k = len ∨ u k < U) ∧ f_X3_enqueue σ (a + 2) p (n32 q) U = some (z_sA (z_sA σ (a + 4) (s_C4 (z_I σ (a + 4)) f len q k)) p (s_S6 (z_I σ p) len q k)) := by
  have o2 := hL.2.2.2.2.2.2.2.2.1
  have r2 := hL.2.2.2.2.2.2.2.2.2.1
  have o3 := hL.2.2.2.2.2.2.2.2.2.2.1
  obtain ⟨r, hr, hr2⟩ := zloop_inv (N := zN) (s := (nn, s_fol f len 0, n32 0)) (body := fun (t : Int32 × Int32 × Int32) => b_X3_enqueue_12 σ (a + 2) p (n32 q) U t.1 t.2.1 t.2.2)
    (Inv := fun k s => s = (s_bef f k, s_fol f len k, n32 k) ∧ ∀ i, i < k → U ≤ u i)
    (Post := fun r => ∃ k, k ≤ len ∧ (∀ i, i < k → U ≤ u i) ∧ (k = len ∨ u k < U) ∧ r = z_sA (z_sA σ (a + 4) (s_C4 (z_I σ (a + 4)) f len q k)) p (s_S6 (z_I σ p) len q k)) len (fun k s hk hi => by
      obtain ⟨rfl, hi⟩ := hi
      have E := c_enq56 hL hw hp hpa hq hf hk h6
      by_cases hkl : k = len
      · subst hkl
        refine Or.inl ⟨_, ?_, k, Nat.le_refl _, hi, Or.inl rfl, rfl⟩
        show b_X3_enqueue_12 σ (a + 2) p (n32 q) U (s_bef f k) (s_fol f k k) (n32 k) = _
        simp (disch := omega) only [b_X3_enqueue_12, ↓zl_eq, ↓zb_eq, ↓zb2_eq, ↓zc_some, ↓zc_none, ↓zb_pre, ↓zb2_pre, ↓zc_pre, ↓zex_eq, ↓reduceIte, Option.isSome_some, Option.isSome_none, Option.getD_some, hp, h6, n32_le, Nat.le_refl, E]
      · have hk2 : k < len := by omega
        have ef : s_fol f len k = n32 (f k) := if_pos hk2
        have A := c_at hL hw (hf k hk2) (show 1 < 6 by decide)
        rw [hu k hk2] at A
        have Fo := c_follower hL hw (hf k hk2)
        rw [hfo k hk2] at Fo
        have T : b_X3_enqueue_12 σ (a + 2) p (n32 q) U (s_bef f k) (s_fol f len k) (n32 k) = if U ≤ u k then some (.inl (s_bef f (k + 1), s_fol f len (k + 1), n32 (k + 1))) else some (.inr (z_sA (z_sA σ (a + 4) (s_C4 (z_I σ (a + 4)) f len q k)) p (s_S6 (z_I σ p) len q k))) := by
          have e1 : s_bef f (k + 1) = n32 (f k) := by unfold s_bef; rw [if_neg (by omega)]; rfl
          have e2 : s_fol f len (k + 1) = if k + 1 < len then n32 (f (k + 1)) else nn := rfl
          rw [e1, e2]
          simp (disch := omega) only [b_X3_enqueue_12, ↓zl_eq, ↓zb_eq, ↓zb2_eq, ↓zc_some, ↓zc_none, ↓zb_pre, ↓zb2_pre, ↓zc_pre, ↓zex_eq, ↓reduceIte, Option.isSome_some, Option.isSome_none, Option.getD_some, n32_lit, hp, h6, n32_le, E, o2, r2, o3]
          rw [if_neg (by omega), ef]
          simp (disch := omega) only [↓zl_eq, ↓zb_eq, ↓zb2_eq, ↓zc_some, ↓zc_none, ↓zb_pre, ↓zb2_pre, ↓zc_pre, ↓zex_eq, ↓reduceIte, Option.isSome_some, Option.isSome_none, Option.getD_some, A, Fo, n32_add]
        by_cases hU : U ≤ u k
        · rw [if_pos hU] at T
          refine Or.inr ⟨hk2, _, T, rfl, fun i hi2 => ?_⟩
          by_cases hik : i = k
          · rw [hik]; exact hU
          · exact hi i (by omega)
        · rw [if_neg hU] at T
          exact Or.inl ⟨_, T, k, hk, hi, Or.inr (by rw [Int32.not_le] at hU; exact hU), rfl⟩) (by unfold zN; omega)
    ⟨rfl, fun i hi => by omega⟩
  obtain ⟨k, k1, k2, k3, k4⟩ := hr2
  refine ⟨k, k1, k2, k3, ?_⟩
  rw [← k4, ← hr]
  have e0 : z_I σ p 5 = s_fol f len 0 := h5
  simp only [f_X3_enqueue, f_X3_enqueue_12, ↓zl_eq, ↓zb_eq, ↓zb2_eq, ↓zc_some, ↓zc_none, ↓zb_pre, ↓zb2_pre, ↓zc_pre, ↓zex_eq, ↓reduceIte, Option.isSome_some, Option.isSome_none, Option.getD_some, n32_lit, n32_nn2, hp, e0]
end CLASS
end
section
/-- the queues behind a giving -/
def s_qi (qu : Nat → Nat → Nat) (x p len q : Nat) : Nat → Nat → Nat := fun y => if y = x then s_ins (qu x) p len q else qu y
section CLASS
variable {σ : zSt} {a n : Nat} {pl ad : Nat → Nat} {qu : Nat → Nat → Nat} {g : zG}
/-- A MESSAGE IS GIVEN: the line is the array with the message -/
theorem c_add (h : zC0 σ a pl ad qu n g) (hG : qG σ a g) {q : Nat} (h5 : g 5 = n32 q) (hq : q < 100) (h6' : s_nat g 6 ≤ 20) {i : Nat} (hi : i < n) (L U : Int32) :
    ∃ σ' qu', f_X3_add σ (a + 2) (pl i) L U (g 3) = some (n32 q, σ') ∧ zFr a σ σ' ∧ zC0 σ' a pl ad qu' n (s_gives g q (n32 (ad i)) L U) ∧ qG σ' a (s_gives g q (n32 (ad i)) L U) := by
  have nq : s_nat g 5 = q := s_nat_n32 h5 (by omega)
  have hn8 := c_n8 h
  obtain ⟨hL, hP, hRL, hRW, hRM, hRN, hRC, hRA, hRS, hRQ⟩ := h
  have hai := (hRA.2.1 i hi).1
  have hob := (hP.1 i (by omega)).2.1
  have hpi := (hP.1 i (by omega)).2.2
  have o2 := hL.2.2.2.2.2.2.2.2.1
  have r2 := hL.2.2.2.2.2.2.2.2.2.1
  have o3 := hL.2.2.2.2.2.2.2.2.2.2.1
  have e1 : z_I σ (a + 2) 1 = n32 q := hRM.1.trans h5
  obtain ⟨Q6, Q5, Q3, QK⟩ := hRQ i hi
  have hlen : s_len g (ad i) ≤ q := by rw [← nq]; exact s_len_le g (ad i)
  generalize hlendef : s_len g (ad i) = len at *
  have fl : ∀ j, j < len → qu (ad i) j < q := fun j hj => by
    have := (QK.1 j (by omega)).1; omega
  generalize hσ0 : z_sA σ (a + 2) (gu (z_I σ (a + 2)) 1 (n32 (q + 1))) = σ0
  have F0 : zFr a σ σ0 := by rw [← hσ0]; exact zFr_sA _ (by omega) (by omega) _
  have q0 : ∀ c, c ≠ a + 2 → z_I σ0 c = z_I σ c := fun c hc => by rw [← hσ0]; exact z_I_sAn _ _ _ hc
  have W0 : z_I σ0 (a + 3) 0 = n32 6 := by rw [q0 _ (by omega)]; exact hRW.1
  have hL0 : zLs σ0 a := zLs_fr F0 hL
  have P : ∀ (G : zG) (w : Nat) (v : Int32), w < 6 → f_X7_put (z_sA σ0 (a + 4) G) (a + 3) (n32 q) (n32 w) v = some (z_sA σ0 (a + 4) (gu G (6 * q + w) v)) := fun G w v hw => by
    have := c_put (σ := z_sA σ0 (a + 4) G) (show zLs (z_sA σ0 (a + 4) G) a from hL0) (by rw [z_I_sAn _ _ _ (by omega)]; exact W0) hq hw v
    rw [z_I_sA, z_sA_sA] at this
    exact this
  have P0 := P (z_I σ (a + 4)) 0 L (by decide)
  generalize hT : gu (gu (gu (gu (gu (z_I σ (a + 4)) (6 * q + 0) L) (6 * q + 1) U) (6 * q + 2) (n32 (ad i))) (6 * q + 3) (g 3)) (6 * q + 4) nn = T
  generalize hσ1 : z_sA σ0 (a + 4) T = σ1
  have F1 : zFr a σ σ1 := by rw [← hσ1]; exact zFr_t F0 (zFr_sA _ (by omega) (by omega) _)
  have q1 : ∀ c, c ≠ a + 2 → c ≠ a + 4 → z_I σ1 c = z_I σ c := fun c h1 h2 => by rw [← hσ1, z_I_sAn _ _ _ h2]; exact q0 c h1
  have q14 : z_I σ1 (a + 4) = T := by rw [← hσ1, z_I_sA]
  have Told : ∀ m w, m < q → w < 6 → T (6 * m + w) = z_I σ (a + 4) (6 * m + w) := fun m w hm hw => by
    rw [← hT]
    simp (disch := omega) only [gu_ne]
  obtain ⟨k, k1, k2, k3, k4⟩ := c_enqueue (σ := σ1) (a := a) (p := pl i) (q := q) (len := len) (f := qu (ad i)) (u := fun j => g (242 + 5 * qu (ad i) j + 1)) (U := U) (zLs_fr F1 hL) (by rw [q1 _ (by omega) (by omega)]; exact hRW.1) (by rw [z_ob_eq F1.2.1]; exact hob) hpi.1 hq (by omega) (fun j hj => by have := fl j hj; omega) (by rw [q1 _ (by omega) (by omega)]; exact Q6) (by rw [q1 _ (by omega) (by omega)]; exact Q5)
    (fun j hj => by rw [q14, Told _ 5 (fl j hj) (by decide)]; exact Q3 j hj) (fun j hj => by rw [q14, Told _ 1 (fl j hj) (by decide)]; exact hRM.2 _ 1 (by rw [nq]; exact fl j hj) (by decide))
  rw [q14, q1 (pl i) (by omega) (by omega)] at k4
  generalize hC : s_C4 T (qu (ad i)) len q k = C at k4
  generalize hS : s_S6 (z_I σ (pl i)) len q k = S at k4
  have Cold : ∀ m w, m < 100 → w < 5 → C (6 * m + w) = T (6 * m + w) := fun m w hm hw => by
    rw [← hC]; unfold s_C4
    split
    · rw [gu_ne _ _ (by omega)]
    · rw [gu_ne _ _ (by omega), gu_ne _ _ (by omega)]
  have C5old : ∀ m, m ≠ q → (k = 0 ∨ m ≠ qu (ad i) (k - 1)) → C (6 * m + 5) = T (6 * m + 5) := fun m hm hmk => by
    rw [← hC]; unfold s_C4
    split
    · rw [gu_ne _ _ (by omega)]
    · rw [gu_ne _ _ (by omega), gu_ne _ _ (by omega)]
  have C5q : C (6 * q + 5) = s_fol (qu (ad i)) len k := by
    rw [← hC]; unfold s_C4
    split
    · rw [gu_same]
    · have := fl (k - 1) (by omega)
      rw [gu_ne _ _ (by omega), gu_same]
  have C5k : k ≠ 0 → C (6 * qu (ad i) (k - 1) + 5) = n32 q := fun hk => by
    rw [← hC]; unfold s_C4
    rw [if_neg hk, gu_same]
  have Sold : ∀ j, j ≠ 5 → j ≠ 6 → S j = z_I σ (pl i) j := fun j h1 h2 => by
    rw [← hS]; unfold s_S6
    split
    · rw [gu_ne _ _ h2, gu_ne _ _ h1]
    · rw [gu_ne _ _ h2]
  have S6 : S 6 = n32 (len + 1) := by
    rw [← hS]; unfold s_S6
    split <;> rw [gu_same]
  have S5 : S 5 = if k = 0 then n32 q else z_I σ (pl i) 5 := by
    rw [← hS]; unfold s_S6
    split
    · rw [gu_ne _ _ (by decide), gu_same]
    · rw [gu_ne _ _ (by decide)]
  generalize hσ3 : z_sA (z_sA σ1 (a + 4) C) (pl i) S = σ3 at k4
  have F3 : zFr a σ σ3 := by rw [← hσ3]; exact zFr_t F1 (zFr_t (zFr_sA _ (by omega) (by omega) _) (zFr_sA _ (by omega) (by omega) _))
  have j3 : ∀ c, c ≠ a + 2 → c ≠ a + 4 → c ≠ pl i → z_I σ3 c = z_I σ c := fun c h1 h2 h3 => by rw [← hσ3, z_I_sAn _ _ _ h3, z_I_sAn _ _ _ h2]; exact q1 c h1 h2
  have j34 : z_I σ3 (a + 4) = C := by rw [← hσ3, z_I_sAn _ _ _ (by omega), z_I_sA]
  have j3p : z_I σ3 (pl i) = S := by rw [← hσ3, z_I_sA]
  have j32 : z_I σ3 (a + 2) = gu (z_I σ (a + 2)) 1 (n32 (q + 1)) := by rw [← hσ3, z_I_sAn _ _ _ (by omega), z_I_sAn _ _ _ (by omega), ← hσ1, z_I_sAn _ _ _ (by omega), ← hσ0, z_I_sA]
  have jJ : z_J σ3 = z_J σ := by rw [← hσ3, ← hσ1, ← hσ0]; rfl
  have sn : ∀ {j : Nat}, j ≠ 5 → (j < 242 + 5 * q ∨ 242 + 5 * q + 5 ≤ j) → s_gives g q (n32 (ad i)) L U j = g j := fun a b => s_gives_ne _ _ _ _ _ a b
  obtain ⟨g0, g1, g2, g3, g4⟩ := s_gives_q g q (n32 (ad i)) L U
  have g5 := s_gives_5 g q (n32 (ad i)) L U
  have n5 := s_gives_n5 (g := g) (x := ad i) (L := L) (U := U) hq
  have pne : ∀ j, j < n → j ≠ i → pl j ≠ pl i := fun j hj hji he => hji (hP.2 j i (by omega) (by omega) he)
  refine ⟨σ3, s_qi qu (ad i) k len q, ?_, F3, ⟨zLs_fr F3 hL, zPl_fr F3 hP, ?_, ?_, ?_, ?_, ?_, ?_, ?_, ?_⟩, ?_⟩
  · have e0 : z_pI σ (a + 2) 1 (n32 (q + 1)) = z_sA σ0 (a + 4) (z_I σ (a + 4)) := by
      rw [z_pI_eq, hσ0, ← q0 _ (show a + 4 ≠ a + 2 by omega), z_sA_id]
    have eR : z_R σ0 = z_R σ := by rw [← hσ0]; rfl
    have eO : z_ob σ0 = z_ob σ := by rw [← hσ0]; rfl
    have eO1 : z_ob σ1 = z_ob σ := by rw [← hσ1, ← hσ0]; rfl
    have e20 : ∀ G, z_I (z_sA σ0 (a + 4) G) (pl i) 0 = n32 (ad i) := fun G => by
      rw [z_I_sAn _ _ _ (by omega), q0 _ (by omega)]; exact (hRS i hi).1
    have Q0 := P (z_I σ (a + 4)) 0 L (by decide)
    have Q1 := P (gu (z_I σ (a + 4)) (6 * q + 0) L) 1 U (by decide)
    have Q2 := P (gu (gu (z_I σ (a + 4)) (6 * q + 0) L) (6 * q + 1) U) 2 (n32 (ad i)) (by decide)
    have Q3 := P (gu (gu (gu (z_I σ (a + 4)) (6 * q + 0) L) (6 * q + 1) U) (6 * q + 2) (n32 (ad i))) 3 (g 3) (by decide)
    have Q4 := P (gu (gu (gu (gu (z_I σ (a + 4)) (6 * q + 0) L) (6 * q + 1) U) (6 * q + 2) (n32 (ad i))) (6 * q + 3) (g 3)) 4 nn (by decide)
    simp only [f_X3_add, ↓zl_eq, ↓zb_eq, ↓zb2_eq, ↓zc_some, ↓zc_none, ↓zb_pre, ↓zb2_pre, ↓zc_pre, ↓zex_eq, ↓reduceIte, Option.isSome_some, Option.isSome_none, Option.getD_some, n32_lit, n32_nn2, o2, e1, n32_add, e0, z_ob_sA, z_R_sA, eR, eO, r2, o3, Q0, Q1, hob, e20, Q2, Q3, Q4, hT, hσ1, eO1, k4]
  · unfold qL
    rw [j3 _ (by omega) (by omega) (by omega)]
    simp (disch := omega) only [sn]
    exact hRL
  · unfold qW
    rw [j3 _ (by omega) (by omega) (by omega), j3 _ (by omega) (by omega) (by omega)]
    exact hRW
  · refine ⟨by rw [j32, gu_same, g5], fun m w hm hw => ?_⟩
    rw [n5] at hm
    rw [j34, Cold m w (by omega) hw]
    by_cases hmq : m = q
    · subst hmq
      rw [← hT]
      rcases (show w = 0 ∨ w = 1 ∨ w = 2 ∨ w = 3 ∨ w = 4 by omega) with rfl | rfl | rfl | rfl | rfl
      · rw [g0]; simp (disch := omega) only [gu_ne, gu_same]
      · rw [g1]; simp (disch := omega) only [gu_ne, gu_same]
      · rw [g2]; simp (disch := omega) only [gu_ne, gu_same]
      · rw [g3]; simp (disch := omega) only [gu_ne, gu_same]
      · rw [g4]; simp (disch := omega) only [gu_ne, gu_same]
    · rw [Told m w (by omega) (by omega), sn (by omega) (by omega)]
      exact hRM.2 m w (by omega) hw
  · exact qN_congr (j3 _ (by omega) (by omega) (by omega)) (j3 _ (by omega) (by omega) (by omega)) (j3 _ (by omega) (by omega) (by omega)) (sn (by omega) (by omega)) (fun k hk => sn (by omega) (by omega)) hRN
  · obtain ⟨c1, c2, c3, c4⟩ := hRC
    rw [nq] at c3 c4
    refine ⟨fun j hj => ?_, ?_, ?_, ?_⟩
    · rw [j3 _ (by omega) (by omega) (by omega), sn (by omega) (by omega)]; exact c1 j hj
    · rw [j3 _ (by omega) (by omega) (by omega), sn (by omega) (by omega)]; exact c2
    · rw [j3 _ (by omega) (by omega) (by omega), n5, s_gives_most nq]; exact c3
    · rw [jJ, n5, s_gives_sumw]; exact c4
  · exact qA_congr (fun x hx => sn (by omega) (by omega)) hRA
  · intro j hj
    have h32 := (hRA.2.1 j hj).1
    have hpj := (hP.1 j (by omega)).2.2
    have ee : ∀ w, w ≠ 5 → w ≠ 6 → z_I σ3 (pl j) w = z_I σ (pl j) w := fun w h1 h2 => by
      by_cases hji : j = i
      · subst hji; rw [j3p]; exact Sold w h1 h2
      · rw [j3 _ (by omega) (by omega) (pne j hj hji)]
    rw [ee 0 (by decide) (by decide), ee 1 (by decide) (by decide), ee 2 (by decide) (by decide), ee 3 (by decide) (by decide), ee 4 (by decide) (by decide), ee 7 (by decide) (by decide), ee 8 (by decide) (by decide)]
    simp (disch := omega) only [sn]
    exact hRS j hj
  · intro j hj
    have h32 := (hRA.2.1 j hj).1
    have hpj := (hP.1 j (by omega)).2.2
    by_cases hji : j = i
    · subst hji
      have QI := s_qok_ins (g := g) (x := ad j) (L := L) nq hq QK (p := k) (by omega) k2 (by rw [hlendef]; exact k3)
      rw [hlendef] at QI
      have eq : s_qi qu (ad j) k len q (ad j) = s_ins (qu (ad j)) k len q := if_pos rfl
      rw [j3p, j34, eq, QI.1]
      refine ⟨S6, ?_, fun t ht => ?_, QI.2⟩
      · rw [S5, if_pos (show 0 < len + 1 by omega)]
        by_cases hk0 : k = 0
        · subst hk0; rw [if_pos rfl, s_ins_eq]
        · rw [if_neg hk0, Q5, if_pos (by omega), s_ins_lt _ _ (by omega)]
      · rcases Nat.lt_trichotomy t k with c | c | c
        · rw [s_ins_lt _ _ c, if_pos (by omega)]
          by_cases htk : t = k - 1
          · have : k = t + 1 := by omega
            have e9 := C5k (by omega)
            rw [← htk] at e9
            rw [e9, ← this, s_ins_eq]
          · rw [s_ins_lt _ _ (by omega), C5old _ (by have := fl t (by omega); omega) (Or.inr (s_qok_ne QK (by omega) (by omega) htk)), Told _ 5 (fl t (by omega)) (by decide), Q3 t (by omega), if_pos (by omega)]
        · subst c
          rw [s_ins_eq, C5q]
          unfold s_fol
          by_cases hl : t < len
          · rw [if_pos hl, if_pos (by omega), s_ins_gt _ _ (by omega) (by omega)]; rfl
          · rw [if_neg hl, if_neg (by omega)]
        · rw [s_ins_gt _ _ c (by omega), C5old _ (by have := fl (t - 1) (by omega); omega) (by
            by_cases hk0 : k = 0
            · exact Or.inl hk0
            · exact Or.inr (s_qok_ne QK (by omega) (by omega) (by omega))), Told _ 5 (fl (t - 1) (by omega)) (by decide), Q3 (t - 1) (by omega)]
          by_cases hl : t < len
          · rw [if_pos (by omega), if_pos (by omega), s_ins_gt _ _ (by omega) (by omega)]
            congr 2
            omega
          · rw [if_neg (by omega), if_neg (by omega)]
    · have hne : ad j ≠ ad i := by
        rcases Nat.lt_or_ge j i with hlt | hge
        · have := hRA.2.2.1 j i hlt hi; omega
        · have := hRA.2.2.1 i j (by omega) hj; omega
      have hne2 : ¬ n32 (ad i) = n32 (ad j) := by rw [n32_eq (by omega) (by omega)]; omega
      obtain ⟨R6, R5, R3, RK⟩ := hRQ j hj
      have QO := s_qok_oth (g := g) (x := ad i) (L := L) (U := U) nq hq (y := ad j) hne2 RK
      have eq : s_qi qu (ad i) k len q (ad j) = qu (ad j) := if_neg hne
      rw [j3 _ (by omega) (by omega) (pne j hj hji), j34, eq, QO.1]
      refine ⟨R6, R5, fun t ht => ?_, QO.2⟩
      have ft := RK.1 t ht
      rw [nq] at ft
      rw [C5old _ (by omega) (by
        by_cases hk0 : k = 0
        · exact Or.inl hk0
        · right
          intro he
          have f2 := (QK.1 (k - 1) (by omega)).2
          rw [← he] at f2
          have f1 := ft.2
          unfold s_wt at f1 f2
          simp only [Bool.and_eq_true, decide_eq_true_eq] at f1 f2
          rw [f1.1] at f2
          exact hne2 f2.1.symm), Told _ 5 ft.1 (by decide)]
      exact R3 t ht
  · exact qG_congr (j3 _ (by omega) (by omega) (by omega)) (sn (by omega) (by omega)) (sn (by omega) (by omega)) (fun j hj => sn (by omega) (by omega)) hG
end CLASS
end
section
/-! WHAT IS SAID AT REST stays behind the calls -/
section REST
variable {g g' : zG} {B V : Nat}
theorem s_I_mk (H : s_I g B V) (h3 : g' 3 = g 3) (h5 : g' 5 = g 5) (h6 : ∃ z, z ≤ 20 ∧ g' 6 = n32 z) (h2 : ∃ gg, 1 ≤ gg ∧ gg ≤ 20 ∧ g' 2 = n32 gg) (h1 : ∃ s, s ≤ 20 ∧ g' 1 = n32 s) (h7 : g' 7 = g 7) (h9 : g' 9 = g 9) (h10 : g' 10 = g 10) (hm : ∀ m w, m < s_nat g 5 → w < 5 → g' (242 + 5 * m + w) = g (242 + 5 * m + w)) (hst : s_sta g') (hol : s_hol g') (hon : s_hon g') (hz : ∀ x, x < 32 → g (18 + 7 * x + 0) = n32 1 → g' (18 + 7 * x + 0) = n32 1) : s_I g' B V := by
  obtain ⟨⟨⟨a5, a52, _, _, hmo, hb, _, mv, hmv, a9, a7⟩, _, _, hB, hV⟩, _, hd, hw⟩ := H
  have n5 : s_nat g' 5 = s_nat g 5 := by unfold s_nat; rw [h5]
  have n3 : s_nat g' 3 = s_nat g 3 := by unfold s_nat; rw [h3]
  have n9 : s_nat g' 9 = s_nat g 9 := by unfold s_nat; rw [h9]
  refine ⟨⟨⟨by rw [n5]; exact a5, by rw [n5, h5]; exact a52, h6, h2, s_mo_t (d := 0) hmo (by rw [h3]; exact hmo.1) (by omega) h5 (fun m hm' => ⟨hm m 0 hm' (by decide), hm m 3 hm' (by decide)⟩), by rw [n3]; exact hb, hst, mv, hmv, by rw [h9]; exact a9, by rw [h7]; exact a7⟩, h1, hol, by rw [n3]; exact hB, by rw [n9]; exact hV⟩, hon, s_ds_congr h10 h5 (fun m hm' => hm m 4 hm' (by decide)) hd, ?_⟩
  intro m hm'
  rw [n5] at hm'
  obtain ⟨y, hy, e1, e2⟩ := hw m hm'
  exact ⟨y, hy, by rw [hm m 2 hm' (by decide)]; exact e1, hz y hy e2⟩
theorem s_I_1 (H : s_I g B V) : ∃ s, s ≤ 20 ∧ g 1 = n32 s := H.1.2.1
theorem s_I_2 (H : s_I g B V) : ∃ gg, 1 ≤ gg ∧ gg ≤ 20 ∧ g 2 = n32 gg := H.1.1.2.2.2.1
theorem s_I_6 (H : s_I g B V) : ∃ z, z ≤ 20 ∧ g 6 = n32 z := H.1.1.2.2.1
theorem s_I_sta (H : s_I g B V) : s_sta g := H.1.1.2.2.2.2.2.2.1
theorem s_I_hol (H : s_I g B V) : s_hol g := H.1.2.2.1
theorem s_I_hon (H : s_I g B V) : s_hon g := H.2.1
theorem s_I_num (H : s_I g B V) : s_num g := H.1.1
theorem s_I_5 (H : s_I g B V) : s_nat g 5 ≤ 100 ∧ g 5 = n32 (s_nat g 5) := ⟨H.1.1.1, H.1.1.2.1⟩
theorem s_I_sw (H : s_I g B V) {x : Nat} (hx : x < 32) (hz : g (18 + 7 * x + 0) = n32 1) (on : Bool) : s_I (s_sw g x on) B V := by
  have st := s_I_sta H
  have sx := st x hx hz
  have h4n : ∀ y, y < 32 → g 4 = n32 y → ¬ g 4 = n32 x → y ≠ x := fun y hy he hn hyx => hn (by rw [← hyx]; exact he)
  unfold s_sw
  cases on with
  | true =>
    rw [if_pos rfl]
    refine s_I_mk H (gu_ne _ _ (by omega)) (gu_ne _ _ (by omega)) (by rw [gu_ne _ _ (by omega)]; exact s_I_6 H) (by rw [gu_ne _ _ (by omega)]; exact s_I_2 H) (by rw [gu_ne _ _ (by omega)]; exact s_I_1 H) (gu_ne _ _ (by omega)) (gu_ne _ _ (by omega)) (gu_ne _ _ (by omega)) (fun m w _ _ => gu_ne _ _ (by omega)) (fun y hy h0 => ?_) ?_ ?_ (fun y hy h0 => by rw [gu_ne _ _ (by omega)]; exact h0)
    · rw [gu_ne _ _ (by omega)] at h0
      have := st y hy h0
      by_cases hyx : y = x
      · subst hyx
        simp (disch := omega) only [gu_ne, gu_same]
        exact ⟨Or.inr trivial, this.2.1, fun _ => trivial, this.2.2.2⟩
      · simp (disch := omega) only [gu_ne]
        exact this
    · rcases s_I_hol H with h | ⟨y, hy, h1, h2⟩
      · exact Or.inl (by rw [gu_ne _ _ (by omega)]; exact h)
      · exact Or.inr ⟨y, hy, by rw [gu_ne _ _ (by omega)]; exact h1, by rw [gu_ne _ _ (by omega)]; exact h2⟩
    · rcases s_I_hon H with h | ⟨y, hy, h1, h2⟩
      · exact Or.inl (by rw [gu_ne _ _ (by omega)]; exact h)
      · refine Or.inr ⟨y, hy, by rw [gu_ne _ _ (by omega)]; exact h1, ?_⟩
        by_cases hyx : y = x
        · subst hyx; rw [gu_same]
        · rw [gu_ne _ _ (by omega)]; exact h2
  | false =>
    have sta2 : s_sta (gu (gu g (18 + 7 * x + 1) (n32 0)) (18 + 7 * x + 2) (n32 0)) := by
      intro y hy h0
      rw [gu_ne _ _ (by omega), gu_ne _ _ (by omega)] at h0
      have := st y hy h0
      by_cases hyx : y = x
      · subst hyx
        simp (disch := omega) only [gu_ne, gu_same]
        exact ⟨Or.inl trivial, Or.inl trivial, fun he => absurd he (by decide), this.2.2.2⟩
      · simp (disch := omega) only [gu_ne]
        exact this
    by_cases h4 : g 4 = n32 x
    · rw [if_neg (by decide), if_pos h4]
      have nn' : ∀ {j : Nat}, j ≠ 4 → j ≠ 18 + 7 * x + 2 → j ≠ 18 + 7 * x + 1 → gu (gu (gu g (18 + 7 * x + 1) (n32 0)) (18 + 7 * x + 2) (n32 0)) 4 nn j = g j := fun a b c => by rw [gu_ne _ _ a, gu_ne _ _ b, gu_ne _ _ c]
      exact s_I_mk H (nn' (by omega) (by omega) (by omega)) (nn' (by omega) (by omega) (by omega)) (by rw [nn' (by omega) (by omega) (by omega)]; exact s_I_6 H) (by rw [nn' (by omega) (by omega) (by omega)]; exact s_I_2 H) (by rw [nn' (by omega) (by omega) (by omega)]; exact s_I_1 H) (nn' (by omega) (by omega) (by omega)) (nn' (by omega) (by omega) (by omega)) (nn' (by omega) (by omega) (by omega)) (fun m w _ _ => nn' (by omega) (by omega) (by omega)) (s_sta_gu4 sta2) (Or.inl (gu_same _ _ _)) (Or.inl (gu_same _ _ _)) (fun y hy h0 => by rw [nn' (by omega) (by omega) (by omega)]; exact h0)
    · rw [if_neg (by decide), if_neg h4]
      have nn' : ∀ {j : Nat}, j ≠ 18 + 7 * x + 2 → j ≠ 18 + 7 * x + 1 → gu (gu g (18 + 7 * x + 1) (n32 0)) (18 + 7 * x + 2) (n32 0) j = g j := fun b c => by rw [gu_ne _ _ b, gu_ne _ _ c]
      refine s_I_mk H (nn' (by omega) (by omega)) (nn' (by omega) (by omega)) (by rw [nn' (by omega) (by omega)]; exact s_I_6 H) (by rw [nn' (by omega) (by omega)]; exact s_I_2 H) (by rw [nn' (by omega) (by omega)]; exact s_I_1 H) (nn' (by omega) (by omega)) (nn' (by omega) (by omega)) (nn' (by omega) (by omega)) (fun m w _ _ => nn' (by omega) (by omega)) sta2 ?_ ?_ (fun y hy h0 => by rw [nn' (by omega) (by omega)]; exact h0)
      · rcases s_I_hol H with h | ⟨y, hy, h1, h2⟩
        · exact Or.inl (by rw [nn' (by omega) (by omega)]; exact h)
        · exact Or.inr ⟨y, hy, by rw [nn' (by omega) (by omega)]; exact h1, by rw [nn' (by omega) (by omega)]; exact h2⟩
      · rcases s_I_hon H with h | ⟨y, hy, h1, h2⟩
        · exact Or.inl (by rw [nn' (by omega) (by omega)]; exact h)
        · have := h4n y hy h1 h4
          exact Or.inr ⟨y, hy, by rw [nn' (by omega) (by omega)]; exact h1, by rw [nn' (by omega) (by omega)]; exact h2⟩
theorem s_I_lose (H : s_I g B V) : s_I (gu g 4 nn) B V :=
  s_I_mk H (gu_ne _ _ (by omega)) (gu_ne _ _ (by omega)) (by rw [gu_ne _ _ (by omega)]; exact s_I_6 H) (by rw [gu_ne _ _ (by omega)]; exact s_I_2 H) (by rw [gu_ne _ _ (by omega)]; exact s_I_1 H) (gu_ne _ _ (by omega)) (gu_ne _ _ (by omega)) (gu_ne _ _ (by omega)) (fun m w _ _ => gu_ne _ _ (by omega)) (s_sta_gu4 (s_I_sta H)) (Or.inl (gu_same _ _ _)) (Or.inl (gu_same _ _ _)) (fun y hy h0 => by rw [gu_ne _ _ (by omega)]; exact h0)
theorem s_hol_gu (H : s_hol g) (h : ∀ j, 3 < j → g' j = g j) : s_hol g' := by
  rcases H with a | ⟨y, hy, h1, h2⟩
  · exact Or.inl (by rw [h _ (by omega)]; exact a)
  · exact Or.inr ⟨y, hy, by rw [h _ (by omega)]; exact h1, by rw [h _ (by omega)]; exact h2⟩
theorem s_hon_gu (H : s_hon g) (h : ∀ j, 3 < j → g' j = g j) : s_hon g' := by
  rcases H with a | ⟨y, hy, h1, h2⟩
  · exact Or.inl (by rw [h _ (by omega)]; exact a)
  · exact Or.inr ⟨y, hy, by rw [h _ (by omega)]; exact h1, by rw [h _ (by omega)]; exact h2⟩
theorem s_I_top (H : s_I g B V) (h : ∀ j, 2 < j → g' j = g j) (h1 : ∃ s, s ≤ 20 ∧ g' 1 = n32 s) (h2 : ∃ gg, 1 ≤ gg ∧ gg ≤ 20 ∧ g' 2 = n32 gg) : s_I g' B V :=
  s_I_mk H (h _ (by omega)) (h _ (by omega)) (by rw [h _ (by omega)]; exact s_I_6 H) h2 h1 (h _ (by omega)) (h _ (by omega)) (h _ (by omega)) (fun m w _ _ => h _ (by omega)) (s_sta_congr (fun j _ _ => h j (by omega)) (s_I_sta H)) (s_hol_gu (s_I_hol H) (fun j hj => h j (by omega))) (s_hon_gu (s_I_hon H) (fun j hj => h j (by omega))) (fun y hy h0 => by rw [h _ (by omega)]; exact h0)
theorem s_I_an (H : s_I g B V) {z : Nat} (hz : z < 20) (f t : Int32) : s_I (s_an g z f t) B V := by
  have sn : ∀ {j : Nat}, j ≠ 6 → j < 742 → s_an g z f t j = g j := fun a b => s_an_ne g z f t a (by omega) (by omega)
  have q5 := (s_I_5 H).1
  have sta' : s_sta (s_an g z f t) := s_sta_congr (fun j _ _ => sn (by omega) (by omega)) (s_I_sta H)
  refine s_I_mk H (sn (by omega) (by omega)) (sn (by omega) (by omega)) ⟨z + 1, by omega, gu_same _ _ _⟩ (by rw [sn (by omega) (by omega)]; exact s_I_2 H) (by rw [sn (by omega) (by omega)]; exact s_I_1 H) (sn (by omega) (by omega)) (sn (by omega) (by omega)) (sn (by omega) (by omega)) (fun m w _ _ => sn (by omega) (by omega)) sta' ?_ ?_ (fun y hy h0 => by rw [sn (by omega) (by omega)]; exact h0)
  · rcases s_I_hol H with h | ⟨y, hy, h1, h2⟩
    · exact Or.inl (by rw [sn (by omega) (by omega)]; exact h)
    · exact Or.inr ⟨y, hy, by rw [sn (by omega) (by omega)]; exact h1, by rw [sn (by omega) (by omega)]; exact h2⟩
  · rcases s_I_hon H with h | ⟨y, hy, h1, h2⟩
    · exact Or.inl (by rw [sn (by omega) (by omega)]; exact h)
    · exact Or.inr ⟨y, hy, by rw [sn (by omega) (by omega)]; exact h1, by rw [sn (by omega) (by omega)]; exact h2⟩
theorem s_I_adds (H : s_I g B V) {x : Nat} (hx : x < 32) (hz : ¬ g (18 + 7 * x + 0) = n32 1) : s_I (s_adds g x) B V := by
  have sn : ∀ {j : Nat}, (j < 18 + 7 * x ∨ 18 + 7 * x + 7 ≤ j) → s_adds g x j = g j := fun h => s_adds_ne g x h
  have hne : ∀ y, y < 32 → g (18 + 7 * y + 0) = n32 1 → y ≠ x := fun y hy h0 he => hz (by rw [← he]; exact h0)
  have q5 := (s_I_5 H).1
  refine s_I_mk H (sn (by omega)) (sn (by omega)) (by rw [sn (by omega)]; exact s_I_6 H) (by rw [sn (by omega)]; exact s_I_2 H) (by rw [sn (by omega)]; exact s_I_1 H) (sn (by omega)) (sn (by omega)) (sn (by omega)) (fun m w _ _ => sn (by omega)) (fun y hy h0 => ?_) ?_ ?_ (fun y hy h0 => by have := hne y hy h0; rw [sn (by omega)]; exact h0)
  · by_cases hyx : y = x
    · subst hyx
      unfold s_adds
      simp (disch := omega) only [gu_ne, gu_same]
      exact ⟨Or.inr trivial, Or.inl trivial, fun _ => trivial, ⟨y, hy, rfl⟩, ⟨y, hy, rfl⟩⟩
    · rw [sn (by omega)] at h0
      rw [sn (by omega), sn (by omega), sn (by omega), sn (by omega)]
      exact s_I_sta H y hy h0
  · rcases s_I_hol H with h | ⟨y, hy, h1, h2⟩
    · exact Or.inl (by rw [sn (by omega)]; exact h)
    · have := hne y hy h2
      exact Or.inr ⟨y, hy, by rw [sn (by omega)]; exact h1, by rw [sn (by omega)]; exact h2⟩
  · rcases s_I_hon H with h | ⟨y, hy, h1, h2⟩
    · exact Or.inl (by rw [sn (by omega)]; exact h)
    · rcases s_I_hol H with h | ⟨y', hy', h1', h2'⟩
      · rw [h] at h1
        have h3 : n32 y = nn := h1.symm
        rw [n32_ne (by omega)] at h3
        exact h3.elim
      · rw [h1', n32_eq (by omega) (by omega)] at h1
        subst h1
        have := hne y' hy' h2'
        exact Or.inr ⟨y', hy, by rw [sn (by omega)]; exact h1', by rw [sn (by omega)]; exact h2⟩
theorem s_I_gives (H : s_I g B V) {q x l : Nat} (h5 : g 5 = n32 q) (hq : q < 100) (hx : x < 32) (hz : g (18 + 7 * x + 0) = n32 1) (hl1 : 1 ≤ l) (hl2 : l ≤ 20) (U : Int32) : s_I (s_gives g q (n32 x) (n32 l) U) B V := by
  have sn : ∀ {j : Nat}, j ≠ 5 → (j < 242 + 5 * q ∨ 242 + 5 * q + 5 ≤ j) → s_gives g q (n32 x) (n32 l) U j = g j := fun a b => s_gives_ne _ _ _ _ _ a b
  have nq : s_nat g 5 = q := s_nat_n32 h5 (by omega)
  have n5 := s_gives_n5 (g := g) (x := x) (L := n32 l) (U := U) hq
  have g5 := s_gives_5 g q (n32 x) (n32 l) U
  obtain ⟨g0, g1, g2, g3, g4⟩ := s_gives_q g q (n32 x) (n32 l) U
  have st := s_I_sta H
  have ho := s_I_hol H
  have hon := s_I_hon H
  have h6 := s_I_6 H
  have h2 := s_I_2 H
  have h1 := s_I_1 H
  obtain ⟨⟨⟨a5, a52, _, _, hmo, hb, _, mv, hmv, a9, a7⟩, _, _, hB, hV⟩, _, hd, hw⟩ := H
  have e3 : s_gives g q (n32 x) (n32 l) U 3 = g 3 := sn (by omega) (by omega)
  have n3 : s_nat (s_gives g q (n32 x) (n32 l) U) 3 = s_nat g 3 := by unfold s_nat; rw [e3]
  have n9 : s_nat (s_gives g q (n32 x) (n32 l) U) 9 = s_nat g 9 := by unfold s_nat; rw [sn (by omega) (by omega)]
  refine ⟨⟨⟨by omega, by rw [n5]; exact g5, by rw [sn (by omega) (by omega)]; exact h6, by rw [sn (by omega) (by omega)]; exact h2, ⟨by rw [n3, e3]; exact hmo.1, fun m hm => ?_⟩, by rw [n3]; exact hb, s_sta_congr (fun j _ _ => sn (by omega) (by omega)) st, mv, hmv, by rw [sn (by omega) (by omega)]; exact a9, by rw [sn (by omega) (by omega)]; exact a7⟩, by rw [sn (by omega) (by omega)]; exact h1, ?_, by rw [n3]; exact hB, by rw [n9]; exact hV⟩, ?_, ?_, fun m hm => ?_⟩
  · rw [n5] at hm
    rw [n3]
    by_cases hmq : m = q
    · subst hmq
      exact ⟨⟨l, hl1, hl2, g0⟩, s_nat g 3, Nat.le_refl _, by rw [g3]; exact hmo.1⟩
    · rw [sn (by omega) (by omega), sn (by omega) (by omega)]
      exact hmo.2 m (by omega)
  · rcases ho with h | ⟨y, hy, h1, h2⟩
    · exact Or.inl (by rw [sn (by omega) (by omega)]; exact h)
    · exact Or.inr ⟨y, hy, by rw [sn (by omega) (by omega)]; exact h1, by rw [sn (by omega) (by omega)]; exact h2⟩
  · rcases hon with h | ⟨y, hy, h1, h2⟩
    · exact Or.inl (by rw [sn (by omega) (by omega)]; exact h)
    · exact Or.inr ⟨y, hy, by rw [sn (by omega) (by omega)]; exact h1, by rw [sn (by omega) (by omega)]; exact h2⟩
  · unfold s_ds
    rw [n5, sn (by omega) (by omega)]
    have hd2 : g 10 = n32 (s_cnt (s_done g) (s_nat g 5)) := hd
    have e1 : s_cnt (s_done (s_gives g q (n32 x) (n32 l) U)) (q + 1) = s_cnt (s_done (s_gives g q (n32 x) (n32 l) U)) q + (if s_done (s_gives g q (n32 x) (n32 l) U) q = true then 1 else 0) := rfl
    have e2 : s_done (s_gives g q (n32 x) (n32 l) U) q = false := by unfold s_done; rw [g4]; rfl
    rw [e1, e2, s_cnt_congr (P := s_done g) q (fun m hm => by unfold s_done; rw [sn (by omega) (by omega)]), hd2, nq]
    rfl
  · rw [n5] at hm
    by_cases hmq : m = q
    · subst hmq
      exact ⟨x, hx, g2, by rw [sn (by omega) (by omega)]; exact hz⟩
    · obtain ⟨y, hy, e1, e2⟩ := hw m (by omega)
      exact ⟨y, hy, by rw [sn (by omega) (by omega)]; exact e1, by rw [sn (by omega) (by omega)]; exact e2⟩
end REST
end
section
/-! THE WHOLE OF THE CLASS, at b, and of the reference, at b + 118 -/
def zEq (lo hi : Nat) (σ σ' : zSt) : Prop := ∀ q, lo ≤ q → q < hi → z_sh σ' q = z_sh σ q ∧ z_I σ' q = z_I σ q ∧ z_J σ' q = z_J σ q ∧ z_R σ' q = z_R σ q
theorem zEq_r (lo hi : Nat) (σ : zSt) : zEq lo hi σ σ := fun _ _ _ => ⟨rfl, rfl, rfl, rfl⟩
theorem zEq_t {lo hi : Nat} {σ σ' σ'' : zSt} (h : zEq lo hi σ σ') (h2 : zEq lo hi σ' σ'') : zEq lo hi σ σ'' := fun q a b =>
  ⟨(h2 q a b).1.trans (h q a b).1, (h2 q a b).2.1.trans (h q a b).2.1, (h2 q a b).2.2.1.trans (h q a b).2.2.1, (h2 q a b).2.2.2.trans (h q a b).2.2.2⟩
theorem zEq_s {lo hi lo' hi' : Nat} {σ σ' : zSt} (h : zEq lo hi σ σ') (h1 : lo ≤ lo') (h2 : hi' ≤ hi) : zEq lo' hi' σ σ' := fun q a b => h q (by omega) (by omega)
theorem zEq_fw {a lo hi : Nat} {σ σ' : zSt} (h : zFw a σ σ') (hd : hi ≤ a ∨ a + 19 ≤ lo) : zEq lo hi σ σ' := fun q h1 h2 => by
  have := h.2.2 q (by omega)
  exact ⟨by rw [h.2.1], this⟩
theorem z_ob_at {σ σ' : zSt} {q : Nat} (h : z_sh σ' q = z_sh σ q) : z_ob σ' q = z_ob σ q := by funext c; unfold z_ob; rw [h]
theorem z_ar_at {σ σ' : zSt} {q : Nat} (h : z_sh σ' q = z_sh σ q) : z_ar σ' q = z_ar σ q := by funext c; unfold z_ar; rw [h]
theorem z_ln_at {σ σ' : zSt} {q : Nat} (h : z_sh σ' q = z_sh σ q) : z_ln σ' q = z_ln σ q := by unfold z_ln; rw [h]
theorem zLs_reg {σ σ' : zSt} {a : Nat} (E : zEq a (a + 19) σ σ') (h : zLs σ a) : zLs σ' a := by
  have e : ∀ k, k < 19 → z_sh σ' (a + k) = z_sh σ (a + k) := fun k hk => (E _ (by omega) (by omega)).1
  have r : ∀ k, k < 19 → z_R σ' (a + k) = z_R σ (a + k) := fun k hk => (E _ (by omega) (by omega)).2.2.2
  have e0 : z_sh σ' a = z_sh σ a := e 0 (by omega)
  have r0 : z_R σ' a = z_R σ a := r 0 (by omega)
  unfold zLs
  rw [z_ob_at e0, r0, z_ar_at (e 1 (by omega)), z_ln_at (e 1 (by omega)), z_ob_at (e 2 (by omega)), r 2 (by omega), z_ob_at (e 3 (by omega)), r 3 (by omega), z_ar_at (e 4 (by omega)), z_ln_at (e 4 (by omega)), z_ob_at (e 5 (by omega)), r 5 (by omega), z_ar_at (e 6 (by omega)), z_ln_at (e 6 (by omega)), z_ar_at (e 7 (by omega)), z_ln_at (e 7 (by omega)), z_ob_at (e 8 (by omega)), z_ob_at (e 9 (by omega)), r 9 (by omega), z_ar_at (e 10 (by omega)), z_ln_at (e 10 (by omega))]
  exact h
theorem zPl_reg {σ σ' : zSt} {a : Nat} {pl : Nat → Nat} (E : zEq a (a + 19) σ σ') (h : zPl σ a pl) : zPl σ' a pl := by
  refine ⟨fun i hi => ?_, h.2⟩
  have := h.1 i hi
  rw [(E (a + 1) (by omega) (by omega)).2.2.2, z_ob_at (E (pl i) (by omega) (by omega)).1]
  exact this
theorem zC0_reg {σ σ' : zSt} {a n : Nat} {pl ad : Nat → Nat} {qu : Nat → Nat → Nat} {g : zG} (E : zEq a (a + 19) σ σ') (h : zC0 σ a pl ad qu n g) : zC0 σ' a pl ad qu n g := by
  obtain ⟨h1, h2, rL, rW, rM, rN, rC, rA, rS, rQ⟩ := h
  have I : ∀ k, k < 19 → z_I σ' (a + k) = z_I σ (a + k) := fun k hk => (E _ (by omega) (by omega)).2.1
  have I0 : z_I σ' a = z_I σ a := I 0 (by omega)
  have hp : ∀ i, i < n → z_I σ' (pl i) = z_I σ (pl i) := fun i hi => by
    have := (h2.1 i (by have := rA.1; omega)).2.2
    exact (E _ (by omega) (by omega)).2.1
  refine ⟨zLs_reg E h1, zPl_reg E h2, ?_, ?_, qM_congr (I 2 (by omega)) (I 4 (by omega)) (sMs_r g) rM, qN_congr (I 5 (by omega)) (I 6 (by omega)) (I 7 (by omega)) rfl (fun _ _ => rfl) rN, qC_congr (I 8 (by omega)) (by rw [(E (a + 8) (by omega) (by omega)).2.2.1]) (fun _ _ _ => rfl) (sMs_r g) rC, rA, ?_, qQ_congr (I 4 (by omega)) (fun i hi => by rw [hp i hi]; exact ⟨rfl, rfl⟩) (sMs_r g) rQ⟩
  · unfold qL; rw [I0]; exact rL
  · unfold qW; rw [I 3 (by omega), I 9 (by omega)]; exact rW
  · intro i hi; rw [hp i hi]; exact rS i hi
theorem qG_reg {σ σ' : zSt} {a : Nat} {g : zG} (E : zEq a (a + 19) σ σ') (h : qG σ a g) : qG σ' a g := qG_congr (E (a + 10) (by omega) (by omega)).2.1 rfl rfl (fun _ _ => rfl) h
theorem zLn_reg {σ σ' : zSt} {a : Nat} {g : zG} (E : zEq a (a + 19) σ σ') (h : zLn σ a g) : zLn σ' a g := by
  obtain ⟨pl, ad, qu, n, h1, h2, h3, h4⟩ := h
  have := zC0_reg E ⟨h1, h2, h3⟩
  exact ⟨pl, ad, qu, n, this.1, this.2.1, this.2.2, qG_reg E h4⟩
theorem zBl_reg {σ σ' : zSt} {a : Nat} (E : zEq a (a + 19) σ σ') (h : zBl σ a) : zBl σ' a := by
  obtain ⟨h1, ⟨pl, h2⟩, h3⟩ := h
  refine ⟨zLs_reg E h1, ⟨pl, zPl_reg E h2⟩, ?_⟩
  unfold qW; rw [(E (a + 3) (by omega) (by omega)).2.1, (E (a + 9) (by omega) (by omega)).2.1]; exact h3
theorem zSv_reg {σ σ' : zSt} {hs k : Nat} {hl : Nat → Nat} {gs : Nat → zG} (E : zEq hs (hs + 2) σ σ') (EL : ∀ i, i < 4 → zEq (hl i) (hl i + 19) σ σ') (h : zSv σ hs hl k gs) : zSv σ' hs hl k gs := by
  obtain ⟨⟨h1, h2, h3, h4, h5⟩, hk, hk4, hg, hb, hp⟩ := h
  have e0 := E hs (by omega) (by omega)
  have e1 := E (hs + 1) (by omega) (by omega)
  refine ⟨⟨by rw [z_ob_at e0.1]; exact h1, by rw [e0.2.2.2]; exact h2, by rw [z_ar_at e1.1]; exact h3, by rw [z_ln_at e1.1]; exact h4, fun i hi => by rw [e1.2.2.2, z_ob_at (EL i hi _ (by omega) (by omega)).1]; exact h5 i hi⟩, by rw [e0.2.1]; exact hk, hk4, fun i hi => ⟨zLn_reg (EL i (by omega)) (hg i hi).1, (hg i hi).2⟩, fun i hi => ⟨zBl_reg (EL i hi) (hb i hi).1, (hb i hi).2⟩, hp⟩
/-- the shapes of the class's own cells -/
def zTo (σ : zSt) (b : Nat) : Prop := z_ob σ b 8 = true ∧ z_R σ b 0 = some (b + 1) ∧ z_R σ b 1 = some (b + 20) ∧ z_R σ b 2 = some (b + 39) ∧ z_R σ b 3 = some (b + 117) ∧ z_ar σ (b + 117) 1 = true ∧ z_ln σ (b + 117) = 120
/-- the long that answers stand in -/
def zOut (σ : zSt) (b : Nat) : Prop := z_ar σ (b + 123) 2 = true ∧ z_ln σ (b + 123) = 1 ∧ b + 124 ≤ z_nx σ
/-- the class: its line is g, its saved states gs 0 .. gs (k - 1), its text tx 0 .. tx (tl - 1) -/
def zC (σ : zSt) (b : Nat) (g : zG) (k : Nat) (gs : Nat → zG) (tl : Nat) (tx : Nat → Int32) : Prop :=
  zTo σ b ∧ zLn σ (b + 1) g ∧ zBl σ (b + 20) ∧ (∃ hl, zSv σ (b + 39) hl k gs ∧ ∀ i, i < 4 → b + 41 ≤ hl i ∧ hl i + 19 ≤ b + 117) ∧ z_I σ b 4 = n32 tl ∧ ∀ j, j < tl → z_I σ (b + 117) j = tx j
/-- the reference -/
def zM (σ : zSt) (b : Nat) (g : zG) (k : Nat) (gs : Nat → zG) (tl : Nat) (tx : Nat → Int32) : Prop :=
  zMs σ (b + 118) ∧ z_I σ (b + 119) = g ∧ z_I σ (b + 118) 3 = n32 k ∧ (∀ i j, i < k → j < 942 → z_I σ (b + 120) (942 * i + j) = gs i j) ∧ z_I σ (b + 118) 6 = n32 tl ∧ ∀ j, j < tl → z_I σ (b + 122) j = tx j
theorem zC_reg {σ σ' : zSt} {b k tl : Nat} {g : zG} {gs : Nat → zG} {tx : Nat → Int32} (E : zEq b (b + 118) σ σ') (h : zC σ b g k gs tl tx) : zC σ' b g k gs tl tx := by
  obtain ⟨⟨t1, t2, t3, t4, t5, t6, t7⟩, hl, hb, ⟨hl', hs, hr⟩, h4, ht⟩ := h
  have e0 := E b (by omega) (by omega)
  have e1 := E (b + 117) (by omega) (by omega)
  refine ⟨⟨by rw [z_ob_at e0.1]; exact t1, by rw [e0.2.2.2]; exact t2, by rw [e0.2.2.2]; exact t3, by rw [e0.2.2.2]; exact t4, by rw [e0.2.2.2]; exact t5, by rw [z_ar_at e1.1]; exact t6, by rw [z_ln_at e1.1]; exact t7⟩, zLn_reg (zEq_s E (by omega) (by omega)) hl, zBl_reg (zEq_s E (by omega) (by omega)) hb, ⟨hl', zSv_reg (zEq_s E (by omega) (by omega)) (fun i hi => zEq_s E (by have := hr i hi; omega) (by have := hr i hi; omega)) hs, hr⟩, by rw [e0.2.1]; exact h4, fun j hj => by rw [e1.2.1]; exact ht j hj⟩
theorem zM_reg {σ σ' : zSt} {b k tl : Nat} {g : zG} {gs : Nat → zG} {tx : Nat → Int32} (E : zEq (b + 118) (b + 123) σ σ') (h : zM σ b g k gs tl tx) : zM σ' b g k gs tl tx := by
  obtain ⟨hM, h1, h2, h3, h4, h5⟩ := h
  have e0 := E (b + 118) (by omega) (by omega)
  have e1 := E (b + 119) (by omega) (by omega)
  have e2 := E (b + 120) (by omega) (by omega)
  have e3 := E (b + 121) (by omega) (by omega)
  have e4 := E (b + 122) (by omega) (by omega)
  refine ⟨?_, by rw [e1.2.1]; exact h1, by rw [e0.2.1]; exact h2, fun i j hi hj => by rw [e2.2.1]; exact h3 i j hi hj, by rw [e0.2.1]; exact h4, fun j hj => by rw [e4.2.1]; exact h5 j hj⟩
  have f1 : b + 118 + 1 = b + 119 := rfl
  have f2 : b + 118 + 2 = b + 120 := rfl
  have f3 : b + 118 + 3 = b + 121 := rfl
  have f4 : b + 118 + 4 = b + 122 := rfl
  unfold zMs at hM ⊢
  rw [f1, f2, f3, f4] at hM ⊢
  rw [z_ob_at e0.1, e0.2.2.2, z_ar_at e1.1, z_ar_at e2.1, z_ar_at e3.1, z_ar_at e4.1, z_ln_at e1.1, z_ln_at e2.1, z_ln_at e3.1, z_ln_at e4.1]
  exact hM
/-- the line is changed -/
theorem zC_line {σ σ' : zSt} {b k tl : Nat} {g g' : zG} {gs : Nat → zG} {tx : Nat → Int32} (F : zFw (b + 1) σ σ') (hl : zLn σ' (b + 1) g') (h : zC σ b g k gs tl tx) : zC σ' b g' k gs tl tx := by
  obtain ⟨⟨t1, t2, t3, t4, t5, t6, t7⟩, _, hb, ⟨hl', hs, hr⟩, h4, ht⟩ := h
  have e0 := F.2.2 b (by omega)
  have e1 := F.2.2 (b + 117) (by omega)
  have es := F.2.1
  refine ⟨⟨by rw [z_ob_eq es]; exact t1, by rw [e0.2.2]; exact t2, by rw [e0.2.2]; exact t3, by rw [e0.2.2]; exact t4, by rw [e0.2.2]; exact t5, by rw [z_ar_eq es]; exact t6, by rw [z_ln_eq es]; exact t7⟩, hl, zBl_reg (zEq_fw F (by omega)) hb, ⟨hl', zSv_reg (zEq_fw F (by omega)) (fun i hi => zEq_fw F (by have := hr i hi; omega)) hs, hr⟩, by rw [e0.1]; exact h4, fun j hj => by rw [e1.1]; exact ht j hj⟩
/-- the line for trials is changed -/
theorem zC_trial {σ σ' : zSt} {b k tl : Nat} {g : zG} {gs : Nat → zG} {tx : Nat → Int32} (F : zFw (b + 20) σ σ') (hl : zBl σ' (b + 20)) (h : zC σ b g k gs tl tx) : zC σ' b g k gs tl tx := by
  obtain ⟨⟨t1, t2, t3, t4, t5, t6, t7⟩, ha, _, ⟨hl', hs, hr⟩, h4, ht⟩ := h
  have e0 := F.2.2 b (by omega)
  have e1 := F.2.2 (b + 117) (by omega)
  have es := F.2.1
  refine ⟨⟨by rw [z_ob_eq es]; exact t1, by rw [e0.2.2]; exact t2, by rw [e0.2.2]; exact t3, by rw [e0.2.2]; exact t4, by rw [e0.2.2]; exact t5, by rw [z_ar_eq es]; exact t6, by rw [z_ln_eq es]; exact t7⟩, zLn_reg (zEq_fw F (by omega)) ha, hl, ⟨hl', zSv_reg (zEq_fw F (by omega)) (fun i hi => zEq_fw F (by have := hr i hi; omega)) hs, hr⟩, by rw [e0.1]; exact h4, fun j hj => by rw [e1.1]; exact ht j hj⟩
/-- the saved states with one more -/
def s_pk (k : Nat) : Nat := if k = 4 then 4 else k + 1
def s_pg (k : Nat) (gs : Nat → zG) (g : zG) : Nat → zG := if k = 4 then (fun i => if i = 3 then g else gs (i + 1)) else (fun i => if i = k then g else gs i)
/-- the class saves its state -/
theorem zC_save {σ : zSt} {b k tl : Nat} {g : zG} {gs : Nat → zG} {tx : Nat → Int32} (h : zC σ b g k gs tl tx) (hN : s_num g) :
    ∃ σ', f_X1_save σ (b + 39) (b + 1) = some σ' ∧ zC σ' b g (s_pk k) (s_pg k gs g) tl tx ∧ z_nx σ' = z_nx σ ∧ z_sh σ' = z_sh σ ∧ zEq b (b + 39) σ σ' ∧ ∀ hi, zEq (b + 117) hi σ σ' := by
  obtain ⟨ht, hl, hb, ⟨hl', hs, hr⟩, h4, htx⟩ := h
  have fin : ∀ (σ' : zSt) (hl2 : Nat → Nat) (k' : Nat) (gs' : Nat → zG), zSv σ' (b + 39) hl2 k' gs' → (∀ i, i < 4 → b + 41 ≤ hl2 i ∧ hl2 i + 19 ≤ b + 117) → zHo σ σ' (b + 39) hl' → zC σ' b g k' gs' tl tx ∧ z_nx σ' = z_nx σ ∧ z_sh σ' = z_sh σ ∧ zEq b (b + 39) σ σ' ∧ ∀ hi, zEq (b + 117) hi σ σ' := by
    intro σ' hl2 k' gs' hs' hr' ho
    have E1 : zEq b (b + 39) σ σ' := fun q h1 h2 => by
      have := ho.2.2.2 q (by omega) (fun i hi => by have := hr i hi; omega)
      exact ⟨by rw [ho.2.1], this.1, this.2, ho.2.2.1 q (by omega)⟩
    have E2 : ∀ hi, zEq (b + 117) hi σ σ' := fun hi q h1 h2 => by
      have := ho.2.2.2 q (by omega) (fun i hi => by have := hr i hi; omega)
      exact ⟨by rw [ho.2.1], this.1, this.2, ho.2.2.1 q (by omega)⟩
    obtain ⟨t1, t2, t3, t4, t5, t6, t7⟩ := ht
    have e0 := E1 b (by omega) (by omega)
    have e1 := E2 (b + 118) (b + 117) (by omega) (by omega)
    refine ⟨⟨⟨by rw [z_ob_at e0.1]; exact t1, by rw [e0.2.2.2]; exact t2, by rw [e0.2.2.2]; exact t3, by rw [e0.2.2.2]; exact t4, by rw [e0.2.2.2]; exact t5, by rw [z_ar_at e1.1]; exact t6, by rw [z_ln_at e1.1]; exact t7⟩, zLn_reg (zEq_s E1 (by omega) (by omega)) hl, zBl_reg (zEq_s E1 (by omega) (by omega)) hb, ⟨hl2, hs', hr'⟩, by rw [e0.2.1]; exact h4, fun j hj => by rw [e1.2.1]; exact htx j hj⟩, ho.1, ho.2.1, E1, E2⟩
  by_cases hk : k = 4
  · subst hk
    obtain ⟨σ', E, S, ho⟩ := c_save4 hs hl hN (fun i hi => by have := hr i hi; omega) (by omega)
    refine ⟨σ', E, ?_⟩
    unfold s_pk s_pg
    rw [if_pos rfl, if_pos rfl]
    refine fin σ' (s_hl hl') 4 _ S (fun i hi => ?_) ho
    obtain ⟨j, hj, e, _⟩ := s_hl_lt i hl' hi
    rw [e]; exact hr j hj
  · have hk4 := hs.2.2.1
    obtain ⟨σ', E, S, ho⟩ := c_save3 hs (by omega) hl hN (fun i hi => by have := hr i hi; omega)
    refine ⟨σ', E, ?_⟩
    unfold s_pk s_pg
    rw [if_neg hk, if_neg hk]
    exact fin σ' hl' _ _ S hr ho
theorem s_pg_I {k : Nat} {gs : Nat → zG} {g : zG} {B V : Nat} (hk : k ≤ 4) (hg : s_I g B V) (h : ∀ i, i < k → s_I (gs i) B V) : ∀ i, i < s_pk k → s_I (s_pg k gs g i) B V := by
  intro i hi
  unfold s_pk at hi
  unfold s_pg
  by_cases hk4 : k = 4
  · rw [if_pos hk4] at hi ⊢
    by_cases h3 : i = 3
    · rw [h3]; exact hg
    · show s_I (if i = 3 then g else gs (i + 1)) B V
      rw [if_neg h3]; exact h (i + 1) (by omega)
  · rw [if_neg hk4] at hi ⊢
    show s_I (if i = k then g else gs i) B V
    by_cases h3 : i = k
    · rw [if_pos h3]; exact hg
    · rw [if_neg h3]; exact h i (by omega)
/-- the reference's frame -/
def zFM (b : Nat) (σ σ' : zSt) : Prop := z_nx σ' = z_nx σ ∧ z_sh σ' = z_sh σ ∧ z_R σ' = z_R σ ∧ z_J σ' = z_J σ ∧ ∀ q, (q < b + 118 ∨ b + 123 ≤ q) → z_I σ' q = z_I σ q
theorem zFM_r (b : Nat) (σ : zSt) : zFM b σ σ := ⟨rfl, rfl, rfl, rfl, fun _ _ => rfl⟩
theorem zFM_t {b : Nat} {σ σ' σ'' : zSt} (h : zFM b σ σ') (h2 : zFM b σ' σ'') : zFM b σ σ'' := ⟨h2.1.trans h.1, h2.2.1.trans h.2.1, h2.2.2.1.trans h.2.2.1, h2.2.2.2.1.trans h.2.2.2.1, fun q hq => (h2.2.2.2.2 q hq).trans (h.2.2.2.2 q hq)⟩
theorem zFM_sA {b : Nat} (σ : zSt) {A : Nat} (h1 : b + 118 ≤ A) (h2 : A < b + 123) (f : zG) : zFM b σ (z_sA σ A f) := ⟨rfl, rfl, rfl, rfl, fun q hq => z_I_sAn _ _ _ (by omega)⟩
theorem zEq_FM {b lo hi : Nat} {σ σ' : zSt} (h : zFM b σ σ') (hd : hi ≤ b + 118 ∨ b + 123 ≤ lo) : zEq lo hi σ σ' := fun q h1 h2 => ⟨by rw [h.2.1], h.2.2.2.2 q (by omega), by rw [h.2.2.2.1], by rw [h.2.2.1]⟩
theorem zMs_FM {b : Nat} {σ σ' : zSt} (h : zFM b σ σ') (hM : zMs σ (b + 118)) : zMs σ' (b + 118) := by
  unfold zMs
  rw [z_ob_eq h.2.1, z_ar_eq h.2.1, z_ln_eq h.2.1, h.2.2.1]
  exact hM
/-- the reference saves its state -/
theorem zM_save {σ : zSt} {b k tl : Nat} {g : zG} {gs : Nat → zG} {tx : Nat → Int32} (h : zM σ b g k gs tl tx) (hk : k ≤ 4) :
    ∃ σ', f_X10_save σ (b + 118) = some σ' ∧ zM σ' b g (s_pk k) (s_pg k gs g) tl tx ∧ zFM b σ σ' ∧ z_I σ' (b + 118) 4 = z_I σ (b + 118) 4 ∧ (∀ q, b + 121 ≤ q → z_I σ' q = z_I σ q) ∧ ∀ j, j ≠ 3 → z_I σ' (b + 118) j = z_I σ (b + 118) j := by
  obtain ⟨hM, h1, h2, h3, h4, h5⟩ := h
  unfold s_pk s_pg
  by_cases hk4 : k = 4
  · subst hk4
    rw [if_pos rfl, if_pos rfl]
    have E := m_save4 hM h2
    have f1 : b + 118 + 1 = b + 119 := rfl
    have f2 : b + 118 + 2 = b + 120 := rfl
    rw [f1, f2, h1] at E
    have i0 : z_I (z_sA (z_sA σ (b + 120) (s_up (s_dn1 (z_I σ (b + 120)) 2826) g 2826 942)) (b + 118) (gu (z_I σ (b + 118)) 3 (n32 4))) (b + 118) = gu (z_I σ (b + 118)) 3 (n32 4) := z_I_sA _ _ _
    have i2 : z_I (z_sA (z_sA σ (b + 120) (s_up (s_dn1 (z_I σ (b + 120)) 2826) g 2826 942)) (b + 118) (gu (z_I σ (b + 118)) 3 (n32 4))) (b + 120) = s_up (s_dn1 (z_I σ (b + 120)) 2826) g 2826 942 := by rw [z_I_sAn _ _ _ (by omega), z_I_sA]
    have iq : ∀ q, q ≠ b + 118 → q ≠ b + 120 → z_I (z_sA (z_sA σ (b + 120) (s_up (s_dn1 (z_I σ (b + 120)) 2826) g 2826 942)) (b + 118) (gu (z_I σ (b + 118)) 3 (n32 4))) q = z_I σ q := fun q a1 a2 => by rw [z_I_sAn _ _ _ a1, z_I_sAn _ _ _ a2]
    refine ⟨_, E, ⟨hM, ?_, ?_, fun i j hi hj => ?_, ?_, fun j hj => ?_⟩, zFM_t (zFM_sA _ (by omega) (by omega) _) (zFM_sA _ (by omega) (by omega) _), ?_, fun q hq => iq q (by omega) (by omega), fun j hj => ?_⟩
    · rw [iq _ (by omega) (by omega)]; exact h1
    · rw [i0, gu_same]
    · rw [i2]
      unfold s_up s_dn1
      show _ = (if i = 3 then g else gs (i + 1)) j
      by_cases h3' : i = 3
      · rw [if_pos h3', if_pos (by omega), show 942 * i + j - 2826 = j by omega]
      · rw [if_neg h3', if_neg (by omega), if_pos (by omega), ← h3 (i + 1) j (by omega) hj, show 942 * i + j + 942 = 942 * (i + 1) + j by omega]
    · rw [i0, gu_ne _ _ (by omega)]; exact h4
    · rw [iq _ (by omega) (by omega)]; exact h5 j hj
    · rw [i0, gu_ne _ _ (by omega)]
    · rw [i0, gu_ne _ _ hj]
  · rw [if_neg hk4, if_neg hk4]
    have E := m_save hM (sm := k) (by omega) h2
    have f1 : b + 118 + 1 = b + 119 := rfl
    have f2 : b + 118 + 2 = b + 120 := rfl
    rw [f1, f2, h1] at E
    have i0 : z_I (z_sA (z_sA σ (b + 120) (s_up (z_I σ (b + 120)) g (942 * k) 942)) (b + 118) (gu (z_I σ (b + 118)) 3 (n32 (k + 1)))) (b + 118) = gu (z_I σ (b + 118)) 3 (n32 (k + 1)) := z_I_sA _ _ _
    have i2 : z_I (z_sA (z_sA σ (b + 120) (s_up (z_I σ (b + 120)) g (942 * k) 942)) (b + 118) (gu (z_I σ (b + 118)) 3 (n32 (k + 1)))) (b + 120) = s_up (z_I σ (b + 120)) g (942 * k) 942 := by rw [z_I_sAn _ _ _ (by omega), z_I_sA]
    have iq : ∀ q, q ≠ b + 118 → q ≠ b + 120 → z_I (z_sA (z_sA σ (b + 120) (s_up (z_I σ (b + 120)) g (942 * k) 942)) (b + 118) (gu (z_I σ (b + 118)) 3 (n32 (k + 1)))) q = z_I σ q := fun q a1 a2 => by rw [z_I_sAn _ _ _ a1, z_I_sAn _ _ _ a2]
    refine ⟨_, E, ⟨hM, ?_, ?_, fun i j hi hj => ?_, ?_, fun j hj => ?_⟩, zFM_t (zFM_sA _ (by omega) (by omega) _) (zFM_sA _ (by omega) (by omega) _), ?_, fun q hq => iq q (by omega) (by omega), fun j hj => ?_⟩
    · rw [iq _ (by omega) (by omega)]; exact h1
    · rw [i0, gu_same]
    · rw [i2]
      unfold s_up
      show _ = (if i = k then g else gs i) j
      by_cases h3' : i = k
      · rw [if_pos h3', if_pos (by omega), show 942 * i + j - 942 * k = j by omega]
      · rw [if_neg h3', if_neg (by omega)]; exact h3 i j (by omega) hj
    · rw [i0, gu_ne _ _ (by omega)]; exact h4
    · rw [iq _ (by omega) (by omega)]; exact h5 j hj
    · rw [i0, gu_ne _ _ (by omega)]
    · rw [i0, gu_ne _ _ hj]
end
section
/-! AT REST: class and reference together -/
def zW (σ : zSt) (b : Nat) (g : zG) (k : Nat) (gs : Nat → zG) (tl : Nat) (tx : Nat → Int32) (B V : Nat) : Prop :=
  zC σ b g k gs tl tx ∧ zM σ b g k gs tl tx ∧ s_I g B V ∧ (∀ i, i < k → s_I (gs i) B V) ∧ k ≤ 4 ∧ tl ≤ 120 ∧ (∀ j, j < tl → ∃ c, c < 128 ∧ tx j = n32 c) ∧ zOut σ b
/-- the reference's answer: v, and the row r of its exceptions -/
def zAM (σ : zSt) (b : Nat) (out : Option (Int32 × zSt)) (r v : Int32) (g : zG) (k : Nat) (gs : Nat → zG) (tl : Nat) (tx : Nat → Int32) : Prop :=
  ∃ σ1, out = some (v, σ1) ∧ zM σ1 b g k gs tl tx ∧ zFM b σ σ1 ∧ z_I σ1 (b + 118) 4 = r
/-- the class's answer: an exception, or a value -/
def zA9 (σ : zSt) (b : Nat) (out : Option ((Nat ⊕ Int32) × zSt)) (r : Nat ⊕ Int32) (g : zG) (k : Nat) (gs : Nat → zG) (tl : Nat) (tx : Nat → Int32) : Prop :=
  ∃ σ1, out = some (r, σ1) ∧ zC σ1 b g k gs tl tx ∧ zEq (b + 118) (b + 124) σ σ1 ∧ z_nx σ ≤ z_nx σ1
/-- the answer as the law takes it: row r, value v -/
def zAC (σ : zSt) (b : Nat) (out : Option (Int32 × zSt)) (r v : Int32) (g : zG) (k : Nat) (gs : Nat → zG) (tl : Nat) (tx : Nat → Int32) : Prop :=
  ∃ σ1, out = some (r, σ1) ∧ zC σ1 b g k gs tl tx ∧ zEq (b + 118) (b + 123) σ σ1 ∧ zOut σ1 b ∧ (r = 0 → z_J σ1 (b + 123) 0 = v.toInt64)
section TOP
variable {σ : zSt} {b k tl : Nat} {g : zG} {gs : Nat → zG} {tx : Nat → Int32} {B V : Nat}
theorem zM_ob (h : zM σ b g k gs tl tx) : z_ob σ (b + 118) 9 = true := h.1.1
theorem zM_thr (h : zM σ b g k gs tl tx) (v : Int32) : zM (z_sA σ (b + 118) (gu (z_I σ (b + 118)) 4 v)) b g k gs tl tx ∧ zFM b σ (z_sA σ (b + 118) (gu (z_I σ (b + 118)) 4 v)) ∧ z_I (z_sA σ (b + 118) (gu (z_I σ (b + 118)) 4 v)) (b + 118) 4 = v := by
  obtain ⟨hM, h1, h2, h3, h4, h5⟩ := h
  refine ⟨⟨hM, ?_, ?_, fun i j hi hj => ?_, ?_, fun j hj => ?_⟩, zFM_sA _ (by omega) (by omega) _, by rw [z_I_sA, gu_same]⟩
  · rw [z_I_sAn _ _ _ (by omega)]; exact h1
  · rw [z_I_sA, gu_ne _ _ (by omega)]; exact h2
  · rw [z_I_sAn _ _ _ (by omega)]; exact h3 i j hi hj
  · rw [z_I_sA, gu_ne _ _ (by omega)]; exact h4
  · rw [z_I_sAn _ _ _ (by omega)]; exact h5 j hj
theorem zM_new (h : zM σ b g k gs tl tx) (g' : zG) : zM (z_sA σ (b + 119) g') b g' k gs tl tx ∧ zFM b σ (z_sA σ (b + 119) g') ∧ z_I (z_sA σ (b + 119) g') (b + 118) = z_I σ (b + 118) := by
  obtain ⟨hM, h1, h2, h3, h4, h5⟩ := h
  refine ⟨⟨hM, ?_, ?_, fun i j hi hj => ?_, ?_, fun j hj => ?_⟩, zFM_sA _ (by omega) (by omega) _, z_I_sAn _ _ _ (by omega)⟩
  · rw [z_I_sA]
  · rw [z_I_sAn _ _ _ (by omega)]; exact h2
  · rw [z_I_sAn _ _ _ (by omega)]; exact h3 i j hi hj
  · rw [z_I_sAn _ _ _ (by omega)]; exact h4
  · rw [z_I_sAn _ _ _ (by omega)]; exact h5 j hj
theorem zA9_q (h : zC σ b g k gs tl tx) {out : Option ((Nat ⊕ Int32) × zSt)} {r : Nat ⊕ Int32} (E : out = some (r, σ)) : zA9 σ b out r g k gs tl tx := ⟨σ, E, h, zEq_r _ _ _, Nat.le_refl _⟩
theorem zA9_x (h : zC σ b g k gs tl tx) {out : Option ((Nat ⊕ Int32) × zSt)} {e : Nat} (E : out = some (.inl e, z_gr σ)) : zA9 σ b out (.inl e) g k gs tl tx :=
  ⟨z_gr σ, E, zC_reg (σ := σ) (fun q _ _ => ⟨rfl, rfl, rfl, rfl⟩) h, fun q _ _ => ⟨rfl, rfl, rfl, rfl⟩, Nat.le_succ _⟩
theorem zOut_eq {σ1 : zSt} (O : zOut σ b) (E : zEq (b + 118) (b + 124) σ σ1) (hn : z_nx σ ≤ z_nx σ1) : zOut σ1 b := by
  have e := E (b + 123) (by omega) (by omega)
  exact ⟨by rw [z_ar_at e.1]; exact O.1, by rw [z_ln_at e.1]; exact O.2.1, by have := O.2.2; omega⟩
theorem zAC_x {σ1 : zSt} (O : zOut σ b) (h : zC σ1 b g k gs tl tx) (E : zEq (b + 118) (b + 124) σ σ1) (hn : z_nx σ ≤ z_nx σ1) {out : Option (Int32 × zSt)} {r v : Int32} (e : out = some (r, σ1)) (hr : ¬ r = 0) : zAC σ b out r v g k gs tl tx :=
  ⟨σ1, e, h, zEq_s E (Nat.le_refl _) (by omega), zOut_eq O E hn, fun h0 => absurd h0 hr⟩
theorem zAC_v {σ1 : zSt} (O : zOut σ b) (h : zC σ1 b g k gs tl tx) (E : zEq (b + 118) (b + 124) σ σ1) (hn : z_nx σ ≤ z_nx σ1) {out : Option (Int32 × zSt)} {v : Int32} (e : out = some (0, z_pJ σ1 (b + 123) 0 v.toInt64)) : zAC σ b out 0 v g k gs tl tx := by
  have O1 := zOut_eq O E hn
  have K : ∀ q, q ≠ b + 123 → z_J (z_pJ σ1 (b + 123) 0 v.toInt64) q = z_J σ1 q := fun q hq => by
    funext j
    rw [z_J_pJ, if_neg (by intro h; exact hq h.1)]
  refine ⟨_, e, zC_reg (σ := σ1) (fun q _ _ => ⟨rfl, rfl, K q (by omega), rfl⟩) h, fun q h1 h2 => ?_, O1, fun _ => ?_⟩
  · have := E q h1 (by omega)
    exact ⟨this.1, this.2.1, (K q (by omega)).trans this.2.2.1, this.2.2.2⟩
  · rw [z_J_pJ, if_pos ⟨rfl, rfl⟩]
theorem zOut_ix (O : zOut σ b) : z_ix (0 : Int32) (z_ln σ (b + 123)) = true := by rw [O.2.1]; rfl
theorem zx_l {β : Type} (k : Nat) (A : Nat → Option β) (C : Int32 → Option β) : zx (.inl k) A C = A k := rfl
theorem zx_r {β : Type} (v : Int32) (A : Nat → Option β) (C : Int32 → Option β) : zx (.inr v) A C = C v := rfl
/-- the end of a case of the law: rows and answers agree -/
theorem L_fin {σ2 : zSt} {r v : Int32} {β : Type} {X Y : Option β} (o : z_ob σ2 (b + 118) 9 = true) (t : z_I σ2 (b + 118) 4 = r) (O : zOut σ2 b) (hJ : r = 0 → z_J σ2 (b + 123) 0 = v.toInt64) :
    (if z_ob σ2 (b + 118) 9 = true then zb (f_X10_thrown σ2 (b + 118)) (fun r12 => if r12 = r then (if r = 0 then (if z_ar σ2 (b + 123) 2 = true then (if z_ix (0 : Int32) (z_ln σ2 (b + 123)) = true then (if lg_cmp (z_J σ2 (b + 123) (0 : Int32).toNatClampNeg) v.toInt64 = 0 then X else Y) else none) else none) else X) else Y) else none) = X := by
  have e : f_X10_thrown σ2 (b + 118) = some (z_I σ2 (b + 118) 4) := by unfold f_X10_thrown; rw [if_pos o]
  rw [if_pos o, e, zb_eq, t, if_pos rfl]
  by_cases h0 : r = 0
  · rw [if_pos h0, if_pos O.1, if_pos (zOut_ix O), if_pos]
    rw [lg_cmp_eq]
    exact hJ h0
  · rw [if_neg h0]
/-- class and reference have answered: all is at rest again -/
theorem zW_fin {σ1 σ2 : zSt} {g' : zG} {k' tl' : Nat} {gs' : Nat → zG} {tx' : Nat → Int32} {B' V' : Nat} (hC : zC σ1 b g' k' gs' tl' tx') (O1 : zOut σ1 b) (hM : zM σ2 b g' k' gs' tl' tx') (F : zFM b σ1 σ2) (hI : s_I g' B' V') (hgs : ∀ i, i < k' → s_I (gs' i) B' V') (hk : k' ≤ 4) (ht : tl' ≤ 120) (htx : ∀ j, j < tl' → ∃ c, c < 128 ∧ tx' j = n32 c) : zW σ2 b g' k' gs' tl' tx' B' V' ∧ zOut σ2 b ∧ z_J σ2 = z_J σ1 := by
  have O2 : zOut σ2 b := ⟨by rw [z_ar_eq F.2.1]; exact O1.1, by rw [z_ln_eq F.2.1]; exact O1.2.1, by rw [F.1]; exact O1.2.2⟩
  exact ⟨⟨zC_reg (zEq_FM F (by omega)) hC, hM, hI, hgs, hk, ht, htx, O2⟩, O2, F.2.2.2.1⟩
end TOP
end
section
/-! THE LAW'S WRAPPERS around the class's calls -/
section WRAP
variable {σ : zSt} {b k tl : Nat} {g : zG} {gs : Nat → zG} {tx : Nat → Int32}
theorem w_addStation {x0 : Int32} {v : Int32} (O : zOut σ b) (ob : z_ob σ b 8 = true) (h : zA9 σ b (f_X9_addStation σ b x0) (.inr v) g k gs tl tx) : zAC σ b (f_L_addStation σ b x0 (b + 123)) 0 v g k gs tl tx := by
  obtain ⟨σ1, E, C, Q, n⟩ := h
  have O1 := zOut_eq O Q n
  refine zAC_v O C Q n ?_
  unfold f_L_addStation
  rw [if_pos ob, E, zb2_eq, zx_r, if_pos O1.1, if_pos (zOut_ix O1)]
  rfl
theorem x_addStation0 {x0 : Int32} (v : Int32) (O : zOut σ b) (ob : z_ob σ b 8 = true) (h : zA9 σ b (f_X9_addStation σ b x0) (.inl 0) g k gs tl tx) : zAC σ b (f_L_addStation σ b x0 (b + 123)) 1 v g k gs tl tx := by
  obtain ⟨σ1, E, C, Q, n⟩ := h
  refine zAC_x O C Q n (r := (1 : Int32)) ?_ (by decide)
  unfold f_L_addStation
  rw [if_pos ob, E, zb2_eq, zx_l]
  rfl
theorem x_addStation1 {x0 : Int32} (v : Int32) (O : zOut σ b) (ob : z_ob σ b 8 = true) (h : zA9 σ b (f_X9_addStation σ b x0) (.inl 1) g k gs tl tx) : zAC σ b (f_L_addStation σ b x0 (b + 123)) 2 v g k gs tl tx := by
  obtain ⟨σ1, E, C, Q, n⟩ := h
  refine zAC_x O C Q n (r := (2 : Int32)) ?_ (by decide)
  unfold f_L_addStation
  rw [if_pos ob, E, zb2_eq, zx_l]
  rfl
theorem w_setTimes {x0 x1 x2 : Int32} {v : Int32} (O : zOut σ b) (ob : z_ob σ b 8 = true) (h : zA9 σ b (f_X9_setTimes σ b x0 x1 x2) (.inr v) g k gs tl tx) : zAC σ b (f_L_setTimes σ b x0 x1 x2 (b + 123)) 0 v g k gs tl tx := by
  obtain ⟨σ1, E, C, Q, n⟩ := h
  have O1 := zOut_eq O Q n
  refine zAC_v O C Q n ?_
  unfold f_L_setTimes
  rw [if_pos ob, E, zb2_eq, zx_r, if_pos O1.1, if_pos (zOut_ix O1)]
  rfl
theorem x_setTimes0 {x0 x1 x2 : Int32} (v : Int32) (O : zOut σ b) (ob : z_ob σ b 8 = true) (h : zA9 σ b (f_X9_setTimes σ b x0 x1 x2) (.inl 0) g k gs tl tx) : zAC σ b (f_L_setTimes σ b x0 x1 x2 (b + 123)) 1 v g k gs tl tx := by
  obtain ⟨σ1, E, C, Q, n⟩ := h
  refine zAC_x O C Q n (r := (1 : Int32)) ?_ (by decide)
  unfold f_L_setTimes
  rw [if_pos ob, E, zb2_eq, zx_l]
  rfl
theorem w_give {x0 x1 x2 : Int32} {v : Int32} (O : zOut σ b) (ob : z_ob σ b 8 = true) (h : zA9 σ b (f_X9_give σ b x0 x1 x2) (.inr v) g k gs tl tx) : zAC σ b (f_L_give σ b x0 x1 x2 (b + 123)) 0 v g k gs tl tx := by
  obtain ⟨σ1, E, C, Q, n⟩ := h
  have O1 := zOut_eq O Q n
  refine zAC_v O C Q n ?_
  unfold f_L_give
  rw [if_pos ob, E, zb2_eq, zx_r, if_pos O1.1, if_pos (zOut_ix O1)]
  rfl
theorem x_give3 {x0 x1 x2 : Int32} (v : Int32) (O : zOut σ b) (ob : z_ob σ b 8 = true) (h : zA9 σ b (f_X9_give σ b x0 x1 x2) (.inl 3) g k gs tl tx) : zAC σ b (f_L_give σ b x0 x1 x2 (b + 123)) 1 v g k gs tl tx := by
  obtain ⟨σ1, E, C, Q, n⟩ := h
  refine zAC_x O C Q n (r := (1 : Int32)) ?_ (by decide)
  unfold f_L_give
  rw [if_pos ob, E, zb2_eq, zx_l]
  rfl
theorem x_give0 {x0 x1 x2 : Int32} (v : Int32) (O : zOut σ b) (ob : z_ob σ b 8 = true) (h : zA9 σ b (f_X9_give σ b x0 x1 x2) (.inl 0) g k gs tl tx) : zAC σ b (f_L_give σ b x0 x1 x2 (b + 123)) 2 v g k gs tl tx := by
  obtain ⟨σ1, E, C, Q, n⟩ := h
  refine zAC_x O C Q n (r := (2 : Int32)) ?_ (by decide)
  unfold f_L_give
  rw [if_pos ob, E, zb2_eq, zx_l]
  rfl
theorem x_give1 {x0 x1 x2 : Int32} (v : Int32) (O : zOut σ b) (ob : z_ob σ b 8 = true) (h : zA9 σ b (f_X9_give σ b x0 x1 x2) (.inl 1) g k gs tl tx) : zAC σ b (f_L_give σ b x0 x1 x2 (b + 123)) 3 v g k gs tl tx := by
  obtain ⟨σ1, E, C, Q, n⟩ := h
  refine zAC_x O C Q n (r := (3 : Int32)) ?_ (by decide)
  unfold f_L_give
  rw [if_pos ob, E, zb2_eq, zx_l]
  rfl
theorem w_addNoise {x0 x1 : Int32} {v : Int32} (O : zOut σ b) (ob : z_ob σ b 8 = true) (h : zA9 σ b (f_X9_addNoise σ b x0 x1) (.inr v) g k gs tl tx) : zAC σ b (f_L_addNoise σ b x0 x1 (b + 123)) 0 v g k gs tl tx := by
  obtain ⟨σ1, E, C, Q, n⟩ := h
  have O1 := zOut_eq O Q n
  refine zAC_v O C Q n ?_
  unfold f_L_addNoise
  rw [if_pos ob, E, zb2_eq, zx_r, if_pos O1.1, if_pos (zOut_ix O1)]
  rfl
theorem x_addNoise0 {x0 x1 : Int32} (v : Int32) (O : zOut σ b) (ob : z_ob σ b 8 = true) (h : zA9 σ b (f_X9_addNoise σ b x0 x1) (.inl 0) g k gs tl tx) : zAC σ b (f_L_addNoise σ b x0 x1 (b + 123)) 1 v g k gs tl tx := by
  obtain ⟨σ1, E, C, Q, n⟩ := h
  refine zAC_x O C Q n (r := (1 : Int32)) ?_ (by decide)
  unfold f_L_addNoise
  rw [if_pos ob, E, zb2_eq, zx_l]
  rfl
theorem x_addNoise1 {x0 x1 : Int32} (v : Int32) (O : zOut σ b) (ob : z_ob σ b 8 = true) (h : zA9 σ b (f_X9_addNoise σ b x0 x1) (.inl 1) g k gs tl tx) : zAC σ b (f_L_addNoise σ b x0 x1 (b + 123)) 2 v g k gs tl tx := by
  obtain ⟨σ1, E, C, Q, n⟩ := h
  refine zAC_x O C Q n (r := (2 : Int32)) ?_ (by decide)
  unfold f_L_addNoise
  rw [if_pos ob, E, zb2_eq, zx_l]
  rfl
theorem w_run {x0 : Int32} {v : Int32} (O : zOut σ b) (ob : z_ob σ b 8 = true) (h : zA9 σ b (f_X9_run σ b x0) (.inr v) g k gs tl tx) : zAC σ b (f_L_run σ b x0 (b + 123)) 0 v g k gs tl tx := by
  obtain ⟨σ1, E, C, Q, n⟩ := h
  have O1 := zOut_eq O Q n
  refine zAC_v O C Q n ?_
  unfold f_L_run
  rw [if_pos ob, E, zb2_eq, zx_r, if_pos O1.1, if_pos (zOut_ix O1)]
  rfl
theorem x_run0 {x0 : Int32} (v : Int32) (O : zOut σ b) (ob : z_ob σ b 8 = true) (h : zA9 σ b (f_X9_run σ b x0) (.inl 0) g k gs tl tx) : zAC σ b (f_L_run σ b x0 (b + 123)) 1 v g k gs tl tx := by
  obtain ⟨σ1, E, C, Q, n⟩ := h
  refine zAC_x O C Q n (r := (1 : Int32)) ?_ (by decide)
  unfold f_L_run
  rw [if_pos ob, E, zb2_eq, zx_l]
  rfl
theorem x_run1 {x0 : Int32} (v : Int32) (O : zOut σ b) (ob : z_ob σ b 8 = true) (h : zA9 σ b (f_X9_run σ b x0) (.inl 1) g k gs tl tx) : zAC σ b (f_L_run σ b x0 (b + 123)) 2 v g k gs tl tx := by
  obtain ⟨σ1, E, C, Q, n⟩ := h
  refine zAC_x O C Q n (r := (2 : Int32)) ?_ (by decide)
  unfold f_L_run
  rw [if_pos ob, E, zb2_eq, zx_l]
  rfl
theorem w_setting {x0 : Int32} {v : Int32} (O : zOut σ b) (ob : z_ob σ b 8 = true) (h : zA9 σ b (f_X9_setting σ b x0) (.inr v) g k gs tl tx) : zAC σ b (f_L_setting σ b x0 (b + 123)) 0 v g k gs tl tx := by
  obtain ⟨σ1, E, C, Q, n⟩ := h
  have O1 := zOut_eq O Q n
  refine zAC_v O C Q n ?_
  unfold f_L_setting
  rw [if_pos ob, E, zb2_eq, zx_r, if_pos O1.1, if_pos (zOut_ix O1)]
  rfl
theorem x_setting0 {x0 : Int32} (v : Int32) (O : zOut σ b) (ob : z_ob σ b 8 = true) (h : zA9 σ b (f_X9_setting σ b x0) (.inl 0) g k gs tl tx) : zAC σ b (f_L_setting σ b x0 (b + 123)) 1 v g k gs tl tx := by
  obtain ⟨σ1, E, C, Q, n⟩ := h
  refine zAC_x O C Q n (r := (1 : Int32)) ?_ (by decide)
  unfold f_L_setting
  rw [if_pos ob, E, zb2_eq, zx_l]
  rfl
theorem w_station {x0 x1 : Int32} {v : Int32} (O : zOut σ b) (ob : z_ob σ b 8 = true) (h : zA9 σ b (f_X9_station σ b x0 x1) (.inr v) g k gs tl tx) : zAC σ b (f_L_station σ b x0 x1 (b + 123)) 0 v g k gs tl tx := by
  obtain ⟨σ1, E, C, Q, n⟩ := h
  have O1 := zOut_eq O Q n
  refine zAC_v O C Q n ?_
  unfold f_L_station
  rw [if_pos ob, E, zb2_eq, zx_r, if_pos O1.1, if_pos (zOut_ix O1)]
  rfl
theorem x_station3 {x0 x1 : Int32} (v : Int32) (O : zOut σ b) (ob : z_ob σ b 8 = true) (h : zA9 σ b (f_X9_station σ b x0 x1) (.inl 3) g k gs tl tx) : zAC σ b (f_L_station σ b x0 x1 (b + 123)) 1 v g k gs tl tx := by
  obtain ⟨σ1, E, C, Q, n⟩ := h
  refine zAC_x O C Q n (r := (1 : Int32)) ?_ (by decide)
  unfold f_L_station
  rw [if_pos ob, E, zb2_eq, zx_l]
  rfl
theorem x_station0 {x0 x1 : Int32} (v : Int32) (O : zOut σ b) (ob : z_ob σ b 8 = true) (h : zA9 σ b (f_X9_station σ b x0 x1) (.inl 0) g k gs tl tx) : zAC σ b (f_L_station σ b x0 x1 (b + 123)) 2 v g k gs tl tx := by
  obtain ⟨σ1, E, C, Q, n⟩ := h
  refine zAC_x O C Q n (r := (2 : Int32)) ?_ (by decide)
  unfold f_L_station
  rw [if_pos ob, E, zb2_eq, zx_l]
  rfl
theorem w_addressAt {x0 : Int32} {v : Int32} (O : zOut σ b) (ob : z_ob σ b 8 = true) (h : zA9 σ b (f_X9_addressAt σ b x0) (.inr v) g k gs tl tx) : zAC σ b (f_L_addressAt σ b x0 (b + 123)) 0 v g k gs tl tx := by
  obtain ⟨σ1, E, C, Q, n⟩ := h
  have O1 := zOut_eq O Q n
  refine zAC_v O C Q n ?_
  unfold f_L_addressAt
  rw [if_pos ob, E, zb2_eq, zx_r, if_pos O1.1, if_pos (zOut_ix O1)]
  rfl
theorem x_addressAt2 {x0 : Int32} (v : Int32) (O : zOut σ b) (ob : z_ob σ b 8 = true) (h : zA9 σ b (f_X9_addressAt σ b x0) (.inl 2) g k gs tl tx) : zAC σ b (f_L_addressAt σ b x0 (b + 123)) 1 v g k gs tl tx := by
  obtain ⟨σ1, E, C, Q, n⟩ := h
  refine zAC_x O C Q n (r := (1 : Int32)) ?_ (by decide)
  unfold f_L_addressAt
  rw [if_pos ob, E, zb2_eq, zx_l]
  rfl
theorem w_queued {x0 x1 : Int32} {v : Int32} (O : zOut σ b) (ob : z_ob σ b 8 = true) (h : zA9 σ b (f_X9_queued σ b x0 x1) (.inr v) g k gs tl tx) : zAC σ b (f_L_queued σ b x0 x1 (b + 123)) 0 v g k gs tl tx := by
  obtain ⟨σ1, E, C, Q, n⟩ := h
  have O1 := zOut_eq O Q n
  refine zAC_v O C Q n ?_
  unfold f_L_queued
  rw [if_pos ob, E, zb2_eq, zx_r, if_pos O1.1, if_pos (zOut_ix O1)]
  rfl
theorem x_queued3 {x0 x1 : Int32} (v : Int32) (O : zOut σ b) (ob : z_ob σ b 8 = true) (h : zA9 σ b (f_X9_queued σ b x0 x1) (.inl 3) g k gs tl tx) : zAC σ b (f_L_queued σ b x0 x1 (b + 123)) 1 v g k gs tl tx := by
  obtain ⟨σ1, E, C, Q, n⟩ := h
  refine zAC_x O C Q n (r := (1 : Int32)) ?_ (by decide)
  unfold f_L_queued
  rw [if_pos ob, E, zb2_eq, zx_l]
  rfl
theorem x_queued2 {x0 x1 : Int32} (v : Int32) (O : zOut σ b) (ob : z_ob σ b 8 = true) (h : zA9 σ b (f_X9_queued σ b x0 x1) (.inl 2) g k gs tl tx) : zAC σ b (f_L_queued σ b x0 x1 (b + 123)) 2 v g k gs tl tx := by
  obtain ⟨σ1, E, C, Q, n⟩ := h
  refine zAC_x O C Q n (r := (2 : Int32)) ?_ (by decide)
  unfold f_L_queued
  rw [if_pos ob, E, zb2_eq, zx_l]
  rfl
theorem w_message {x0 x1 : Int32} {v : Int32} (O : zOut σ b) (ob : z_ob σ b 8 = true) (h : zA9 σ b (f_X9_message σ b x0 x1) (.inr v) g k gs tl tx) : zAC σ b (f_L_message σ b x0 x1 (b + 123)) 0 v g k gs tl tx := by
  obtain ⟨σ1, E, C, Q, n⟩ := h
  have O1 := zOut_eq O Q n
  refine zAC_v O C Q n ?_
  unfold f_L_message
  rw [if_pos ob, E, zb2_eq, zx_r, if_pos O1.1, if_pos (zOut_ix O1)]
  rfl
theorem x_message2 {x0 x1 : Int32} (v : Int32) (O : zOut σ b) (ob : z_ob σ b 8 = true) (h : zA9 σ b (f_X9_message σ b x0 x1) (.inl 2) g k gs tl tx) : zAC σ b (f_L_message σ b x0 x1 (b + 123)) 1 v g k gs tl tx := by
  obtain ⟨σ1, E, C, Q, n⟩ := h
  refine zAC_x O C Q n (r := (1 : Int32)) ?_ (by decide)
  unfold f_L_message
  rw [if_pos ob, E, zb2_eq, zx_l]
  rfl
theorem x_message0 {x0 x1 : Int32} (v : Int32) (O : zOut σ b) (ob : z_ob σ b 8 = true) (h : zA9 σ b (f_X9_message σ b x0 x1) (.inl 0) g k gs tl tx) : zAC σ b (f_L_message σ b x0 x1 (b + 123)) 2 v g k gs tl tx := by
  obtain ⟨σ1, E, C, Q, n⟩ := h
  refine zAC_x O C Q n (r := (2 : Int32)) ?_ (by decide)
  unfold f_L_message
  rw [if_pos ob, E, zb2_eq, zx_l]
  rfl
theorem w_count {x0 : Int32} {v : Int32} (O : zOut σ b) (ob : z_ob σ b 8 = true) (h : zA9 σ b (f_X9_count σ b x0) (.inr v) g k gs tl tx) : zAC σ b (f_L_count σ b x0 (b + 123)) 0 v g k gs tl tx := by
  obtain ⟨σ1, E, C, Q, n⟩ := h
  have O1 := zOut_eq O Q n
  refine zAC_v O C Q n ?_
  unfold f_L_count
  rw [if_pos ob, E, zb2_eq, zx_r, if_pos O1.1, if_pos (zOut_ix O1)]
  rfl
theorem x_count0 {x0 : Int32} (v : Int32) (O : zOut σ b) (ob : z_ob σ b 8 = true) (h : zA9 σ b (f_X9_count σ b x0) (.inl 0) g k gs tl tx) : zAC σ b (f_L_count σ b x0 (b + 123)) 1 v g k gs tl tx := by
  obtain ⟨σ1, E, C, Q, n⟩ := h
  refine zAC_x O C Q n (r := (1 : Int32)) ?_ (by decide)
  unfold f_L_count
  rw [if_pos ob, E, zb2_eq, zx_l]
  rfl
theorem w_visit {x0 x1 : Int32} {v : Int32} (O : zOut σ b) (ob : z_ob σ b 8 = true) (h : zA9 σ b (f_X9_visit σ b x0 x1) (.inr v) g k gs tl tx) : zAC σ b (f_L_visit σ b x0 x1 (b + 123)) 0 v g k gs tl tx := by
  obtain ⟨σ1, E, C, Q, n⟩ := h
  have O1 := zOut_eq O Q n
  refine zAC_v O C Q n ?_
  unfold f_L_visit
  rw [if_pos ob, E, zb2_eq, zx_r, if_pos O1.1, if_pos (zOut_ix O1)]
  rfl
theorem x_visit2 {x0 x1 : Int32} (v : Int32) (O : zOut σ b) (ob : z_ob σ b 8 = true) (h : zA9 σ b (f_X9_visit σ b x0 x1) (.inl 2) g k gs tl tx) : zAC σ b (f_L_visit σ b x0 x1 (b + 123)) 1 v g k gs tl tx := by
  obtain ⟨σ1, E, C, Q, n⟩ := h
  refine zAC_x O C Q n (r := (1 : Int32)) ?_ (by decide)
  unfold f_L_visit
  rw [if_pos ob, E, zb2_eq, zx_l]
  rfl
theorem x_visit0 {x0 x1 : Int32} (v : Int32) (O : zOut σ b) (ob : z_ob σ b 8 = true) (h : zA9 σ b (f_X9_visit σ b x0 x1) (.inl 0) g k gs tl tx) : zAC σ b (f_L_visit σ b x0 x1 (b + 123)) 2 v g k gs tl tx := by
  obtain ⟨σ1, E, C, Q, n⟩ := h
  refine zAC_x O C Q n (r := (2 : Int32)) ?_ (by decide)
  unfold f_L_visit
  rw [if_pos ob, E, zb2_eq, zx_l]
  rfl
theorem w_waitOf {x0 : Int32} {v : Int32} (O : zOut σ b) (ob : z_ob σ b 8 = true) (h : zA9 σ b (f_X9_waitOf σ b x0) (.inr v) g k gs tl tx) : zAC σ b (f_L_waitOf σ b x0 (b + 123)) 0 v g k gs tl tx := by
  obtain ⟨σ1, E, C, Q, n⟩ := h
  have O1 := zOut_eq O Q n
  refine zAC_v O C Q n ?_
  unfold f_L_waitOf
  rw [if_pos ob, E, zb2_eq, zx_r, if_pos O1.1, if_pos (zOut_ix O1)]
  rfl
theorem x_waitOf2 {x0 : Int32} (v : Int32) (O : zOut σ b) (ob : z_ob σ b 8 = true) (h : zA9 σ b (f_X9_waitOf σ b x0) (.inl 2) g k gs tl tx) : zAC σ b (f_L_waitOf σ b x0 (b + 123)) 1 v g k gs tl tx := by
  obtain ⟨σ1, E, C, Q, n⟩ := h
  refine zAC_x O C Q n (r := (1 : Int32)) ?_ (by decide)
  unfold f_L_waitOf
  rw [if_pos ob, E, zb2_eq, zx_l]
  rfl
theorem x_waitOf1 {x0 : Int32} (v : Int32) (O : zOut σ b) (ob : z_ob σ b 8 = true) (h : zA9 σ b (f_X9_waitOf σ b x0) (.inl 1) g k gs tl tx) : zAC σ b (f_L_waitOf σ b x0 (b + 123)) 2 v g k gs tl tx := by
  obtain ⟨σ1, E, C, Q, n⟩ := h
  refine zAC_x O C Q n (r := (2 : Int32)) ?_ (by decide)
  unfold f_L_waitOf
  rw [if_pos ob, E, zb2_eq, zx_l]
  rfl
theorem w_completeAfter {v : Int32} (O : zOut σ b) (ob : z_ob σ b 8 = true) (h : zA9 σ b (f_X9_completeAfter σ b) (.inr v) g k gs tl tx) : zAC σ b (f_L_completeAfter σ b (b + 123)) 0 v g k gs tl tx := by
  obtain ⟨σ1, E, C, Q, n⟩ := h
  have O1 := zOut_eq O Q n
  refine zAC_v O C Q n ?_
  unfold f_L_completeAfter
  rw [if_pos ob, E, zb2_eq, zx_r, if_pos O1.1, if_pos (zOut_ix O1)]
  rfl
theorem x_completeAfter1 (v : Int32) (O : zOut σ b) (ob : z_ob σ b 8 = true) (h : zA9 σ b (f_X9_completeAfter σ b) (.inl 1) g k gs tl tx) : zAC σ b (f_L_completeAfter σ b (b + 123)) 1 v g k gs tl tx := by
  obtain ⟨σ1, E, C, Q, n⟩ := h
  refine zAC_x O C Q n (r := (1 : Int32)) ?_ (by decide)
  unfold f_L_completeAfter
  rw [if_pos ob, E, zb2_eq, zx_l]
  rfl
theorem w_leastTarget {x0 : Int32} {v : Int32} (O : zOut σ b) (ob : z_ob σ b 8 = true) (h : zA9 σ b (f_X9_leastTarget σ b x0) (.inr v) g k gs tl tx) : zAC σ b (f_L_leastTarget σ b x0 (b + 123)) 0 v g k gs tl tx := by
  obtain ⟨σ1, E, C, Q, n⟩ := h
  have O1 := zOut_eq O Q n
  refine zAC_v O C Q n ?_
  unfold f_L_leastTarget
  rw [if_pos ob, E, zb2_eq, zx_r, if_pos O1.1, if_pos (zOut_ix O1)]
  rfl
theorem x_leastTarget0 {x0 : Int32} (v : Int32) (O : zOut σ b) (ob : z_ob σ b 8 = true) (h : zA9 σ b (f_X9_leastTarget σ b x0) (.inl 0) g k gs tl tx) : zAC σ b (f_L_leastTarget σ b x0 (b + 123)) 1 v g k gs tl tx := by
  obtain ⟨σ1, E, C, Q, n⟩ := h
  refine zAC_x O C Q n (r := (1 : Int32)) ?_ (by decide)
  unfold f_L_leastTarget
  rw [if_pos ob, E, zb2_eq, zx_l]
  rfl
theorem x_leastTarget1 {x0 : Int32} (v : Int32) (O : zOut σ b) (ob : z_ob σ b 8 = true) (h : zA9 σ b (f_X9_leastTarget σ b x0) (.inl 1) g k gs tl tx) : zAC σ b (f_L_leastTarget σ b x0 (b + 123)) 2 v g k gs tl tx := by
  obtain ⟨σ1, E, C, Q, n⟩ := h
  refine zAC_x O C Q n (r := (2 : Int32)) ?_ (by decide)
  unfold f_L_leastTarget
  rw [if_pos ob, E, zb2_eq, zx_l]
  rfl
theorem w_append {x0 : Int32} {v : Int32} (O : zOut σ b) (ob : z_ob σ b 8 = true) (h : zA9 σ b (f_X9_append σ b x0) (.inr v) g k gs tl tx) : zAC σ b (f_L_append σ b x0 (b + 123)) 0 v g k gs tl tx := by
  obtain ⟨σ1, E, C, Q, n⟩ := h
  have O1 := zOut_eq O Q n
  refine zAC_v O C Q n ?_
  unfold f_L_append
  rw [if_pos ob, E, zb2_eq, zx_r, if_pos O1.1, if_pos (zOut_ix O1)]
  rfl
theorem x_append0 {x0 : Int32} (v : Int32) (O : zOut σ b) (ob : z_ob σ b 8 = true) (h : zA9 σ b (f_X9_append σ b x0) (.inl 0) g k gs tl tx) : zAC σ b (f_L_append σ b x0 (b + 123)) 1 v g k gs tl tx := by
  obtain ⟨σ1, E, C, Q, n⟩ := h
  refine zAC_x O C Q n (r := (1 : Int32)) ?_ (by decide)
  unfold f_L_append
  rw [if_pos ob, E, zb2_eq, zx_l]
  rfl
theorem x_append1 {x0 : Int32} (v : Int32) (O : zOut σ b) (ob : z_ob σ b 8 = true) (h : zA9 σ b (f_X9_append σ b x0) (.inl 1) g k gs tl tx) : zAC σ b (f_L_append σ b x0 (b + 123)) 2 v g k gs tl tx := by
  obtain ⟨σ1, E, C, Q, n⟩ := h
  refine zAC_x O C Q n (r := (2 : Int32)) ?_ (by decide)
  unfold f_L_append
  rw [if_pos ob, E, zb2_eq, zx_l]
  rfl
theorem w_undo {v : Int32} (O : zOut σ b) (ob : z_ob σ b 8 = true) (h : zA9 σ b (f_X9_undo σ b) (.inr v) g k gs tl tx) : zAC σ b (f_L_undo σ b (b + 123)) 0 v g k gs tl tx := by
  obtain ⟨σ1, E, C, Q, n⟩ := h
  have O1 := zOut_eq O Q n
  refine zAC_v O C Q n ?_
  unfold f_L_undo
  rw [if_pos ob, E, zb2_eq, zx_r, if_pos O1.1, if_pos (zOut_ix O1)]
  rfl
theorem x_undo1 (v : Int32) (O : zOut σ b) (ob : z_ob σ b 8 = true) (h : zA9 σ b (f_X9_undo σ b) (.inl 1) g k gs tl tx) : zAC σ b (f_L_undo σ b (b + 123)) 1 v g k gs tl tx := by
  obtain ⟨σ1, E, C, Q, n⟩ := h
  refine zAC_x O C Q n (r := (1 : Int32)) ?_ (by decide)
  unfold f_L_undo
  rw [if_pos ob, E, zb2_eq, zx_l]
  rfl
theorem w_setOn {x0 x1 : Int32} {c : Bool} (O : zOut σ b) (ob : z_ob σ b 8 = true) (h : zA9 σ b (f_X9_setOn σ b x0 x1) (.inr (bi c)) g k gs tl tx) : zAC σ b (f_L_setOn σ b x0 x1 (b + 123)) 0 (bi c) g k gs tl tx := by
  obtain ⟨σ1, E, C, Q, n⟩ := h
  have O1 := zOut_eq O Q n
  refine zAC_v O C Q n ?_
  unfold f_L_setOn
  rw [if_pos ob, E, zb2_eq, zx_r]
  cases c with
  | true =>
    rw [if_neg (by decide)]
    unfold f_L_setOn_16
    rw [zc_some, if_pos O1.1, if_pos (zOut_ix O1)]
    rfl
  | false =>
    rw [if_pos (by decide)]
    unfold f_L_setOn_16
    rw [zc_some, if_pos O1.1, if_pos (zOut_ix O1)]
    rfl
theorem x_setOn3 {x0 x1 : Int32} (v : Int32) (O : zOut σ b) (ob : z_ob σ b 8 = true) (h : zA9 σ b (f_X9_setOn σ b x0 x1) (.inl 3) g k gs tl tx) : zAC σ b (f_L_setOn σ b x0 x1 (b + 123)) 1 v g k gs tl tx := by
  obtain ⟨σ1, E, C, Q, n⟩ := h
  refine zAC_x O C Q n (r := (1 : Int32)) ?_ (by decide)
  unfold f_L_setOn
  rw [if_pos ob, E, zb2_eq, zx_l]
  rfl
theorem w_isNoisy {x0 : Int32} {c : Bool} (O : zOut σ b) (ob : z_ob σ b 8 = true) (h : zA9 σ b (f_X9_isNoisy σ b x0) (.inr (bi c)) g k gs tl tx) : zAC σ b (f_L_isNoisy σ b x0 (b + 123)) 0 (bi c) g k gs tl tx := by
  obtain ⟨σ1, E, C, Q, n⟩ := h
  have O1 := zOut_eq O Q n
  refine zAC_v O C Q n ?_
  unfold f_L_isNoisy
  rw [if_pos ob, E, zb2_eq, zx_r]
  cases c with
  | true =>
    rw [if_neg (by decide)]
    unfold f_L_isNoisy_15
    rw [zc_some, if_pos O1.1, if_pos (zOut_ix O1)]
    rfl
  | false =>
    rw [if_pos (by decide)]
    unfold f_L_isNoisy_15
    rw [zc_some, if_pos O1.1, if_pos (zOut_ix O1)]
    rfl
theorem x_isNoisy0 {x0 : Int32} (v : Int32) (O : zOut σ b) (ob : z_ob σ b 8 = true) (h : zA9 σ b (f_X9_isNoisy σ b x0) (.inl 0) g k gs tl tx) : zAC σ b (f_L_isNoisy σ b x0 (b + 123)) 1 v g k gs tl tx := by
  obtain ⟨σ1, E, C, Q, n⟩ := h
  refine zAC_x O C Q n (r := (1 : Int32)) ?_ (by decide)
  unfold f_L_isNoisy
  rw [if_pos ob, E, zb2_eq, zx_l]
  rfl
end WRAP
end
section
/-! WHAT THE CALLS ANSWER: tools -/
def zP (σ : zSt) (b : Nat) (g : zG) (k : Nat) (gs : Nat → zG) (tl : Nat) (tx : Nat → Int32) (B V : Nat) (fc : Option (Int32 × zSt)) (fm : zSt → Option (Int32 × zSt)) : Prop :=
  ∃ r v g' k' gs' tl' tx', zAC σ b fc r v g' k' gs' tl' tx' ∧ (∀ σ1, zM σ1 b g k gs tl tx → zAM σ1 b (fm σ1) r v g' k' gs' tl' tx') ∧ s_I g' B (V + 300) ∧ (∀ i, i < k' → s_I (gs' i) B (V + 300)) ∧ k' ≤ 4 ∧ tl' ≤ 120 ∧ ∀ j, j < tl' → ∃ c, c < 128 ∧ tx' j = n32 c
theorem i64_lit (k : Nat) : (OfNat.ofNat k : Int64) = Int64.ofNat (OfNat.ofNat k) := rfl
theorem c_win1 (σ : zSt) {lo hi : Nat} {x : Int32} (h1 : lo < 2147483648) (h2 : hi < 2147483648) (h : (lo : Int) ≤ x.toInt ∧ x.toInt ≤ hi) : f_X9_isWithin σ x (n32 lo) (n32 hi) = some (bi true) := by
  rw [c_isWithin, n32_toInt h1, n32_toInt h2, decide_eq_true h]
theorem c_win0 (σ : zSt) {lo hi : Nat} {x : Int32} (h1 : lo < 2147483648) (h2 : hi < 2147483648) (h : ¬ ((lo : Int) ≤ x.toInt ∧ x.toInt ≤ hi)) : f_X9_isWithin σ x (n32 lo) (n32 hi) = some (bi false) := by
  rw [c_isWithin, n32_toInt h1, n32_toInt h2, decide_eq_false h]
theorem m_win1 (σ : zSt) {lo hi : Nat} {x : Int32} (h1 : lo < 2147483648) (h2 : hi < 2147483648) (h : (lo : Int) ≤ x.toInt ∧ x.toInt ≤ hi) : f_X10_in σ x.toInt64 (Int64.ofNat lo) (Int64.ofNat hi) = some (bi true) := by
  rw [m_inN σ x h1 h2, decide_eq_true h]
theorem m_win0 (σ : zSt) {lo hi : Nat} {x : Int32} (h1 : lo < 2147483648) (h2 : hi < 2147483648) (h : ¬ ((lo : Int) ≤ x.toInt ∧ x.toInt ≤ hi)) : f_X10_in σ x.toInt64 (Int64.ofNat lo) (Int64.ofNat hi) = some (bi false) := by
  rw [m_inN σ x h1 h2, decide_eq_false h]
theorem n32_m1 {n : Nat} (h : n < 2147483648) : (n32 n - n32 1).toInt = (n : Int) - 1 := by
  rcases n with _ | n
  · decide
  · rw [n32_sub (by omega), n32_toInt (by omega)]; omega
theorem c_winm (σ : zSt) {n : Nat} {x : Int32} (h : n < 2147483648) : f_X9_isWithin σ x (n32 0) (n32 n - n32 1) = some (bi (decide (0 ≤ x.toInt ∧ x.toInt < n))) := by
  rw [c_isWithin, n32_toInt (by omega), n32_m1 h]
  congr 2
  apply decide_eq_decide.2
  omega
theorem m_winm (σ : zSt) {n : Nat} {x : Int32} (h : n < 2147483648) : f_X10_in σ x.toInt64 (Int64.ofNat 0) ((n32 n).toInt64 - Int64.ofNat 1) = some (bi (decide (0 ≤ x.toInt ∧ x.toInt < n))) := by
  have e : ((n32 n).toInt64 - Int64.ofNat 1).toInt = (n : Int) - 1 := by
    rw [Int64.toInt_sub, Int32.toInt_toInt64, n32_toInt h, Int64.toInt_ofNat_of_lt (by omega)]
    apply Int.bmod_eq_of_le <;> omega
  rw [m_in64]
  congr 2
  rw [← Bool.decide_and]
  apply decide_eq_decide.2
  rw [i64_ge (by omega), Int64.le_iff_toInt_le, e, Int32.toInt_toInt64]
  omega
section TOP
variable {σ : zSt} {b k tl : Nat} {g : zG} {gs : Nat → zG} {tx : Nat → Int32} {B V : Nat}
theorem zP_q (h : zW σ b g k gs tl tx B V) {fc : Option (Int32 × zSt)} {fm : zSt → Option (Int32 × zSt)} {r v : Int32} (hc : zAC σ b fc r v g k gs tl tx) (hm : ∀ σ1, zM σ1 b g k gs tl tx → zAM σ1 b (fm σ1) r v g k gs tl tx) : zP σ b g k gs tl tx B V fc fm :=
  ⟨r, v, g, k, gs, tl, tx, hc, hm, s_I_w h.2.2.1 (Nat.le_refl _) (by omega), fun i hi => s_I_w (h.2.2.2.1 i hi) (Nat.le_refl _) (by omega), h.2.2.2.2.1, h.2.2.2.2.2.1, h.2.2.2.2.2.2.1⟩
theorem zAM_q (h : zM σ b g k gs tl tx) {out : Option (Int32 × zSt)} {r v : Int32} (E : out = some (v, z_sA σ (b + 118) (gu (z_I σ (b + 118)) 4 r))) : zAM σ b out r v g k gs tl tx := by
  have := zM_thr h r
  exact ⟨_, E, this.1, this.2.1, this.2.2⟩
theorem zC_open (h : zC σ b g k gs tl tx) (hI : s_I g B V) : z_ob σ b 8 = true ∧ z_R σ b 0 = some (b + 1) ∧ z_ob σ (b + 1) 2 = true ∧ ∃ pl ad qu n, zCs σ (b + 1) pl ad qu n g ∧ qG σ (b + 1) g := by
  obtain ⟨t, ⟨pl, ad, qu, n, h1, h2, h3, h4⟩, _⟩ := h
  exact ⟨t.1, t.2.1, h1.1, pl, ad, qu, n, ⟨h1, h2, h3, s_I_6 hI, s_I_sta hI⟩, h4⟩
theorem m_gs (hM : zMs σ (b + 118)) {x y z : Int32} (a c d : Bool) (hx : x = bi a) (hy : y = bi c) (hz : z = bi d) : f_X10_goes σ (b + 118) x y z = some (bi (a && c && d), z_sA σ (b + 118) (gu (z_I σ (b + 118)) 4 (s_goes a c d))) := by
  rw [hx, hy, hz]; exact m_goes hM a c d
theorem c_findx {a n : Nat} {pl ad : Nat → Nat} {qu : Nat → Nat → Nat} (h : zCs σ a pl ad qu n g) {x : Int32} (hx : ¬ (0 ≤ x.toInt ∧ x.toInt ≤ 31)) : f_X2_stationWith σ a x = some none := by
  obtain ⟨hL, hP, ⟨hRL, hRW, hRM, hRN, hRC, hRA, hRS, hRQ⟩, _, _⟩ := h
  refine c_stationWith0 hL hP hRA.1 hRL.1 _ (fun i hi he => ?_)
  have h32 := (hRA.2.1 i hi).1
  rw [(hRS i hi).1] at he
  rw [← he, n32_toInt (by omega)] at hx
  omega
/-- the station that an address names, on both sides -/
theorem p_find {a n : Nat} {pl ad : Nat → Nat} {qu : Nat → Nat → Nat} (h : zCs σ a pl ad qu n g) (x : Int32) : (∃ i, i < n ∧ x = n32 (ad i) ∧ f_X2_stationWith σ a x = some (some (pl i)) ∧ ∀ σ1, zM σ1 b g k gs tl tx → f_X10_isStation σ1 (b + 118) x = some (bi true)) ∨ (f_X2_stationWith σ a x = some none ∧ (∀ σ1, zM σ1 b g k gs tl tx → f_X10_isStation σ1 (b + 118) x = some (bi false)) ∧ ∀ y, y < 32 → x = n32 y → ¬ g (18 + 7 * y + 0) = n32 1) := by
  by_cases hx : 0 ≤ x.toInt ∧ x.toInt ≤ 31
  · obtain ⟨y, hy, rfl⟩ := n32_of2 hx.1 (k := 31) hx.2 (by omega)
    have S := fun σ1 (hM : zM σ1 b g k gs tl tx) => m_isSt1 hM.1 (show y < 32 by omega)
    rcases c_is h (show y < 32 by omega) with h0 | ⟨h0, i, hi, rfl⟩
    · right
      refine ⟨c_find0 h (by omega) (by rw [h0]; decide), fun σ1 hM => ?_, fun y' hy' he => ?_⟩
      · rw [S σ1 hM]
        have e : z_I σ1 (b + 118 + 1) = g := hM.2.1
        rw [e, h0]; rfl
      · rw [n32_eq (by omega) (by omega)] at he
        rw [← he, h0]; decide
    · left
      refine ⟨i, hi, rfl, c_find1 h hi, fun σ1 hM => ?_⟩
      rw [S σ1 hM]
      have e : z_I σ1 (b + 118 + 1) = g := hM.2.1
      rw [e, h0]; rfl
  · right
    refine ⟨c_findx h hx, fun σ1 hM => m_isSt0 x hx, fun y hy he => ?_⟩
    rw [he, n32_toInt (by omega)] at hx
    omega
end TOP
end
section
/-! WHAT THE CALLS ANSWER: questions -/
section TOP
variable {σ : zSt} {b k tl : Nat} {g : zG} {gs : Nat → zG} {tx : Nat → Int32} {B V : Nat}
theorem bt0 : (bi true = 0) = False := eq_false (by decide)
theorem bt0' : (bi true = n32 0) = False := eq_false (by decide)
theorem bf0' : (bi false = n32 0) = True := eq_true (by decide)
theorem p_setting (h : zW σ b g k gs tl tx B V) (hB : B = 1740000) (hV : V ≤ 1000000) (x : Int32) : zP σ b g k gs tl tx B V (f_L_setting σ b x (b + 123)) (fun σ1 => f_X10_setting σ1 (b + 118) x) := by
  have hI := h.2.2.1
  have O := h.2.2.2.2.2.2.2
  obtain ⟨o8, r0, o2, pl, ad, qu, n, hs, hG⟩ := zC_open h.1 hI
  by_cases hx : ((0 : Nat) : Int) ≤ x.toInt ∧ x.toInt ≤ ((8 : Nat) : Int)
  · have W := fun σ => c_win1 σ (by omega) (by omega) hx
    have W2 := fun σ => m_win1 σ (by omega) (by omega) hx
    obtain ⟨w, hw, rfl⟩ := n32_of2 hx.1 hx.2 (by omega)
    have S := c_settingValue hs (show w < 9 by omega)
    refine zP_q h (r := 0) (v := s_set g w) (w_setting O o8 (zA9_q h.1 ?_)) (fun σ1 hM => zAM_q hM ?_)
    · simp only [f_X9_setting, ↓zl_eq, ↓zb_eq, ↓zb2_eq, ↓zc_some, ↓zc_none, ↓zb_pre, ↓zb2_pre, ↓zc_pre, ↓zex_eq, ↓reduceIte, Option.isSome_some, Option.isSome_none, Option.getD_some, n32_lit, W, bt0', o8, r0, o2, S]
    · have G := m_gs hM.1 true true true rfl (show n32 1 = bi true from rfl) (show n32 1 = bi true from rfl)
      have T := (zM_thr hM (s_goes true true true)).1
      have S2 := m_settingOf T.1 (show w < 9 by omega)
      have e : z_I (z_sA σ1 (b + 118) (gu (z_I σ1 (b + 118)) 4 (s_goes true true true))) (b + 118 + 1) = g := T.2.1
      rw [e] at S2
      simp only [f_X10_setting, f_X10_setting_27, ↓zl_eq, ↓zb_eq, ↓zb2_eq, ↓zc_some, ↓zc_none, ↓zb_pre, ↓zb2_pre, ↓zc_pre, ↓zex_eq, ↓reduceIte, Option.isSome_some, Option.isSome_none, Option.getD_some, n32_lit, i64_lit, W2, hM.1.1, G, bt0', Bool.and_self, T.1.1, S2]
      rfl
  · have W := fun σ => c_win0 σ (by omega) (by omega) hx
    have W2 := fun σ => m_win0 σ (by omega) (by omega) hx
    refine zP_q h (r := 1) (v := 0) (x_setting0 _ O o8 (zA9_x h.1 ?_)) (fun σ1 hM => zAM_q hM ?_)
    · simp only [f_X9_setting, ↓zl_eq, ↓zb_eq, ↓zb2_eq, ↓zc_some, ↓zc_none, ↓zb_pre, ↓zb2_pre, ↓zc_pre, ↓zex_eq, ↓reduceIte, Option.isSome_some, Option.isSome_none, Option.getD_some, n32_lit, W, bf0']
    · have G := m_gs hM.1 false true true rfl (show n32 1 = bi true from rfl) (show n32 1 = bi true from rfl)
      simp only [f_X10_setting, f_X10_setting_27, ↓zl_eq, ↓zb_eq, ↓zb2_eq, ↓zc_some, ↓zc_none, ↓zb_pre, ↓zb2_pre, ↓zc_pre, ↓zex_eq, ↓reduceIte, Option.isSome_some, Option.isSome_none, Option.getD_some, n32_lit, i64_lit, W2, hM.1.1, G, bf0', Bool.false_and]
      rfl
theorem p_count (h : zW σ b g k gs tl tx B V) (hB : B = 1740000) (hV : V ≤ 1000000) (x : Int32) : zP σ b g k gs tl tx B V (f_L_count σ b x (b + 123)) (fun σ1 => f_X10_count σ1 (b + 118) x) := by
  have hI := h.2.2.1
  have O := h.2.2.2.2.2.2.2
  obtain ⟨o8, r0, o2, pl, ad, qu, n, hs, hG⟩ := zC_open h.1 hI
  have h0 := zC0_of hs
  by_cases hx : ((0 : Nat) : Int) ≤ x.toInt ∧ x.toInt ≤ ((6 : Nat) : Int)
  · have W := fun σ => c_win1 σ (by omega) (by omega) hx
    have W2 := fun σ => m_win1 σ (by omega) (by omega) hx
    obtain ⟨w, hw, rfl⟩ := n32_of2 hx.1 hx.2 (by omega)
    have S := c_value0 h0 (show w < 7 by omega)
    have r3 := hs.1.2.2.2.2.1
    have o8' := hs.1.2.2.2.2.2.2.2.2.2.2.2.2.2.2.2.2.2.2.2.2.2.1
    refine zP_q h (r := 0) (v := g (9 + w)) (w_count O o8 (zA9_q h.1 ?_)) (fun σ1 hM => zAM_q hM ?_)
    · simp only [f_X9_count, ↓zl_eq, ↓zb_eq, ↓zb2_eq, ↓zc_some, ↓zc_none, ↓zb_pre, ↓zb2_pre, ↓zc_pre, ↓zex_eq, ↓reduceIte, Option.isSome_some, Option.isSome_none, Option.getD_some, n32_lit, W, bt0', o8, r0, o2, r3, o8', S]
    · have G := m_gs hM.1 true true true rfl (show n32 1 = bi true from rfl) (show n32 1 = bi true from rfl)
      have T := (zM_thr hM (s_goes true true true)).1
      have e : z_I (z_sA σ1 (b + 118) (gu (z_I σ1 (b + 118)) 4 (s_goes true true true))) (b + 118 + 1) = g := T.2.1
      have T1 := T.1
      simp (disch := omega) only [f_X10_count, f_X10_count_31, ↓zl_eq, ↓zb_eq, ↓zb2_eq, ↓zc_some, ↓zc_none, ↓zb_pre, ↓zb2_pre, ↓zc_pre, ↓zex_eq, ↓reduceIte, Option.isSome_some, Option.isSome_none, Option.getD_some, n32_lit, i64_lit, W2, hM.1.1, G, bt0', Bool.and_self, T1.1, T1.2.1, T1.2.2.2.2.2.1, T1.2.2.2.2.2.2.2.2.2.1, n32_add, n32_ix, n32_toNat, e]
      rfl
  · have W := fun σ => c_win0 σ (by omega) (by omega) hx
    have W2 := fun σ => m_win0 σ (by omega) (by omega) hx
    refine zP_q h (r := 1) (v := 0) (x_count0 _ O o8 (zA9_x h.1 ?_)) (fun σ1 hM => zAM_q hM ?_)
    · simp only [f_X9_count, ↓zl_eq, ↓zb_eq, ↓zb2_eq, ↓zc_some, ↓zc_none, ↓zb_pre, ↓zb2_pre, ↓zc_pre, ↓zex_eq, ↓reduceIte, Option.isSome_some, Option.isSome_none, Option.getD_some, n32_lit, W, bf0']
    · have G := m_gs hM.1 false true true rfl (show n32 1 = bi true from rfl) (show n32 1 = bi true from rfl)
      simp only [f_X10_count, f_X10_count_31, ↓zl_eq, ↓zb_eq, ↓zb2_eq, ↓zc_some, ↓zc_none, ↓zb_pre, ↓zb2_pre, ↓zc_pre, ↓zex_eq, ↓reduceIte, Option.isSome_some, Option.isSome_none, Option.getD_some, n32_lit, i64_lit, W2, hM.1.1, G, bf0', Bool.false_and]
      rfl
theorem p_station (h : zW σ b g k gs tl tx B V) (hB : B = 1740000) (hV : V ≤ 1000000) (x y : Int32) : zP σ b g k gs tl tx B V (f_L_station σ b x y (b + 123)) (fun σ1 => f_X10_station σ1 (b + 118) x y) := by
  have hI := h.2.2.1
  have O := h.2.2.2.2.2.2.2
  obtain ⟨o8, r0, o2, pl, ad, qu, n, hs, hG⟩ := zC_open h.1 hI
  have h0 := zC0_of hs
  have q5 := s_I_5 hI
  rcases p_find (b := b) (k := k) (gs := gs) (tl := tl) (tx := tx) hs x with ⟨i, hi, rfl, F, FM⟩ | ⟨F, FM, _⟩
  · have hai := (c_ad h0 hi).1
    have obi := c_ob h0 hi
    by_cases hy : ((0 : Nat) : Int) ≤ y.toInt ∧ y.toInt ≤ ((6 : Nat) : Int)
    · have W := fun σ => c_win1 σ (by omega) (by omega) hy
      have W2 := fun σ => m_win1 σ (by omega) (by omega) hy
      obtain ⟨w, hw, rfl⟩ := n32_of2 hy.1 hy.2 (by omega)
      have S := c_value6 hs hi (show w < 7 by omega)
      refine zP_q h (r := 0) (v := s_stv g (ad i) w (s_nat g 5)) (w_station O o8 (zA9_q h.1 ?_)) (fun σ1 hM => zAM_q hM ?_)
      · simp only [f_X9_station, ↓zl_eq, ↓zb_eq, ↓zb2_eq, ↓zc_some, ↓zc_none, ↓zb_pre, ↓zb2_pre, ↓zc_pre, ↓zex_eq, ↓reduceIte, Option.isSome_some, Option.isSome_none, Option.getD_some, n32_lit, W, bt0', o8, r0, o2, F, obi, S]
      · have G := m_gs hM.1 true true true rfl rfl (show n32 1 = bi true from rfl)
        have T := (zM_thr hM (s_goes true true true)).1
        have e : z_I (z_sA σ1 (b + 118) (gu (z_I σ1 (b + 118)) 4 (s_goes true true true))) (b + 118 + 1) = g := T.2.1
        have S2 := m_stationOf T.1 (q := s_nat g 5) (by rw [e]; exact q5.2) q5.1 hai (show w < 7 by omega)
        rw [e] at S2
        simp only [f_X10_station, f_X10_station_32, ↓zl_eq, ↓zb_eq, ↓zb2_eq, ↓zc_some, ↓zc_none, ↓zb_pre, ↓zb2_pre, ↓zc_pre, ↓zex_eq, ↓reduceIte, Option.isSome_some, Option.isSome_none, Option.getD_some, n32_lit, i64_lit, W2, hM.1.1, FM σ1 hM, G, bt0', Bool.and_self, T.1.1, S2]
        rfl
    · have W := fun σ => c_win0 σ (by omega) (by omega) hy
      have W2 := fun σ => m_win0 σ (by omega) (by omega) hy
      refine zP_q h (r := 2) (v := 0) (x_station0 _ O o8 (zA9_x h.1 ?_)) (fun σ1 hM => zAM_q hM ?_)
      · simp only [f_X9_station, ↓zl_eq, ↓zb_eq, ↓zb2_eq, ↓zc_some, ↓zc_none, ↓zb_pre, ↓zb2_pre, ↓zc_pre, ↓zex_eq, ↓reduceIte, Option.isSome_some, Option.isSome_none, Option.getD_some, n32_lit, W, bf0', o8, r0, o2, F]
      · have G := m_gs hM.1 true false true rfl rfl (show n32 1 = bi true from rfl)
        simp only [f_X10_station, f_X10_station_32, ↓zl_eq, ↓zb_eq, ↓zb2_eq, ↓zc_some, ↓zc_none, ↓zb_pre, ↓zb2_pre, ↓zc_pre, ↓zex_eq, ↓reduceIte, Option.isSome_some, Option.isSome_none, Option.getD_some, n32_lit, i64_lit, W2, hM.1.1, FM σ1 hM, G, bf0', Bool.and_false, Bool.false_and]
        rfl
  · refine zP_q h (r := 1) (v := 0) (x_station3 _ O o8 (zA9_x h.1 ?_)) (fun σ1 hM => zAM_q hM ?_)
    · simp only [f_X9_station, ↓zl_eq, ↓zb_eq, ↓zb2_eq, ↓zc_some, ↓zc_none, ↓zb_pre, ↓zb2_pre, ↓zc_pre, ↓zex_eq, ↓reduceIte, Option.isSome_some, Option.isSome_none, Option.getD_some, o8, r0, o2, F, Bool.false_eq_true]
    · have W2 : ∃ c, f_X10_in σ1 y.toInt64 (Int64.ofNat 0) (Int64.ofNat 6) = some (bi c) := ⟨_, m_inN σ1 y (by omega) (by omega)⟩
      obtain ⟨c, W2⟩ := W2
      have G := m_gs hM.1 false c true rfl rfl (show n32 1 = bi true from rfl)
      simp only [f_X10_station, f_X10_station_32, ↓zl_eq, ↓zb_eq, ↓zb2_eq, ↓zc_some, ↓zc_none, ↓zb_pre, ↓zb2_pre, ↓zc_pre, ↓zex_eq, ↓reduceIte, Option.isSome_some, Option.isSome_none, Option.getD_some, n32_lit, i64_lit, W2, hM.1.1, FM σ1 hM, G, bf0', Bool.false_and]
      rfl
theorem c_has {a : Nat} (hL : zLs σ a) {q : Nat} (hq : q ≤ 100) (h1 : z_I σ (a + 2) 1 = n32 q) (x : Int32) : f_X3_has σ (a + 2) x = some (bi (decide (0 ≤ x.toInt ∧ x.toInt < q))) := by
  have o2 := hL.2.2.2.2.2.2.2.2.1
  have z0 : (n32 0).toInt = 0 := rfl
  simp only [f_X3_has, f_X3_has_16, f_X3_has_17, n32_lit, o2, h1, bl0, bl1, if_true]
  by_cases c1 : x < n32 0
  · rw [if_pos c1]
    rw [Int32.lt_iff_toInt_lt] at c1
    rw [decide_eq_false (by omega)]; rfl
  · rw [if_neg c1]
    rw [Int32.lt_iff_toInt_lt] at c1
    by_cases c2 : n32 q ≤ x
    · rw [if_pos c2]
      rw [Int32.le_iff_toInt_le, n32_toInt (by omega)] at c2
      rw [decide_eq_false (by omega)]; rfl
    · rw [if_neg c2]
      rw [Int32.le_iff_toInt_le, n32_toInt (by omega)] at c2
      rw [decide_eq_true (by omega)]; rfl
theorem p_message (h : zW σ b g k gs tl tx B V) (hB : B = 1740000) (hV : V ≤ 1000000) (x y : Int32) : zP σ b g k gs tl tx B V (f_L_message σ b x y (b + 123)) (fun σ1 => f_X10_message σ1 (b + 118) x y) := by
  have hI := h.2.2.1
  have O := h.2.2.2.2.2.2.2
  obtain ⟨o8, r0, o2, pl, ad, qu, n, hs, hG⟩ := zC_open h.1 hI
  have h0 := zC0_of hs
  obtain ⟨q5, q52⟩ := s_I_5 hI
  have r1 := hs.1.2.2.1
  have o3 := hs.1.2.2.2.2.2.2.2.2.1
  have eM : z_I σ (b + 1 + 2) 1 = n32 (s_nat g 5) := hs.2.2.1.2.2.1.1.trans q52
  have H := c_has hs.1 q5 eM x
  have HM := fun σ => m_winm σ (x := x) (show s_nat g 5 < 2147483648 by omega)
  by_cases hx : 0 ≤ x.toInt ∧ x.toInt < (s_nat g 5 : Int)
  · rw [decide_eq_true hx] at H
    by_cases hy : ((0 : Nat) : Int) ≤ y.toInt ∧ y.toInt ≤ ((4 : Nat) : Int)
    · have W := fun σ => c_win1 σ (by omega) (by omega) hy
      have W2 := fun σ => m_win1 σ (by omega) (by omega) hy
      obtain ⟨w, hw, rfl⟩ := n32_of2 hy.1 hy.2 (by omega)
      obtain ⟨m, hm, rfl⟩ := n32_of2 (x := x) (k := s_nat g 5 - 1) hx.1 (by omega) (by omega)
      have hm2 : m < s_nat g 5 := by rw [n32_toInt (by omega)] at hx; omega
      have S := c_value hs.1 h0.2.2.2.1.1 (m := m) (w := w) (by omega) (by omega)
      rw [h0.2.2.2.2.1.2 m w hm2 (by omega)] at S
      refine zP_q h (r := 0) (v := g (242 + 5 * m + w)) (w_message O o8 (zA9_q h.1 ?_)) (fun σ1 hM => zAM_q hM ?_)
      · simp only [f_X9_message, ↓zl_eq, ↓zb_eq, ↓zb2_eq, ↓zc_some, ↓zc_none, ↓zb_pre, ↓zb2_pre, ↓zc_pre, ↓zex_eq, ↓reduceIte, Option.isSome_some, Option.isSome_none, Option.getD_some, n32_lit, W, bt0', o8, r0, o2, r1, o3, H, S]
      · have G := m_gs hM.1 true true true rfl rfl (show n32 1 = bi true from rfl)
        have T := (zM_thr hM (s_goes true true true)).1
        have e : z_I (z_sA σ1 (b + 118) (gu (z_I σ1 (b + 118)) 4 (s_goes true true true))) (b + 118 + 1) = g := T.2.1
        have e1 : z_I σ1 (b + 118 + 1) 5 = n32 (s_nat g 5) := by have := hM.2.1; rw [show z_I σ1 (b + 118 + 1) = g from this]; exact q52
        have S2 := m_ofM T.1 (x := m) (w := w) (by omega) (by omega)
        rw [e] at S2
        have HM1 := HM σ1
        rw [decide_eq_true hx] at HM1
        have t1 := hM.1
        simp (disch := omega) only [f_X10_message, f_X10_message_42, ↓zl_eq, ↓zb_eq, ↓zb2_eq, ↓zc_some, ↓zc_none, ↓zb_pre, ↓zb2_pre, ↓zc_pre, ↓zex_eq, ↓reduceIte, Option.isSome_some, Option.isSome_none, Option.getD_some, n32_lit, i64_lit, W2, t1.1, t1.2.1, t1.2.2.2.2.2.1, t1.2.2.2.2.2.2.2.2.2.1, n32_ix, n32_toNat, e1, HM1, G, bt0', Bool.and_self, T.1.1, S2]
        rfl
    · have W := fun σ => c_win0 σ (by omega) (by omega) hy
      have W2 := fun σ => m_win0 σ (by omega) (by omega) hy
      refine zP_q h (r := 2) (v := 0) (x_message0 _ O o8 (zA9_x h.1 ?_)) (fun σ1 hM => zAM_q hM ?_)
      · simp only [f_X9_message, ↓zl_eq, ↓zb_eq, ↓zb2_eq, ↓zc_some, ↓zc_none, ↓zb_pre, ↓zb2_pre, ↓zc_pre, ↓zex_eq, ↓reduceIte, Option.isSome_some, Option.isSome_none, Option.getD_some, n32_lit, W, bt0', bf0', o8, r0, o2, r1, o3, H]
      · have G := m_gs hM.1 true false true rfl rfl (show n32 1 = bi true from rfl)
        have e1 : z_I σ1 (b + 118 + 1) 5 = n32 (s_nat g 5) := by have := hM.2.1; rw [show z_I σ1 (b + 118 + 1) = g from this]; exact q52
        have HM1 := HM σ1
        rw [decide_eq_true hx] at HM1
        have t1 := hM.1
        simp (disch := omega) only [f_X10_message, f_X10_message_42, ↓zl_eq, ↓zb_eq, ↓zb2_eq, ↓zc_some, ↓zc_none, ↓zb_pre, ↓zb2_pre, ↓zc_pre, ↓zex_eq, ↓reduceIte, Option.isSome_some, Option.isSome_none, Option.getD_some, n32_lit, i64_lit, W2, t1.1, t1.2.1, t1.2.2.2.2.2.1, t1.2.2.2.2.2.2.2.2.2.1, n32_ix, n32_toNat, e1, HM1, G, bf0', Bool.and_false, Bool.false_and]
        rfl
  · rw [decide_eq_false hx] at H
    refine zP_q h (r := 1) (v := 0) (x_message2 _ O o8 (zA9_x h.1 ?_)) (fun σ1 hM => zAM_q hM ?_)
    · simp only [f_X9_message, ↓zl_eq, ↓zb_eq, ↓zb2_eq, ↓zc_some, ↓zc_none, ↓zb_pre, ↓zb2_pre, ↓zc_pre, ↓zex_eq, ↓reduceIte, Option.isSome_some, Option.isSome_none, Option.getD_some, n32_lit, bf0', o8, r0, o2, r1, o3, H]
    · have W2 : ∃ c, f_X10_in σ1 y.toInt64 (Int64.ofNat 0) (Int64.ofNat 4) = some (bi c) := ⟨_, m_inN σ1 y (by omega) (by omega)⟩
      obtain ⟨c, W2⟩ := W2
      have G := m_gs hM.1 false c true rfl rfl (show n32 1 = bi true from rfl)
      have e1 : z_I σ1 (b + 118 + 1) 5 = n32 (s_nat g 5) := by have := hM.2.1; rw [show z_I σ1 (b + 118 + 1) = g from this]; exact q52
      have HM1 := HM σ1
      rw [decide_eq_false hx] at HM1
      have t1 := hM.1
      simp (disch := omega) only [f_X10_message, f_X10_message_42, ↓zl_eq, ↓zb_eq, ↓zb2_eq, ↓zc_some, ↓zc_none, ↓zb_pre, ↓zb2_pre, ↓zc_pre, ↓zex_eq, ↓reduceIte, Option.isSome_some, Option.isSome_none, Option.getD_some, n32_lit, i64_lit, W2, t1.1, t1.2.1, t1.2.2.2.2.2.1, t1.2.2.2.2.2.2.2.2.2.1, n32_ix, n32_toNat, e1, HM1, G, bf0', Bool.false_and]
      rfl
end TOP
end
section
section TOP
variable {σ : zSt} {b k tl : Nat} {g : zG} {gs : Nat → zG} {tx : Nat → Int32} {B V : Nat}
theorem p_visit (h : zW σ b g k gs tl tx B V) (hB : B = 1740000) (hV : V ≤ 1000000) (x y : Int32) : zP σ b g k gs tl tx B V (f_L_visit σ b x y (b + 123)) (fun σ1 => f_X10_visit σ1 (b + 118) x y) := by
  have hI := h.2.2.1
  have O := h.2.2.2.2.2.2.2
  obtain ⟨o8, r0, o2, pl, ad, qu, n, hs, hG⟩ := zC_open h.1 hI
  have h0 := zC0_of hs
  obtain ⟨_, _, _, _, _, _, _, mv, hmv, h9, h7⟩ := s_I_num hI
  have LL := c_logLength h0 (by omega) h9 h7
  rw [h7] at LL
  have WI := c_winm σ (x := x) (show min mv 40 < 2147483648 by omega)
  have HM := fun σ => m_winm σ (x := x) (show min mv 40 < 2147483648 by omega)
  by_cases hx : 0 ≤ x.toInt ∧ x.toInt < ((min mv 40 : Nat) : Int)
  · rw [decide_eq_true hx] at WI
    by_cases hy : ((0 : Nat) : Int) ≤ y.toInt ∧ y.toInt ≤ ((3 : Nat) : Int)
    · have W := fun σ => c_win1 σ (by omega) (by omega) hy
      have W2 := fun σ => m_win1 σ (by omega) (by omega) hy
      obtain ⟨w, hw, rfl⟩ := n32_of2 hy.1 hy.2 (by omega)
      obtain ⟨m, hm, rfl⟩ := n32_of2 (x := x) (k := min mv 40 - 1) hx.1 (by omega) (by omega)
      have hm2 : m < min mv 40 := by rw [n32_toInt (by omega)] at hx; omega
      have S := c_logValue h0 hG hmv h9 h7 hm2 (show w < 4 by omega)
      refine zP_q h (r := 0) (v := g (782 + 4 * m + w)) (w_visit O o8 (zA9_q h.1 ?_)) (fun σ1 hM => zAM_q hM ?_)
      · simp only [f_X9_visit, ↓zl_eq, ↓zb_eq, ↓zb2_eq, ↓zc_some, ↓zc_none, ↓zb_pre, ↓zb2_pre, ↓zc_pre, ↓zex_eq, ↓reduceIte, Option.isSome_some, Option.isSome_none, Option.getD_some, n32_lit, W, bt0', o8, r0, o2, LL, WI, S]
      · have G := m_gs hM.1 true true true rfl rfl (show n32 1 = bi true from rfl)
        have T := (zM_thr hM (s_goes true true true)).1
        have e : z_I (z_sA σ1 (b + 118) (gu (z_I σ1 (b + 118)) 4 (s_goes true true true))) (b + 118 + 1) = g := T.2.1
        have e1 : z_I σ1 (b + 118 + 1) 7 = n32 (min mv 40) := by have := hM.2.1; rw [show z_I σ1 (b + 118 + 1) = g from this]; exact h7
        have HM1 := HM σ1
        rw [decide_eq_true hx] at HM1
        have t1 := hM.1
        have T1 := T.1
        simp (disch := omega) only [f_X10_visit, f_X10_visit_51, ↓zl_eq, ↓zb_eq, ↓zb2_eq, ↓zc_some, ↓zc_none, ↓zb_pre, ↓zb2_pre, ↓zc_pre, ↓zex_eq, ↓reduceIte, Option.isSome_some, Option.isSome_none, Option.getD_some, n32_lit, i64_lit, W2, t1.1, t1.2.1, t1.2.2.2.2.2.1, t1.2.2.2.2.2.2.2.2.2.1, n32_ix, n32_toNat, e1, HM1, G, bt0', Bool.and_self, T1.1, T1.2.1, T1.2.2.2.2.2.1, T1.2.2.2.2.2.2.2.2.2.1, n32_add, n32_mul, e]
        rfl
    · have W := fun σ => c_win0 σ (by omega) (by omega) hy
      have W2 := fun σ => m_win0 σ (by omega) (by omega) hy
      refine zP_q h (r := 2) (v := 0) (x_visit0 _ O o8 (zA9_x h.1 ?_)) (fun σ1 hM => zAM_q hM ?_)
      · simp only [f_X9_visit, ↓zl_eq, ↓zb_eq, ↓zb2_eq, ↓zc_some, ↓zc_none, ↓zb_pre, ↓zb2_pre, ↓zc_pre, ↓zex_eq, ↓reduceIte, Option.isSome_some, Option.isSome_none, Option.getD_some, n32_lit, W, bt0', bf0', o8, r0, o2, LL, WI]
      · have G := m_gs hM.1 true false true rfl rfl (show n32 1 = bi true from rfl)
        have e1 : z_I σ1 (b + 118 + 1) 7 = n32 (min mv 40) := by have := hM.2.1; rw [show z_I σ1 (b + 118 + 1) = g from this]; exact h7
        have HM1 := HM σ1
        rw [decide_eq_true hx] at HM1
        have t1 := hM.1
        simp (disch := omega) only [f_X10_visit, f_X10_visit_51, ↓zl_eq, ↓zb_eq, ↓zb2_eq, ↓zc_some, ↓zc_none, ↓zb_pre, ↓zb2_pre, ↓zc_pre, ↓zex_eq, ↓reduceIte, Option.isSome_some, Option.isSome_none, Option.getD_some, n32_lit, i64_lit, W2, t1.1, t1.2.1, t1.2.2.2.2.2.1, t1.2.2.2.2.2.2.2.2.2.1, n32_ix, n32_toNat, e1, HM1, G, bf0', Bool.and_false, Bool.false_and]
        rfl
  · rw [decide_eq_false hx] at WI
    refine zP_q h (r := 1) (v := 0) (x_visit2 _ O o8 (zA9_x h.1 ?_)) (fun σ1 hM => zAM_q hM ?_)
    · simp only [f_X9_visit, ↓zl_eq, ↓zb_eq, ↓zb2_eq, ↓zc_some, ↓zc_none, ↓zb_pre, ↓zb2_pre, ↓zc_pre, ↓zex_eq, ↓reduceIte, Option.isSome_some, Option.isSome_none, Option.getD_some, n32_lit, bf0', o8, r0, o2, LL, WI]
    · have W2 : ∃ c, f_X10_in σ1 y.toInt64 (Int64.ofNat 0) (Int64.ofNat 3) = some (bi c) := ⟨_, m_inN σ1 y (by omega) (by omega)⟩
      obtain ⟨c, W2⟩ := W2
      have G := m_gs hM.1 false c true rfl rfl (show n32 1 = bi true from rfl)
      have e1 : z_I σ1 (b + 118 + 1) 7 = n32 (min mv 40) := by have := hM.2.1; rw [show z_I σ1 (b + 118 + 1) = g from this]; exact h7
      have HM1 := HM σ1
      rw [decide_eq_false hx] at HM1
      have t1 := hM.1
      simp (disch := omega) only [f_X10_visit, f_X10_visit_51, ↓zl_eq, ↓zb_eq, ↓zb2_eq, ↓zc_some, ↓zc_none, ↓zb_pre, ↓zb2_pre, ↓zc_pre, ↓zex_eq, ↓reduceIte, Option.isSome_some, Option.isSome_none, Option.getD_some, n32_lit, i64_lit, W2, t1.1, t1.2.1, t1.2.2.2.2.2.1, t1.2.2.2.2.2.2.2.2.2.1, n32_ix, n32_toNat, e1, HM1, G, bf0', Bool.false_and]
      rfl
theorem p_isNoisy (h : zW σ b g k gs tl tx B V) (hB : B = 1740000) (hV : V ≤ 1000000) (x : Int32) : ∃ r c, (zAC σ b (f_L_isNoisy σ b x (b + 123)) r (bi c) g k gs tl tx) ∧ ∀ σ1, zM σ1 b g k gs tl tx → zAM σ1 b (f_X10_isNoisy σ1 (b + 118) x) r (bi c) g k gs tl tx := by
  have hI := h.2.2.1
  have O := h.2.2.2.2.2.2.2
  obtain ⟨o8, r0, o2, pl, ad, qu, n, hs, hG⟩ := zC_open h.1 hI
  have h0 := zC0_of hs
  obtain ⟨z, hz, h6⟩ := s_I_6 hI
  have e6 : s_nat g 6 = z := s_nat_n32 h6 (by omega)
  have hRN := h0.2.2.2.2.2.1
  have r2 := hs.1.2.2.2.1
  have o5 := hs.1.2.2.2.2.2.2.2.2.2.2.2.2.2.2.1
  by_cases hx : ((0 : Nat) : Int) ≤ x.toInt ∧ x.toInt ≤ ((1000000 : Nat) : Int)
  · have W := fun σ => c_win1 σ (by omega) (by omega) hx
    have W2 := fun σ => m_win1 σ (by omega) (by omega) hx
    have T := c_touch (g := g) hs.1 hz h6 (by rw [← h6]; exact hRN.1) (by rw [← e6]; exact hRN.2) x x
    refine ⟨0, s_loud g x x, w_isNoisy O o8 (zA9_q h.1 ?_), fun σ1 hM => zAM_q hM ?_⟩
    · simp only [f_X9_isNoisy, ↓zl_eq, ↓zb_eq, ↓zb2_eq, ↓zc_some, ↓zc_none, ↓zb_pre, ↓zb2_pre, ↓zc_pre, ↓zex_eq, ↓reduceIte, Option.isSome_some, Option.isSome_none, Option.getD_some, n32_lit, W, bt0', o8, r0, o2, r2, o5, T, bi_bl]
    · have G := m_gs hM.1 true true true rfl (show n32 1 = bi true from rfl) (show n32 1 = bi true from rfl)
      have Tm := (zM_thr hM (s_goes true true true)).1
      have e : z_I (z_sA σ1 (b + 118) (gu (z_I σ1 (b + 118)) 4 (s_goes true true true))) (b + 118 + 1) = g := Tm.2.1
      have S2 := m_isLoud Tm.1 (n := z) (by rw [e]; exact h6) hz x x
      rw [e] at S2
      simp only [f_X10_isNoisy, f_X10_isNoisy_31, f_X10_isNoisy_32, ↓zl_eq, ↓zb_eq, ↓zb2_eq, ↓zc_some, ↓zc_none, ↓zb_pre, ↓zb2_pre, ↓zc_pre, ↓zex_eq, ↓reduceIte, Option.isSome_some, Option.isSome_none, Option.getD_some, n32_lit, i64_lit, W2, hM.1.1, G, bt0', Bool.and_self, Tm.1.1, S2, bl0, bl1, bi_0n]
      cases s_loud g x x <;> rfl
  · have W := fun σ => c_win0 σ (by omega) (by omega) hx
    have W2 := fun σ => m_win0 σ (by omega) (by omega) hx
    refine ⟨1, false, x_isNoisy0 _ O o8 (zA9_x h.1 ?_), fun σ1 hM => zAM_q hM ?_⟩
    · simp only [f_X9_isNoisy, ↓zl_eq, ↓zb_eq, ↓zb2_eq, ↓zc_some, ↓zc_none, ↓zb_pre, ↓zb2_pre, ↓zc_pre, ↓zex_eq, ↓reduceIte, Option.isSome_some, Option.isSome_none, Option.getD_some, n32_lit, W, bf0']
    · have G := m_gs hM.1 false true true rfl (show n32 1 = bi true from rfl) (show n32 1 = bi true from rfl)
      simp only [f_X10_isNoisy, f_X10_isNoisy_31, f_X10_isNoisy_32, ↓zl_eq, ↓zb_eq, ↓zb2_eq, ↓zc_some, ↓zc_none, ↓zb_pre, ↓zb2_pre, ↓zc_pre, ↓zex_eq, ↓reduceIte, Option.isSome_some, Option.isSome_none, Option.getD_some, n32_lit, i64_lit, W2, hM.1.1, G, bf0', Bool.false_and, bl0]
      rfl
theorem s_nn_ne {m : Nat} (hm : m < 2147483648) : ¬ n32 m = nn := by rw [n32_ne hm]; exact not_false
theorem p_queued (h : zW σ b g k gs tl tx B V) (hB : B = 1740000) (hV : V ≤ 1000000) (x y : Int32) : zP σ b g k gs tl tx B V (f_L_queued σ b x y (b + 123)) (fun σ1 => f_X10_queued σ1 (b + 118) x y) := by
  have hI := h.2.2.1
  have O := h.2.2.2.2.2.2.2
  obtain ⟨o8, r0, o2, pl, ad, qu, n, hs, hG⟩ := zC_open h.1 hI
  have h0 := zC0_of hs
  obtain ⟨q5, q52⟩ := s_I_5 hI
  have r1 := hs.1.2.2.1
  have o3 := hs.1.2.2.2.2.2.2.2.2.1
  rcases p_find (b := b) (k := k) (gs := gs) (tl := tl) (tx := tx) hs x with ⟨i, hi, rfl, F, FM⟩ | ⟨F, FM, _⟩
  · have hai := (c_ad h0 hi).1
    have obi := c_ob h0 hi
    obtain ⟨e6, _, _, qk⟩ := c_Q h0 hi
    have hlen := s_len_le g (ad i)
    have WI := c_winm σ (x := y) (show s_len g (ad i) < 2147483648 by omega)
    have HM := fun σ => m_winm σ (x := y) (show s_len g (ad i) < 2147483648 by omega)
    have QO := fun σ1 (hM : zM σ1 b g k gs tl tx) => m_queueOf hM.1 (n := s_nat g 5) (by have := hM.2.1; rw [show z_I σ1 (b + 118 + 1) = g from this]; exact q52) q5 (n32 (ad i))
    by_cases hy : 0 ≤ y.toInt ∧ y.toInt < (s_len g (ad i) : Int)
    · rw [decide_eq_true hy] at WI
      obtain ⟨j, hj, rfl⟩ := n32_of2 (x := y) (k := s_len g (ad i) - 1) hy.1 (by omega) (by omega)
      have hj2 : j < s_len g (ad i) := by rw [n32_toInt (by omega)] at hy; omega
      have S := c_inQueue h0 q5 hi hj2
      refine zP_q h (r := 0) (v := n32 (qu (ad i) j)) (w_queued O o8 (zA9_q h.1 ?_)) (fun σ1 hM => zAM_q hM ?_)
      · simp only [f_X9_queued, ↓zl_eq, ↓zb_eq, ↓zb2_eq, ↓zc_some, ↓zc_none, ↓zb_pre, ↓zb2_pre, ↓zc_pre, ↓zex_eq, ↓reduceIte, Option.isSome_some, Option.isSome_none, Option.getD_some, n32_lit, WI, bt0', o8, r0, o2, F, obi, e6, r1, o3, S]
      · have G := m_gs hM.1 true true true rfl (show n32 1 = bi true from rfl) (show n32 1 = bi true from rfl)
        have T := (zM_thr hM (s_goes true true true)).1
        generalize hσ2 : z_sA σ1 (b + 118) (gu (z_I σ1 (b + 118)) 4 (s_goes true true true)) = σ2 at G T
        have e : z_I σ2 (b + 118 + 1) = g := T.2.1
        have HM1 := HM σ1
        rw [decide_eq_true hy] at HM1
        have QO1 := QO σ1 hM
        have el : s_cnt (s_wt (z_I σ1 (b + 118 + 1)) (n32 (ad i))) (s_nat g 5) = s_len g (ad i) := by
          rw [show z_I σ1 (b + 118 + 1) = g from hM.2.1]; rfl
        rw [el] at QO1
        have N0 := m_nextOf T.1 (n := s_nat g 5) (by rw [e]; exact q52) q5 (n32 (ad i)) (b := nn) (Or.inl rfl)
        rw [e, s_next0 qk q5, if_pos (by omega)] at N0
        have LP : f_X10_queued_54 σ2 (b + 118) (n32 (ad i)) (n32 j) (n32 (qu (ad i) 0)) (n32 0) = some (n32 (qu (ad i) j), σ2) := by
          unfold f_X10_queued_54
          refine zloop_go (N := zN) (fun t => (n32 (qu (ad i) t), n32 t)) _ j (fun t ht => ?_) ?_ (by unfold zN; omega)
          · show b_X10_queued_54 σ2 (b + 118) (n32 (ad i)) (n32 j) (n32 (qu (ad i) t)) (n32 t) = some (.inl (n32 (qu (ad i) (t + 1)), n32 (t + 1)))
            have ht2 := (qk.1 t (by omega)).1
            have N1 := m_nextOf T.1 (n := s_nat g 5) (by rw [e]; exact q52) q5 (n32 (ad i)) (b := n32 (qu (ad i) t)) (Or.inr ⟨_, by omega, rfl⟩)
            rw [e, s_next1 qk q5 (by omega), if_pos (by omega)] at N1
            simp (disch := omega) only [b_X10_queued_54, ↓zl_eq, ↓zb_eq, ↓zb2_eq, ↓zc_some, ↓zc_none, ↓zb_pre, ↓zb2_pre, ↓zc_pre, ↓zex_eq, ↓reduceIte, Option.isSome_some, Option.isSome_none, Option.getD_some, n32_lit, n32_le, T.1.1, N1, n32_add]
            rw [if_neg (by omega)]
          · show b_X10_queued_54 σ2 (b + 118) (n32 (ad i)) (n32 j) (n32 (qu (ad i) j)) (n32 j) = _
            simp (disch := omega) only [b_X10_queued_54, ↓zl_eq, ↓zb_eq, ↓zb2_eq, ↓zc_some, ↓zc_none, ↓zb_pre, ↓zb2_pre, ↓zc_pre, ↓zex_eq, ↓reduceIte, Option.isSome_some, Option.isSome_none, Option.getD_some, n32_le, Nat.le_refl]
        have e5 : s_goes true true true = n32 0 := rfl
        rw [e5] at hσ2
        show f_X10_queued σ1 (b + 118) (n32 (ad i)) (n32 j) = some (n32 (qu (ad i) j), z_sA σ1 (b + 118) (gu (z_I σ1 (b + 118)) 4 (n32 0)))
        rw [hσ2]
        simp only [f_X10_queued, f_X10_queued_34, ↓zl_eq, ↓zb_eq, ↓zb2_eq, ↓zc_some, ↓zc_none, ↓zb_pre, ↓zb2_pre, ↓zc_pre, ↓zex_eq, ↓reduceIte, Option.isSome_some, Option.isSome_none, Option.getD_some, n32_lit, n32_nn2, i64_lit, hM.1.1, FM σ1 hM, QO1, HM1, G, bt0', Bool.and_self, T.1.1, N0, LP]
    · rw [decide_eq_false hy] at WI
      refine zP_q h (r := 2) (v := 0) (x_queued2 _ O o8 (zA9_x h.1 ?_)) (fun σ1 hM => zAM_q hM ?_)
      · simp only [f_X9_queued, ↓zl_eq, ↓zb_eq, ↓zb2_eq, ↓zc_some, ↓zc_none, ↓zb_pre, ↓zb2_pre, ↓zc_pre, ↓zex_eq, ↓reduceIte, Option.isSome_some, Option.isSome_none, Option.getD_some, n32_lit, WI, bf0', o8, r0, o2, F, obi, e6]
      · have G := m_gs hM.1 true false true rfl (show n32 0 = bi false from rfl) (show n32 1 = bi true from rfl)
        have HM1 := HM σ1
        rw [decide_eq_false hy] at HM1
        have QO1 := QO σ1 hM
        have el : s_cnt (s_wt (z_I σ1 (b + 118 + 1)) (n32 (ad i))) (s_nat g 5) = s_len g (ad i) := by
          rw [show z_I σ1 (b + 118 + 1) = g from hM.2.1]; rfl
        rw [el] at QO1
        simp only [f_X10_queued, f_X10_queued_33, f_X10_queued_34, ↓zl_eq, ↓zb_eq, ↓zb2_eq, ↓zc_some, ↓zc_none, ↓zb_pre, ↓zb2_pre, ↓zc_pre, ↓zex_eq, ↓reduceIte, Option.isSome_some, Option.isSome_none, Option.getD_some, n32_lit, i64_lit, hM.1.1, FM σ1 hM, QO1, HM1, G, bt0', bf0', Bool.and_false, Bool.false_and]
        rfl
  · refine zP_q h (r := 1) (v := 0) (x_queued3 _ O o8 (zA9_x h.1 ?_)) (fun σ1 hM => zAM_q hM ?_)
    · simp only [f_X9_queued, ↓zl_eq, ↓zb_eq, ↓zb2_eq, ↓zc_some, ↓zc_none, ↓zb_pre, ↓zb2_pre, ↓zc_pre, ↓zex_eq, ↓reduceIte, Option.isSome_some, Option.isSome_none, Option.getD_some, o8, r0, o2, F, Bool.false_eq_true]
    · have G := m_gs hM.1 false false true rfl (show n32 0 = bi false from rfl) (show n32 1 = bi true from rfl)
      simp only [f_X10_queued, f_X10_queued_33, f_X10_queued_34, ↓zl_eq, ↓zb_eq, ↓zb2_eq, ↓zc_some, ↓zc_none, ↓zb_pre, ↓zb2_pre, ↓zc_pre, ↓zex_eq, ↓reduceIte, Option.isSome_some, Option.isSome_none, Option.getD_some, n32_lit, i64_lit, hM.1.1, FM σ1 hM, G, bf0', Bool.and_false, Bool.false_and]
      rfl
/-- how many stations stand before an address -/
theorem s_rank {ad : Nat → Nat} {n : Nat} (H : qA ad n g) : ∀ m, m ≤ 32 → ∃ j, j ≤ n ∧ s_cnt (s_is g) m = j ∧ (∀ i, i < j → ad i < m) ∧ ∀ i, j ≤ i → i < n → m ≤ ad i := by
  intro m
  induction m with
  | zero => intro _; exact ⟨0, Nat.zero_le _, rfl, fun i hi => by omega, fun i _ _ => Nat.zero_le _⟩
  | succ m ih =>
    intro hm
    obtain ⟨j, hj, e, a1, a2⟩ := ih (by omega)
    have es : s_cnt (s_is g) (m + 1) = s_cnt (s_is g) m + (if s_is g m = true then 1 else 0) := rfl
    rcases H.2.2.2 m (by omega) with h0 | ⟨h0, i, hi, hik⟩
    · have e3 : s_is g m = false := by unfold s_is; rw [h0]; rfl
      refine ⟨j, hj, by rw [es, e3, e]; rfl, fun i hi => by have := a1 i hi; omega, fun i h h' => ?_⟩
      have h5 := a2 i h h'
      rcases Nat.lt_or_ge m (ad i) with h4 | h4
      · omega
      · have e6 : ad i = m := by omega
        have h7 := (H.2.1 i h').2
        rw [e6, h0] at h7
        exact absurd h7 (by decide)
    · have e3 : s_is g m = true := by unfold s_is; rw [h0]; rfl
      have hij : i = j := by
        rcases Nat.lt_trichotomy i j with h | h | h
        · have := a1 i h; omega
        · exact h
        · have := H.2.2.1 j i h hi
          have := a2 j (Nat.le_refl _) (by omega)
          omega
      subst hij
      refine ⟨i + 1, by omega, by rw [es, e3, e]; rfl, fun i' hi' => ?_, fun i' h h' => ?_⟩
      · rcases Nat.lt_or_ge i' i with h | h
        · have := a1 i' h; omega
        · have : i' = i := by omega
          subst this; omega
      · have := H.2.2.1 i i' (by omega) h'
        omega
theorem p_addressAt (h : zW σ b g k gs tl tx B V) (hB : B = 1740000) (hV : V ≤ 1000000) (x : Int32) : zP σ b g k gs tl tx B V (f_L_addressAt σ b x (b + 123)) (fun σ1 => f_X10_addressAt σ1 (b + 118) x) := by
  have hI := h.2.2.1
  have O := h.2.2.2.2.2.2.2
  obtain ⟨o8, r0, o2, pl, ad, qu, n, hs, hG⟩ := zC_open h.1 hI
  have h0 := zC0_of hs
  have hn := c_n8 h0
  have HM := fun σ => m_winm σ (x := x) (show n < 2147483648 by omega)
  have ST := fun σ1 (hM : zM σ1 b g k gs tl tx) => (show f_X10_stations σ1 (b + 118) = some (n32 n) by
    rw [m_stations hM.1, show z_I σ1 (b + 118 + 1) = g from hM.2.1, s_sum_n (c_qA h0)])
  by_cases hx : 0 ≤ x.toInt ∧ x.toInt < (n : Int)
  · obtain ⟨i, hi, rfl⟩ := n32_of2 (x := x) (k := n - 1) hx.1 (by omega) (by omega)
    have hi2 : i < n := by rw [n32_toInt (by omega)] at hx; omega
    have S := c_in h0 hi2
    have obi := c_ob h0 hi2
    have e0 := (c_S h0 hi2).1
    have hai := (c_ad h0 hi2).1
    refine zP_q h (r := 0) (v := n32 (ad i)) (w_addressAt O o8 (zA9_q h.1 ?_)) (fun σ1 hM => zAM_q hM ?_)
    · simp only [f_X9_addressAt, ↓zl_eq, ↓zb_eq, ↓zb2_eq, ↓zc_some, ↓zc_none, ↓zb_pre, ↓zb2_pre, ↓zc_pre, ↓zex_eq, ↓reduceIte, Option.isSome_some, Option.isSome_none, Option.getD_some, o8, r0, o2, S, obi, e0]
    · have G := m_gs hM.1 true true true rfl (show n32 1 = bi true from rfl) (show n32 1 = bi true from rfl)
      have T := (zM_thr hM (s_goes true true true)).1
      have HM1 := HM σ1
      rw [decide_eq_true hx] at HM1
      generalize hσ2 : z_sA σ1 (b + 118) (gu (z_I σ1 (b + 118)) 4 (s_goes true true true)) = σ2 at G T
      have e : z_I σ2 (b + 118 + 1) = g := T.2.1
      have LP : f_X10_addressAt_28 σ2 (b + 118) (n32 0) (n32 i) = some (n32 (ad i), σ2) := by
        unfold f_X10_addressAt_28
        have rk : ∀ t, t ≤ ad i → s_cnt (s_is g) t ≤ i := fun t ht => by
          obtain ⟨j, hj, e1, a1, a2⟩ := s_rank (c_qA h0) t (by omega)
          rcases Nat.lt_or_ge i j with h1 | h1
          · have := a1 i h1; omega
          · omega
        refine zloop_go (N := zN) (fun t => (n32 t, n32 (i - s_cnt (s_is g) t))) _ (ad i) (fun t ht => ?_) ?_ (by unfold zN; omega)
        · show b_X10_addressAt_28 σ2 (b + 118) (n32 t) (n32 (i - s_cnt (s_is g) t)) = some (.inl (n32 (t + 1), n32 (i - s_cnt (s_is g) (t + 1))))
          have OF := m_of T.1 (x := t) (w := 0) (by omega) (by decide)
          rw [e] at OF
          have k1 := rk t (by omega)
          have es : s_cnt (s_is g) (t + 1) = s_cnt (s_is g) t + (if s_is g t = true then 1 else 0) := rfl
          have A : f_X10_addressAt_41 σ2 (b + 118) (n32 t) (n32 (i - s_cnt (s_is g) t)) = some (.inl (n32 (t + 1), n32 (i - s_cnt (s_is g) t) - g (18 + 7 * t + 0))) := by
            simp only [f_X10_addressAt_41, ↓zl_eq, ↓zb_eq, ↓zb2_eq, ↓zc_some, ↓zc_none, ↓zb_pre, ↓zb2_pre, ↓zc_pre, ↓zex_eq, ↓reduceIte, Option.isSome_some, Option.isSome_none, Option.getD_some, n32_lit, T.1.1, OF, n32_add]
          unfold b_X10_addressAt_28
          rcases (c_qA h0).2.2.2 t (by omega) with z0 | ⟨z0, i2, hi2', hit⟩
          · have e3 : s_is g t = false := by unfold s_is; rw [z0]; rfl
            rw [A, if_pos T.1.1, n32_lit 0, OF, zb_eq, z0, if_pos rfl, ite_self]
            rw [es, e3, n32_sub (by omega)]
            simp
          · have e3 : s_is g t = true := by unfold s_is; rw [z0]; rfl
            have k2 := rk (t + 1) (by omega)
            rw [es, e3] at k2
            simp only [if_true] at k2
            have pos : (0 : Int32) < n32 (i - s_cnt (s_is g) t) := by
              rw [n32_0, n32_lt (by omega) (by omega)]; omega
            rw [if_pos pos, A, z0, es, e3, n32_sub (by omega)]
            simp only [if_true]
            rw [show i - s_cnt (s_is g) t - 1 = i - (s_cnt (s_is g) t + 1) by omega]
        · show b_X10_addressAt_28 σ2 (b + 118) (n32 (ad i)) (n32 (i - s_cnt (s_is g) (ad i))) = _
          obtain ⟨j, hj, e1, a1, a2⟩ := s_rank (c_qA h0) (ad i) (by omega)
          have k1 := rk (ad i) (Nat.le_refl _)
          have k2 : i ≤ j := by
            rcases Nat.lt_or_ge j i with h1 | h1
            · have := a2 j (Nat.le_refl _) (by omega)
              have := (c_qA h0).2.2.1 j i h1 hi2
              omega
            · exact h1
          have e9 : i - s_cnt (s_is g) (ad i) = 0 := by omega
          have OF := m_of T.1 (x := ad i) (w := 0) hai (by decide)
          rw [e, (c_ad h0 hi2).2] at OF
          rw [e9]
          unfold b_X10_addressAt_28
          rw [if_neg (by decide), if_pos T.1.1, n32_lit 0, OF, zb_eq, if_neg nn10]
          rfl
      have e5 : s_goes true true true = n32 0 := rfl
      rw [e5] at hσ2
      show f_X10_addressAt σ1 (b + 118) (n32 i) = some (n32 (ad i), z_sA σ1 (b + 118) (gu (z_I σ1 (b + 118)) 4 (n32 0)))
      rw [hσ2]
      simp only [f_X10_addressAt, ↓zl_eq, ↓zb_eq, ↓zb2_eq, ↓zc_some, ↓zc_none, ↓zb_pre, ↓zb2_pre, ↓zc_pre, ↓zex_eq, ↓reduceIte, Option.isSome_some, Option.isSome_none, Option.getD_some, n32_lit, i64_lit, hM.1.1, ST σ1 hM, HM1, G, bt0', Bool.and_self, LP]
  · have S := c_in0 h0 x hx
    refine zP_q h (r := 1) (v := 0) (x_addressAt2 _ O o8 (zA9_x h.1 ?_)) (fun σ1 hM => zAM_q hM ?_)
    · simp only [f_X9_addressAt, ↓zl_eq, ↓zb_eq, ↓zb2_eq, ↓zc_some, ↓zc_none, ↓zb_pre, ↓zb2_pre, ↓zc_pre, ↓zex_eq, ↓reduceIte, Option.isSome_some, Option.isSome_none, Option.getD_some, o8, r0, o2, S, Bool.false_eq_true]
    · have G := m_gs hM.1 false true true rfl (show n32 1 = bi true from rfl) (show n32 1 = bi true from rfl)
      have HM1 := HM σ1
      rw [decide_eq_false hx] at HM1
      simp only [f_X10_addressAt, ↓zl_eq, ↓zb_eq, ↓zb2_eq, ↓zc_some, ↓zc_none, ↓zb_pre, ↓zb2_pre, ↓zc_pre, ↓zex_eq, ↓reduceIte, Option.isSome_some, Option.isSome_none, Option.getD_some, n32_lit, i64_lit, hM.1.1, ST σ1 hM, HM1, G, bf0', Bool.false_and]
      rfl
end TOP
end
section
/-! WHAT THE CALLS ANSWER: changes of the line -/
section TOP
variable {σ : zSt} {b k tl : Nat} {g : zG} {gs : Nat → zG} {tx : Nat → Int32} {B V : Nat}
/-- the reference notes that nothing is wrong, and saves -/
theorem zM_gos (h : zM σ b g k gs tl tx) (hk : k ≤ 4) : ∃ σ', f_X10_save (z_sA σ (b + 118) (gu (z_I σ (b + 118)) 4 (n32 0))) (b + 118) = some σ' ∧ zM σ' b g (s_pk k) (s_pg k gs g) tl tx ∧ zFM b σ σ' ∧ z_I σ' (b + 118) 4 = n32 0 := by
  have T := zM_thr h (n32 0)
  obtain ⟨σ', E, M, F, t, _⟩ := zM_save T.1 hk
  exact ⟨σ', E, M, zFM_t T.2.1 F, t.trans T.2.2⟩
theorem zAM_new {σ' : zSt} (M : zM σ' b g k gs tl tx) (F : zFM b σ σ') (t : z_I σ' (b + 118) 4 = n32 0) {g' : zG} {out : Option (Int32 × zSt)} {v : Int32} (E : out = some (v, z_sA σ' (b + 119) g')) : zAM σ b out 0 v g' k gs tl tx := by
  obtain ⟨n1, n2, n3⟩ := zM_new M g'
  exact ⟨_, E, n1, zFM_t F n2, by rw [n3]; exact t⟩
/-- the class's line has changed behind a save -/
theorem zA9_line {σ1 σ2 : zSt} {g' : zG} {k' : Nat} {gs' : Nat → zG} (C : zC σ1 b g k' gs' tl tx) (n1 : z_nx σ1 = z_nx σ) (E1 : ∀ hi, zEq (b + 117) hi σ σ1) (F : zFw (b + 1) σ1 σ2) (hl : zLn σ2 (b + 1) g') {out : Option ((Nat ⊕ Int32) × zSt)} {r : Nat ⊕ Int32} (e : out = some (r, σ2)) : zA9 σ b out r g' k' gs' tl tx :=
  ⟨σ2, e, zC_line F hl C, zEq_t (zEq_s (E1 (b + 124)) (by omega) (Nat.le_refl _)) (zEq_fw F (by omega)), by rw [F.1, n1]; exact Nat.le_refl _⟩
theorem zLn_of {σ1 : zSt} {a n : Nat} {pl ad : Nat → Nat} {qu : Nat → Nat → Nat} (h : zC0 σ1 a pl ad qu n g) (hG : qG σ1 a g) : zLn σ1 a g := ⟨pl, ad, qu, n, h.1, h.2.1, h.2.2, hG⟩
theorem s_pk4 (hk : k ≤ 4) : s_pk k ≤ 4 := by unfold s_pk; split <;> omega
theorem zP_s (h : zW σ b g k gs tl tx B V) {fc : Option (Int32 × zSt)} {fm : zSt → Option (Int32 × zSt)} {v : Int32} {g' : zG} (hc : zAC σ b fc 0 v g' (s_pk k) (s_pg k gs g) tl tx) (hm : ∀ σ1, zM σ1 b g k gs tl tx → zAM σ1 b (fm σ1) 0 v g' (s_pk k) (s_pg k gs g) tl tx) (hI : s_I g' B (V + 300)) : zP σ b g k gs tl tx B V fc fm :=
  ⟨0, v, g', s_pk k, s_pg k gs g, tl, tx, hc, hm, hI, fun i hi => s_I_w (s_pg_I h.2.2.2.2.1 h.2.2.1 h.2.2.2.1 i hi) (Nat.le_refl _) (by omega), s_pk4 h.2.2.2.2.1, h.2.2.2.2.2.1, h.2.2.2.2.2.2.1⟩
theorem p_setTimes (h : zW σ b g k gs tl tx B V) (hB : B = 1740000) (hV : V ≤ 1000000) (x y z : Int32) : zP σ b g k gs tl tx B V (f_L_setTimes σ b x y z (b + 123)) (fun σ1 => f_X10_setTimes σ1 (b + 118) x y z) := by
  have hI := h.2.2.1
  have O := h.2.2.2.2.2.2.2
  obtain ⟨o8, r0, o2, pl, ad, qu, n, hs, hG⟩ := zC_open h.1 hI
  have h0 := zC0_of hs
  have bad : ∀ {e9 : f_X9_setTimes σ b x y z = some (.inl 0, z_gr σ)}, (∀ σ1, zM σ1 b g k gs tl tx → f_X10_setTimes σ1 (b + 118) x y z = f_X10_setTimes_42 σ1 (b + 118) x y z (0 : Int32) (some (b + 118))) → zP σ b g k gs tl tx B V (f_L_setTimes σ b x y z (b + 123)) (fun σ1 => f_X10_setTimes σ1 (b + 118) x y z) := by
    intro e9 em
    refine zP_q h (r := 1) (v := 0) (x_setTimes0 _ O o8 (zA9_x h.1 e9)) (fun σ1 hM => zAM_q hM ?_)
    have G := m_gs hM.1 false true true (show n32 0 = bi false from rfl) (show n32 1 = bi true from rfl) (show n32 1 = bi true from rfl)
    show f_X10_setTimes σ1 (b + 118) x y z = _
    rw [em σ1 hM]
    simp only [f_X10_setTimes_42, ↓zl_eq, ↓zb_eq, ↓zb2_eq, ↓zc_some, ↓zc_none, ↓zb_pre, ↓zb2_pre, ↓zc_pre, ↓zex_eq, ↓reduceIte, Option.isSome_some, Option.isSome_none, Option.getD_some, n32_lit, hM.1.1, G, bf0', Bool.false_and]
    rfl
  by_cases hx : ((1 : Nat) : Int) ≤ x.toInt ∧ x.toInt ≤ ((500 : Nat) : Int)
  · have W := fun σ => c_win1 σ (by omega) (by omega) hx
    have WM := fun σ => m_win1 σ (by omega) (by omega) hx
    by_cases hy : ((1 : Nat) : Int) ≤ y.toInt ∧ y.toInt ≤ ((20 : Nat) : Int)
    · have W2 := fun σ => c_win1 σ (by omega) (by omega) hy
      have WM2 := fun σ => m_win1 σ (by omega) (by omega) hy
      by_cases hz : ((1 : Nat) : Int) ≤ z.toInt ∧ z.toInt ≤ ((20 : Nat) : Int)
      · have W3 := fun σ => c_win1 σ (by omega) (by omega) hz
        have WM3 := fun σ => m_win1 σ (by omega) (by omega) hz
        obtain ⟨σ1, ES, C1, n1, s1, E1, E2⟩ := zC_save h.1 (s_I_num hI)
        have r2 : z_R σ b 2 = some (b + 39) := h.1.1.2.2.2.1
        have oh : z_ob σ (b + 39) 1 = true := by obtain ⟨hl, hsv, _⟩ := h.1.2.2.2.1; exact hsv.1.1
        have h1 := zC0_reg (zEq_s E1 (by omega) (by omega)) h0
        have G1 := qG_reg (zEq_s E1 (by omega) (by omega)) hG
        have A1 := c_top h1 (k := 0) (by decide) x
        have h2 := zC0_step h1 A1
        have A2 := c_top h2 (k := 1) (by decide) y
        have h3 := zC0_step h2 A2
        have A3 := c_top h3 (k := 2) (by decide) z
        have h4 := zC0_step h3 A3
        have A := zAn_t (zAn_t A1 A2) A3
        have G4 : qG (z_pI (z_pI (z_pI σ1 (b + 1) (6 + 0) x) (b + 1) (6 + 1) y) (b + 1) (6 + 2) z) (b + 1) (gu (gu (gu g 0 x) 1 y) 2 z) := qG_congr A.2.1 (by rw [gu_ne _ _ (by omega), gu_ne _ _ (by omega), gu_ne _ _ (by omega)]) (by rw [gu_ne _ _ (by omega), gu_ne _ _ (by omega), gu_ne _ _ (by omega)]) (fun j hj => by rw [gu_ne _ _ (by omega), gu_ne _ _ (by omega), gu_ne _ _ (by omega)]) G1
        have o8' : z_ob σ1 b 8 = true := by rw [z_ob_eq s1]; exact o8
        have o2' : z_ob σ1 (b + 1) 2 = true := by rw [z_ob_eq s1]; exact o2
        have r0' : z_R σ1 b 0 = some (b + 1) := C1.1.2.1
        have e6 := (c_L h0).2.1
        obtain ⟨y', hy1, hy2⟩ := n32_of2 (x := y) (k := 20) (by omega) (by omega) (by omega)
        obtain ⟨z', hz1, hz2⟩ := n32_of2 (x := z) (k := 20) (by omega) (by omega) (by omega)
        have hz3 : 1 ≤ z' := by rw [hz2, n32_toInt (by omega)] at hz; omega
        refine zP_s h (v := g 0) (g' := gu (gu (gu g 0 x) 1 y) 2 z) (w_setTimes O o8 (zA9_line (σ2 := z_pI (z_pI (z_pI σ1 (b + 1) (6 + 0) x) (b + 1) (6 + 1) y) (b + 1) (6 + 2) z) C1 n1 E2 (zFw_of A.1) (zLn_of h4 G4) ?_)) (fun σ1 hM => ?_) (s_I_w (s_I_top hI (fun j hj => by rw [gu_ne _ _ (by omega), gu_ne _ _ (by omega), gu_ne _ _ (by omega)]) ⟨y', hy1, by rw [gu_ne _ _ (by omega), gu_same]; exact hy2⟩ ⟨z', hz3, hz1, by rw [gu_same]; exact hz2⟩) (Nat.le_refl _) (by omega))
        · simp only [f_X9_setTimes, ↓zl_eq, ↓zb_eq, ↓zb2_eq, ↓zc_some, ↓zc_none, ↓zb_pre, ↓zb2_pre, ↓zc_pre, ↓zex_eq, ↓reduceIte, Option.isSome_some, Option.isSome_none, Option.getD_some, n32_lit, W, W2, W3, bt0', o8, r0, o2, e6, r2, oh, ES, o8', r0', o2', z_ob_pI, z_R_pI]
        · obtain ⟨σ', E, M, F, t⟩ := zM_gos hM h.2.2.2.2.1
          have G := m_gs hM.1 true true true (show n32 1 = bi true from rfl) (show n32 1 = bi true from rfl) (show n32 1 = bi true from rfl)
          refine zAM_new M F t ?_
          have f1 : b + 118 + 1 = b + 119 := rfl
          have m1 := M.1
          have mg := M.2.1
          unfold zMs at m1
          rw [f1] at m1
          have sg : s_goes true true true = n32 0 := rfl
          rw [sg] at G
          have oo : z_ob (z_sA σ1 (b + 118) (gu (z_I σ1 (b + 118)) 4 (n32 0))) (b + 118) 9 = true := hM.1.1
          simp (disch := omega) only [f_X10_setTimes, f_X10_setTimes_42, ↓zl_eq, ↓zb_eq, ↓zb2_eq, ↓zc_some, ↓zc_none, ↓zb_pre, ↓zb2_pre, ↓zc_pre, ↓zex_eq, ↓reduceIte, Option.isSome_some, Option.isSome_none, Option.getD_some, n32_lit, i64_lit, WM, WM2, WM3, bt0', hM.1.1, G, Bool.and_self, oo, E, m1.1, m1.2.1, m1.2.2.2.2.2.1, m1.2.2.2.2.2.2.2.2.2.1, n32_ix, n32_toNat, mg, z_pI_eq, z_ob_sA, z_R_sA, z_ar_sA, z_ln_sA, z_I_sA, z_sA_sA]
      · have W3 := fun σ => c_win0 σ (by omega) (by omega) hz
        have WM3 := fun σ => m_win0 σ (by omega) (by omega) hz
        refine bad (e9 := ?_) (fun σ1 hM => ?_)
        · simp only [f_X9_setTimes, f_X9_setTimes_31, ↓zl_eq, ↓zb_eq, ↓zb2_eq, ↓zc_some, ↓zc_none, ↓zb_pre, ↓zb2_pre, ↓zc_pre, ↓zex_eq, ↓reduceIte, Option.isSome_some, Option.isSome_none, Option.getD_some, n32_lit, W, W2, W3, bt0', bf0']
        · simp only [f_X10_setTimes, f_X10_setTimes_41, ↓zl_eq, ↓zb_eq, ↓zb2_eq, ↓zc_some, ↓zc_none, ↓zb_pre, ↓zb2_pre, ↓zc_pre, ↓zex_eq, ↓reduceIte, Option.isSome_some, Option.isSome_none, Option.getD_some, n32_lit, i64_lit, WM, WM2, WM3, bt0', bf0']
    · have W2 := fun σ => c_win0 σ (by omega) (by omega) hy
      have WM2 := fun σ => m_win0 σ (by omega) (by omega) hy
      refine bad (e9 := ?_) (fun σ1 hM => ?_)
      · simp only [f_X9_setTimes, f_X9_setTimes_31, ↓zl_eq, ↓zb_eq, ↓zb2_eq, ↓zc_some, ↓zc_none, ↓zb_pre, ↓zb2_pre, ↓zc_pre, ↓zex_eq, ↓reduceIte, Option.isSome_some, Option.isSome_none, Option.getD_some, n32_lit, W, W2, bt0', bf0']
      · simp only [f_X10_setTimes, f_X10_setTimes_41, ↓zl_eq, ↓zb_eq, ↓zb2_eq, ↓zc_some, ↓zc_none, ↓zb_pre, ↓zb2_pre, ↓zc_pre, ↓zex_eq, ↓reduceIte, Option.isSome_some, Option.isSome_none, Option.getD_some, n32_lit, i64_lit, WM, WM2, bt0', bf0']
  · have W := fun σ => c_win0 σ (by omega) (by omega) hx
    have WM := fun σ => m_win0 σ (by omega) (by omega) hx
    refine bad (e9 := ?_) (fun σ1 hM => ?_)
    · simp only [f_X9_setTimes, f_X9_setTimes_31, ↓zl_eq, ↓zb_eq, ↓zb2_eq, ↓zc_some, ↓zc_none, ↓zb_pre, ↓zb2_pre, ↓zc_pre, ↓zex_eq, ↓reduceIte, Option.isSome_some, Option.isSome_none, Option.getD_some, n32_lit, W, bf0']
    · simp only [f_X10_setTimes, f_X10_setTimes_41, ↓zl_eq, ↓zb_eq, ↓zb2_eq, ↓zc_some, ↓zc_none, ↓zb_pre, ↓zb2_pre, ↓zc_pre, ↓zex_eq, ↓reduceIte, Option.isSome_some, Option.isSome_none, Option.getD_some, n32_lit, i64_lit, WM, bf0']
end TOP
end
section
section TOP
variable {σ : zSt} {b k tl : Nat} {g : zG} {gs : Nat → zG} {tx : Nat → Int32} {B V : Nat}
/-- where the answer is yes or no -/
def zPb (σ : zSt) (b : Nat) (g : zG) (k : Nat) (gs : Nat → zG) (tl : Nat) (tx : Nat → Int32) (B V : Nat) (fc : Option (Int32 × zSt)) (fm : zSt → Option (Int32 × zSt)) : Prop :=
  ∃ r c g' k' gs' tl' tx', zAC σ b fc r (bi c) g' k' gs' tl' tx' ∧ (∀ σ1, zM σ1 b g k gs tl tx → zAM σ1 b (fm σ1) r (bi c) g' k' gs' tl' tx') ∧ s_I g' B (V + 300) ∧ (∀ i, i < k' → s_I (gs' i) B (V + 300)) ∧ k' ≤ 4 ∧ tl' ≤ 120 ∧ ∀ j, j < tl' → ∃ c, c < 128 ∧ tx' j = n32 c
theorem zPb_q (h : zW σ b g k gs tl tx B V) {fc : Option (Int32 × zSt)} {fm : zSt → Option (Int32 × zSt)} {r : Int32} {c : Bool} (hc : zAC σ b fc r (bi c) g k gs tl tx) (hm : ∀ σ1, zM σ1 b g k gs tl tx → zAM σ1 b (fm σ1) r (bi c) g k gs tl tx) : zPb σ b g k gs tl tx B V fc fm :=
  ⟨r, c, g, k, gs, tl, tx, hc, hm, s_I_w h.2.2.1 (Nat.le_refl _) (by omega), fun i hi => s_I_w (h.2.2.2.1 i hi) (Nat.le_refl _) (by omega), h.2.2.2.2.1, h.2.2.2.2.2.1, h.2.2.2.2.2.2.1⟩
theorem zPb_s (h : zW σ b g k gs tl tx B V) {fc : Option (Int32 × zSt)} {fm : zSt → Option (Int32 × zSt)} {c : Bool} {g' : zG} (hc : zAC σ b fc 0 (bi c) g' (s_pk k) (s_pg k gs g) tl tx) (hm : ∀ σ1, zM σ1 b g k gs tl tx → zAM σ1 b (fm σ1) 0 (bi c) g' (s_pk k) (s_pg k gs g) tl tx) (hI : s_I g' B (V + 300)) : zPb σ b g k gs tl tx B V fc fm :=
  ⟨0, c, g', s_pk k, s_pg k gs g, tl, tx, hc, hm, hI, fun i hi => s_I_w (s_pg_I h.2.2.2.2.1 h.2.2.1 h.2.2.2.1 i hi) (Nat.le_refl _) (by omega), s_pk4 h.2.2.2.2.1, h.2.2.2.2.2.1, h.2.2.2.2.2.2.1⟩
theorem p_isNoisy' (h : zW σ b g k gs tl tx B V) (hB : B = 1740000) (hV : V ≤ 1000000) (x : Int32) : zPb σ b g k gs tl tx B V (f_L_isNoisy σ b x (b + 123)) (fun σ1 => f_X10_isNoisy σ1 (b + 118) x) := by
  obtain ⟨r, c, h1, h2⟩ := p_isNoisy h hB hV x
  exact zPb_q h h1 h2
theorem zC_hs (h : zC σ b g k gs tl tx) : z_R σ b 2 = some (b + 39) ∧ z_ob σ (b + 39) 1 = true := by
  obtain ⟨hl, hsv, _⟩ := h.2.2.2.1
  exact ⟨h.1.2.2.2.1, hsv.1.1⟩
theorem p_setOn (h : zW σ b g k gs tl tx B V) (hB : B = 1740000) (hV : V ≤ 1000000) (x : Int32) (on : Bool) : zPb σ b g k gs tl tx B V (f_L_setOn σ b x (bi on) (b + 123)) (fun σ1 => f_X10_setOn σ1 (b + 118) x (bi on)) := by
  have hI := h.2.2.1
  have O := h.2.2.2.2.2.2.2
  obtain ⟨o8, r0, o2, pl, ad, qu, n, hs, hG⟩ := zC_open h.1 hI
  have h0 := zC0_of hs
  rcases p_find (b := b) (k := k) (gs := gs) (tl := tl) (tx := tx) hs x with ⟨i, hi, rfl, F, FM⟩ | ⟨F, FM, _⟩
  · have hai := c_ad h0 hi
    have obi := c_ob h0 hi
    have st := s_I_sta hI (ad i) hai.1 hai.2
    obtain ⟨σ1, ES, C1, n1, s1, E1, E2⟩ := zC_save h.1 (s_I_num hI)
    obtain ⟨r2, oh⟩ := zC_hs h.1
    have h1 := zC0_reg (zEq_s E1 (by omega) (by omega)) h0
    have G1 := qG_reg (zEq_s E1 (by omega) (by omega)) hG
    obtain ⟨σ2, EW, A⟩ := c_switch h1 hi on
    have sn : ∀ {j : Nat}, j ≠ 4 → j ≠ 18 + 7 * ad i + 1 → j ≠ 18 + 7 * ad i + 2 → s_sw g (ad i) on j = g j := fun a b c => by
      unfold s_sw
      split
      · rw [gu_ne _ _ b]
      · split
        · rw [gu_ne _ _ a, gu_ne _ _ c, gu_ne _ _ b]
        · rw [gu_ne _ _ c, gu_ne _ _ b]
    have G2 : qG σ2 (b + 1) (s_sw g (ad i) on) := qG_congr A.2.1 (sn (by omega) (by omega) (by omega)) (sn (by omega) (by omega) (by omega)) (fun j hj => sn (by omega) (by omega) (by omega)) G1
    have h2 := zC0_step h1 A
    have o8' : z_ob σ1 b 8 = true := by rw [z_ob_eq s1]; exact o8
    have o2' : z_ob σ1 (b + 1) 2 = true := by rw [z_ob_eq s1]; exact o2
    have r0' : z_R σ1 b 0 = some (b + 1) := C1.1.2.1
    have e1 := (c_S h0 hi).2.1
    have eb : g (18 + 7 * ad i + 1) = bi (decide (g (18 + 7 * ad i + 1) = n32 1)) := by
      rcases st.1 with r | r
      · rw [r, d01]; rfl
      · rw [r, d11]; rfl
    generalize hhad : decide (g (18 + 7 * ad i + 1) = n32 1) = had at eb
    refine zPb_s h (c := had) (g' := s_sw g (ad i) on) (w_setOn O o8 (zA9_line (σ2 := σ2) C1 n1 E2 (zFw_of A.1) (zLn_of h2 G2) ?_)) (fun σ1 hM => ?_) (s_I_w (s_I_sw hI hai.1 hai.2 on) (Nat.le_refl _) (by omega))
    · simp only [f_X9_setOn, ↓zl_eq, ↓zb_eq, ↓zb2_eq, ↓zc_some, ↓zc_none, ↓zb_pre, ↓zb2_pre, ↓zc_pre, ↓zex_eq, ↓reduceIte, Option.isSome_some, Option.isSome_none, Option.getD_some, o8, r0, o2, F, obi, e1, eb, r2, oh, ES, o8', r0', o2', EW, bi_bl]
    · obtain ⟨σ', E, M, F', t⟩ := zM_gos hM h.2.2.2.2.1
      have G := m_gs hM.1 true true true (show bi true = bi true from rfl) (show n32 1 = bi true from rfl) (show n32 1 = bi true from rfl)
      refine zAM_new M F' t ?_
      have sg : s_goes true true true = n32 0 := rfl
      rw [sg] at G
      have oo : z_ob (z_sA σ1 (b + 118) (gu (z_I σ1 (b + 118)) 4 (n32 0))) (b + 118) 9 = true := hM.1.1
      have mg : z_I σ' (b + 118 + 1) = g := M.2.1
      have OF := m_of M.1 (x := ad i) (w := 1) hai.1 (by decide)
      have ST := m_setOn35 M.1 (x := ad i) hai.1 had on
      rw [mg] at OF ST
      have es := s_sw_eq (s_I_sta hI) (s_I_hon hI) hai.1 hai.2 on
      rw [hhad] at es
      rw [es] at ST
      have T : f_X10_setOn σ1 (b + 118) (n32 (ad i)) (bi on) = f_X10_setOn_35 σ' (b + 118) (n32 (ad i)) (bi on) (bi had) := by
        simp only [f_X10_setOn, ↓zl_eq, ↓zb_eq, ↓zb2_eq, ↓zc_some, ↓zc_none, ↓zb_pre, ↓zb2_pre, ↓zc_pre, ↓zex_eq, ↓reduceIte, Option.isSome_some, Option.isSome_none, Option.getD_some, n32_lit, hM.1.1, FM σ1 hM, G, Bool.and_self, bt0', oo, E, M.1.1, OF]
        rw [← hhad]
        by_cases hc : g (18 + 7 * ad i + 1) = n32 1
        · rw [if_pos hc, hc, d11]; rfl
        · rw [if_neg hc, decide_eq_false hc]; rfl
      show f_X10_setOn σ1 (b + 118) (n32 (ad i)) (bi on) = _
      rw [T, ST]
  · refine zPb_q h (r := 1) (c := false) (x_setOn3 _ O o8 (zA9_x h.1 ?_)) (fun σ1 hM => zAM_q hM ?_)
    · simp only [f_X9_setOn, ↓zl_eq, ↓zb_eq, ↓zb2_eq, ↓zc_some, ↓zc_none, ↓zb_pre, ↓zb2_pre, ↓zc_pre, ↓zex_eq, ↓reduceIte, Option.isSome_some, Option.isSome_none, Option.getD_some, o8, r0, o2, F, Bool.false_eq_true]
    · have G := m_gs hM.1 false true true rfl (show n32 1 = bi true from rfl) (show n32 1 = bi true from rfl)
      simp only [f_X10_setOn, ↓zl_eq, ↓zb_eq, ↓zb2_eq, ↓zc_some, ↓zc_none, ↓zb_pre, ↓zb2_pre, ↓zc_pre, ↓zex_eq, ↓reduceIte, Option.isSome_some, Option.isSome_none, Option.getD_some, n32_lit, hM.1.1, FM σ1 hM, G, bf0', Bool.false_and]
      rfl
theorem m_inx (σ : zSt) (x y z : Int32) : f_X10_in σ x.toInt64 y.toInt64 z.toInt64 = some (bi (decide (y.toInt ≤ x.toInt ∧ x.toInt ≤ z.toInt))) := by
  rw [m_in64, ← Bool.decide_and]
  congr 2
  apply decide_eq_decide.2
  rw [Int64.le_iff_toInt_le, Int64.le_iff_toInt_le, Int32.toInt_toInt64, Int32.toInt_toInt64, Int32.toInt_toInt64]
theorem i64_n (k : Nat) (h : k < 2147483648) : Int64.ofNat k = (n32 k).toInt64 := by
  rw [← Int64.toInt_inj, Int32.toInt_toInt64, n32_toInt h, Int64.toInt_ofNat_of_lt (by omega)]
theorem p_addNoise (h : zW σ b g k gs tl tx B V) (hB : B = 1740000) (hV : V ≤ 1000000) (x y : Int32) : zP σ b g k gs tl tx B V (f_L_addNoise σ b x y (b + 123)) (fun σ1 => f_X10_addNoise σ1 (b + 118) x y) := by
  have hI := h.2.2.1
  have O := h.2.2.2.2.2.2.2
  obtain ⟨o8, r0, o2, pl, ad, qu, n, hs, hG⟩ := zC_open h.1 hI
  have h0 := zC0_of hs
  obtain ⟨q5, q52⟩ := s_I_5 hI
  obtain ⟨z, hz, h6⟩ := s_I_6 hI
  have e5 : z_I σ (b + 1 + 5) 2 = n32 z := h0.2.2.2.2.2.1.1.trans h6
  have rr := hs.1.2.2.2.1
  have o5 := hs.1.2.2.2.2.2.2.2.2.2.2.2.2.2.2.1
  have z0 : (n32 0).toInt = 0 := rfl
  have zm : (n32 1000000).toInt = 1000000 := n32_toInt (by omega)
  have X1 : f_X9_isWithin σ y (n32 0) (n32 1000000) = some (bi (decide (0 ≤ y.toInt ∧ y.toInt ≤ 1000000))) := by rw [c_isWithin, z0, zm]
  have X2 : f_X9_isWithin σ x (n32 0) y = some (bi (decide (0 ≤ x.toInt ∧ x.toInt ≤ y.toInt))) := by rw [c_isWithin, z0]
  have Y1 : ∀ σ, f_X10_in σ x.toInt64 (Int64.ofNat 0) y.toInt64 = some (bi (decide (0 ≤ x.toInt ∧ x.toInt ≤ y.toInt))) := fun σ => by rw [i64_n 0 (by omega), m_inx, z0]
  have Y2 : ∀ σ, f_X10_in σ y.toInt64 x.toInt64 (Int64.ofNat 1000000) = some (bi (decide (x.toInt ≤ y.toInt ∧ y.toInt ≤ 1000000))) := fun σ => by rw [i64_n 1000000 (by omega), m_inx, zm]
  have isF : f_X4_isFull σ (b + 1 + 5) = some (bi (!decide (z < 20))) := by
    simp (disch := omega) only [f_X4_isFull, f_X4_isFull_14, ↓zl_eq, ↓zb_eq, ↓zb2_eq, ↓zc_some, ↓zc_none, ↓zb_pre, ↓zb2_pre, ↓zc_pre, ↓zex_eq, ↓reduceIte, Option.isSome_some, Option.isSome_none, Option.getD_some, n32_lit, o5, e5, n32_lt, bl0, bl1]
    by_cases hc : z < 20
    · rw [if_pos hc, decide_eq_true hc]; rfl
    · rw [if_neg hc, decide_eq_false hc]; rfl
  have loud : ∀ σ1, zM σ1 b g k gs tl tx → ∀ s0 s1, f_X10_addNoise_30 σ1 (b + 118) x y s0 s1 = f_X10_addNoise_47 σ1 (b + 118) x y (bi (decide (z < 20))) s0 s1 := by
    intro σ1 hM s0 s1
    have e1 : z_I σ1 (b + 118 + 1) 6 = n32 z := by have := hM.2.1; rw [show z_I σ1 (b + 118 + 1) = g from this]; exact h6
    have t1 := hM.1
    simp (disch := omega) only [f_X10_addNoise_30, ↓zl_eq, ↓zb_eq, ↓zb2_eq, ↓zc_some, ↓zc_none, ↓zb_pre, ↓zb2_pre, ↓zc_pre, ↓zex_eq, ↓reduceIte, Option.isSome_some, Option.isSome_none, Option.getD_some, n32_lit, t1.1, t1.2.1, t1.2.2.2.2.2.1, t1.2.2.2.2.2.2.2.2.2.1, n32_ix, n32_toNat, e1, n32_le]
    by_cases hc : z < 20
    · rw [if_neg (by omega), decide_eq_true hc]; rfl
    · rw [if_pos (by omega), decide_eq_false hc]; rfl
  by_cases hxy : (0 ≤ x.toInt ∧ x.toInt ≤ y.toInt) ∧ y.toInt ≤ 1000000
  · rw [decide_eq_true (show 0 ≤ y.toInt ∧ y.toInt ≤ 1000000 by omega)] at X1
    rw [decide_eq_true (show 0 ≤ x.toInt ∧ x.toInt ≤ y.toInt by omega)] at X2
    have Z1 := fun σ => (Y1 σ).trans (by rw [decide_eq_true (show 0 ≤ x.toInt ∧ x.toInt ≤ y.toInt by omega)])
    have Z2 := fun σ => (Y2 σ).trans (by rw [decide_eq_true (show x.toInt ≤ y.toInt ∧ y.toInt ≤ 1000000 by omega)])
    by_cases hz20 : z < 20
    · obtain ⟨σ1, ES, C1, n1, s1, E1, E2⟩ := zC_save h.1 (s_I_num hI)
      obtain ⟨r2, oh⟩ := zC_hs h.1
      have h1 := zC0_reg (zEq_s E1 (by omega) (by omega)) h0
      have G1 := qG_reg (zEq_s E1 (by omega) (by omega)) hG
      obtain ⟨σ2, EN, A, A5⟩ := c_addNoise h1 q5 hz20 h6 x y
      have h2 := zC0_step h1 A
      have sn : ∀ {j : Nat}, j ≠ 6 → (j < 742 ∨ 782 ≤ j) → s_an g z x y j = g j := fun a b => s_an_ne g z x y a (by omega) (by omega)
      have G2 : qG σ2 (b + 1) (s_an g z x y) := qG_congr A.2.1 (sn (by omega) (by omega)) (sn (by omega) (by omega)) (fun j hj => sn (by omega) (by omega)) G1
      have o8' : z_ob σ1 b 8 = true := by rw [z_ob_eq s1]; exact o8
      have o2' : z_ob σ1 (b + 1) 2 = true := by rw [z_ob_eq s1]; exact o2
      have o5' : z_ob σ1 (b + 1 + 5) 4 = true := by rw [z_ob_eq s1]; exact o5
      have r0' : z_R σ1 b 0 = some (b + 1) := C1.1.2.1
      have rr' := h1.1.2.2.2.1
      have eo : z_ob σ2 = z_ob σ1 := z_ob_eq A.1.2.1
      have eR : z_R σ2 = z_R σ1 := A.1.2.2.1
      rw [decide_eq_true hz20] at isF loud
      refine zP_s h (v := n32 (z + 1)) (g' := s_an g z x y) (w_addNoise O o8 (zA9_line (σ2 := σ2) C1 n1 E2 (zFw_of A.1) (zLn_of h2 G2) ?_)) (fun σ1 hM => ?_) (s_I_w (s_I_an hI hz20 x y) (Nat.le_refl _) (by omega))
      · simp only [f_X9_addNoise, ↓zl_eq, ↓zb_eq, ↓zb2_eq, ↓zc_some, ↓zc_none, ↓zb_pre, ↓zb2_pre, ↓zc_pre, ↓zex_eq, ↓reduceIte, Option.isSome_some, Option.isSome_none, Option.getD_some, n32_lit, X1, X2, bt0', bf0', Bool.not_true, o8, r0, o2, rr, o5, isF, r2, oh, ES, o8', r0', o2', rr', o5', EN, eo, eR, A5]
      · obtain ⟨σ', E, M, F', t⟩ := zM_gos hM h.2.2.2.2.1
        have G := m_gs hM.1 true true true (show bi true = bi true from rfl) (show bi true = bi true from rfl) (show n32 1 = bi true from rfl)
        refine zAM_new M F' t ?_
        have sg : s_goes true true true = n32 0 := rfl
        rw [sg] at G
        have oo : z_ob (z_sA σ1 (b + 118) (gu (z_I σ1 (b + 118)) 4 (n32 0))) (b + 118) 9 = true := hM.1.1
        have f1 : b + 118 + 1 = b + 119 := rfl
        have m1 := M.1
        have mg := M.2.1
        unfold zMs at m1
        rw [f1] at m1
        have T : f_X10_addNoise σ1 (b + 118) x y = f_X10_addNoise_47 σ1 (b + 118) x y (bi true) (bi true) (some (b + 118)) := by
          rw [← loud σ1 hM]
          simp only [f_X10_addNoise, ↓zl_eq, ↓zb_eq, ↓zb2_eq, ↓zc_some, ↓zc_none, ↓zb_pre, ↓zb2_pre, ↓zc_pre, ↓zex_eq, ↓reduceIte, Option.isSome_some, Option.isSome_none, Option.getD_some, n32_lit, i64_lit, Z1, Z2, bt0']
          rfl
        have e6a : z + 1 = z + 1 := rfl
        show f_X10_addNoise σ1 (b + 118) x y = _
        rw [T]
        unfold s_an
        have c1 : gu g (742 + 2 * z) x 6 = n32 z := by rw [gu_ne _ _ (by omega)]; exact h6
        have c2 : gu (gu g (742 + 2 * z) x) (742 + 2 * z + 1) y 6 = n32 z := by rw [gu_ne _ _ (by omega), gu_ne _ _ (by omega)]; exact h6
        simp (disch := omega) only [f_X10_addNoise_47, ↓zl_eq, ↓zb_eq, ↓zb2_eq, ↓zc_some, ↓zc_none, ↓zb_pre, ↓zb2_pre, ↓zc_pre, ↓zex_eq, ↓reduceIte, Option.isSome_some, Option.isSome_none, Option.getD_some, n32_lit, hM.1.1, G, Bool.and_self, bt0', oo, E, m1.1, m1.2.1, m1.2.2.2.2.2.1, m1.2.2.2.2.2.2.2.2.2.1, n32_ix, n32_toNat, mg, h6, c1, c2, n32_mul, n32_add, z_pI_eq, z_ob_sA, z_R_sA, z_ar_sA, z_ln_sA, z_I_sA, z_sA_sA, gu_same]
    · rw [decide_eq_false hz20] at isF loud
      refine zP_q h (r := 2) (v := 0) (x_addNoise1 _ O o8 (zA9_x h.1 ?_)) (fun σ1 hM => zAM_q hM ?_)
      · simp only [f_X9_addNoise, ↓zl_eq, ↓zb_eq, ↓zb2_eq, ↓zc_some, ↓zc_none, ↓zb_pre, ↓zb2_pre, ↓zc_pre, ↓zex_eq, ↓reduceIte, Option.isSome_some, Option.isSome_none, Option.getD_some, n32_lit, X1, X2, bt0', Bool.not_false, o8, r0, o2, rr, o5, isF]
      · have G := m_gs hM.1 true false true (show bi true = bi true from rfl) (show bi false = bi false from rfl) (show n32 1 = bi true from rfl)
        have T : f_X10_addNoise σ1 (b + 118) x y = f_X10_addNoise_47 σ1 (b + 118) x y (bi false) (bi true) (some (b + 118)) := by
          rw [← loud σ1 hM]
          simp only [f_X10_addNoise, ↓zl_eq, ↓zb_eq, ↓zb2_eq, ↓zc_some, ↓zc_none, ↓zb_pre, ↓zb2_pre, ↓zc_pre, ↓zex_eq, ↓reduceIte, Option.isSome_some, Option.isSome_none, Option.getD_some, n32_lit, i64_lit, Z1, Z2, bt0']
          rfl
        show f_X10_addNoise σ1 (b + 118) x y = _
        rw [T]
        simp only [f_X10_addNoise_47, ↓zl_eq, ↓zb_eq, ↓zb2_eq, ↓zc_some, ↓zc_none, ↓zb_pre, ↓zb2_pre, ↓zc_pre, ↓zex_eq, ↓reduceIte, Option.isSome_some, Option.isSome_none, Option.getD_some, n32_lit, hM.1.1, G, bf0', Bool.and_false, Bool.false_and]
        rfl
  · refine zP_q h (r := 1) (v := 0) (x_addNoise0 _ O o8 (zA9_x h.1 ?_)) (fun σ1 hM => zAM_q hM ?_)
    · by_cases hc : 0 ≤ y.toInt ∧ y.toInt ≤ 1000000
      · rw [decide_eq_true hc] at X1
        rw [decide_eq_false (by omega)] at X2
        simp only [f_X9_addNoise, f_X9_addNoise_19, ↓zl_eq, ↓zb_eq, ↓zb2_eq, ↓zc_some, ↓zc_none, ↓zb_pre, ↓zb2_pre, ↓zc_pre, ↓zex_eq, ↓reduceIte, Option.isSome_some, Option.isSome_none, Option.getD_some, n32_lit, X1, X2, bt0', bf0']
      · rw [decide_eq_false hc] at X1
        simp only [f_X9_addNoise, f_X9_addNoise_19, ↓zl_eq, ↓zb_eq, ↓zb2_eq, ↓zc_some, ↓zc_none, ↓zb_pre, ↓zb2_pre, ↓zc_pre, ↓zex_eq, ↓reduceIte, Option.isSome_some, Option.isSome_none, Option.getD_some, n32_lit, X1, bf0']
    · have G := m_gs hM.1 false (decide (z < 20)) true (show n32 0 = bi false from rfl) rfl (show n32 1 = bi true from rfl)
      have T : f_X10_addNoise σ1 (b + 118) x y = f_X10_addNoise_47 σ1 (b + 118) x y (bi (decide (z < 20))) (n32 0) (some (b + 118)) := by
        rw [← loud σ1 hM]
        have y1 := Y1 σ1
        have y2 := Y2 σ1
        by_cases hc : 0 ≤ x.toInt ∧ x.toInt ≤ y.toInt
        · rw [decide_eq_true hc] at y1
          rw [decide_eq_false (by omega)] at y2
          simp only [f_X10_addNoise, f_X10_addNoise_29, ↓zl_eq, ↓zb_eq, ↓zb2_eq, ↓zc_some, ↓zc_none, ↓zb_pre, ↓zb2_pre, ↓zc_pre, ↓zex_eq, ↓reduceIte, Option.isSome_some, Option.isSome_none, Option.getD_some, n32_lit, i64_lit, y1, y2, bt0', bf0']
        · rw [decide_eq_false hc] at y1
          simp only [f_X10_addNoise, f_X10_addNoise_29, ↓zl_eq, ↓zb_eq, ↓zb2_eq, ↓zc_some, ↓zc_none, ↓zb_pre, ↓zb2_pre, ↓zc_pre, ↓zex_eq, ↓reduceIte, Option.isSome_some, Option.isSome_none, Option.getD_some, n32_lit, i64_lit, y1, bf0']
      show f_X10_addNoise σ1 (b + 118) x y = _
      rw [T]
      simp only [f_X10_addNoise_47, ↓zl_eq, ↓zb_eq, ↓zb2_eq, ↓zc_some, ↓zc_none, ↓zb_pre, ↓zb2_pre, ↓zc_pre, ↓zex_eq, ↓reduceIte, Option.isSome_some, Option.isSome_none, Option.getD_some, n32_lit, hM.1.1, G, bf0', Bool.false_and]
      rfl
end TOP
end
section
section TOP
variable {σ : zSt} {b k tl : Nat} {g : zG} {gs : Nat → zG} {tx : Nat → Int32} {B V : Nat}
theorem c_isFull {a n : Nat} {pl ad : Nat → Nat} {qu : Nat → Nat → Nat} (h : zC0 σ a pl ad qu n g) : f_X2_isFull σ a = some (bi (!decide (n < 8))) := by
  have o1 := h.1.1
  have e5 := (c_L h).1
  have hn := c_n8 h
  simp (disch := omega) only [f_X2_isFull, f_X2_isFull_14, ↓zl_eq, ↓zb_eq, ↓zb2_eq, ↓zc_some, ↓zc_none, ↓zb_pre, ↓zb2_pre, ↓zc_pre, ↓zex_eq, ↓reduceIte, Option.isSome_some, Option.isSome_none, Option.getD_some, n32_lit, o1, e5, n32_lt, bl0, bl1]
  by_cases hc : n < 8
  · rw [if_pos hc, decide_eq_true hc]; rfl
  · rw [if_neg hc, decide_eq_false hc]; rfl
theorem p_addStation (h : zW σ b g k gs tl tx B V) (hB : B = 1740000) (hV : V ≤ 1000000) (x : Int32) : zP σ b g k gs tl tx B V (f_L_addStation σ b x (b + 123)) (fun σ1 => f_X10_addStation σ1 (b + 118) x) := by
  have hI := h.2.2.1
  have O := h.2.2.2.2.2.2.2
  obtain ⟨o8, r0, o2, pl, ad, qu, n, hs, hG⟩ := zC_open h.1 hI
  have h0 := zC0_of hs
  have hn := c_n8 h0
  obtain ⟨q5, q52⟩ := s_I_5 hI
  have IA : f_X9_isAddress σ x = some (bi (decide (0 ≤ x.toInt ∧ x.toInt ≤ 31))) := c_isAddress σ x
  have IM := fun σ => m_inN σ x (lo := 0) (hi := 31) (by omega) (by omega)
  have full := c_isFull h0
  have ST := fun σ1 (hM : zM σ1 b g k gs tl tx) => (show f_X10_stations σ1 (b + 118) = some (n32 n) by
    rw [m_stations hM.1, show z_I σ1 (b + 118 + 1) = g from hM.2.1, s_sum_n (c_qA h0)])
  by_cases hx : 0 ≤ x.toInt ∧ x.toInt ≤ 31
  · rw [decide_eq_true hx] at IA
    have IM1 := fun σ => (IM σ).trans (by rw [decide_eq_true (by omega)])
    rcases p_find (b := b) (k := k) (gs := gs) (tl := tl) (tx := tx) hs x with ⟨i, hi, hxi, F, FM⟩ | ⟨F, FM, FN⟩
    · refine zP_q h (r := 2) (v := 0) (x_addStation1 _ O o8 (zA9_x h.1 ?_)) (fun σ1 hM => zAM_q hM ?_)
      · simp only [f_X9_addStation, f_X9_addStation_38, ↓zl_eq, ↓zb_eq, ↓zb2_eq, ↓zc_some, ↓zc_none, ↓zb_pre, ↓zb2_pre, ↓zc_pre, ↓zex_eq, ↓reduceIte, Option.isSome_some, Option.isSome_none, Option.getD_some, IA, n32_lit, bt0', o8, r0, o2, F]
      · have G := m_gs hM.1 true false true (show bi true = bi true from rfl) (show n32 0 = bi false from rfl) (show n32 1 = bi true from rfl)
        simp only [f_X10_addStation, f_X10_addStation_37, f_X10_addStation_38, ↓zl_eq, ↓zb_eq, ↓zb2_eq, ↓zc_some, ↓zc_none, ↓zb_pre, ↓zb2_pre, ↓zc_pre, ↓zex_eq, ↓reduceIte, Option.isSome_some, Option.isSome_none, Option.getD_some, n32_lit, i64_lit, IM1, bt0', bf0', hM.1.1, FM σ1 hM, G, Bool.and_false, Bool.false_and]
        rfl
    · obtain ⟨y, hy, rfl⟩ := n32_of2 (x := x) (k := 31) hx.1 hx.2 (by omega)
      have hz := FN y (by omega) rfl
      have own : s_own g := hI.2.2.2
      by_cases hn8 : n < 8
      · rw [decide_eq_true hn8] at full
        obtain ⟨σ1, ES, C1, n1, s1, E1, E2⟩ := zC_save h.1 (s_I_num hI)
        obtain ⟨r2, oh⟩ := zC_hs h.1
        have h1 := zC0_reg (zEq_s E1 (by omega) (by omega)) h0
        have G1 := qG_reg (zEq_s E1 (by omega) (by omega)) hG
        obtain ⟨z, hz6, h6⟩ := s_I_6 hI
        obtain ⟨σ2, pl', ad', p, EP, FW, h2, G2, _⟩ := c_place h1 G1 hn8 own (by rw [s_nat_n32 h6 (by omega)]; exact hz6) q5 (show y < 32 by omega) hz
        have o8' : z_ob σ1 b 8 = true := by rw [z_ob_eq s1]; exact o8
        have o2' : z_ob σ1 (b + 1) 2 = true := by rw [z_ob_eq s1]; exact o2
        have r0' : z_R σ1 b 0 = some (b + 1) := C1.1.2.1
        have eo : z_ob σ2 = z_ob σ1 := z_ob_eq FW.2.1
        have eR : z_R σ2 b = z_R σ1 b := (FW.2.2 b (by omega)).2.2
        have e5 := (c_L h2).1
        refine zP_s h (v := n32 (n + 1)) (g' := s_adds g y) (w_addStation O o8 (zA9_line (σ2 := σ2) C1 n1 E2 FW (zLn_of h2 G2) ?_)) (fun σ1 hM => ?_) (s_I_w (s_I_adds hI (show y < 32 by omega) hz) (Nat.le_refl _) (by omega))
        · simp only [f_X9_addStation, ↓zl_eq, ↓zb_eq, ↓zb2_eq, ↓zc_some, ↓zc_none, ↓zb_pre, ↓zb2_pre, ↓zc_pre, ↓zex_eq, ↓reduceIte, Option.isSome_some, Option.isSome_none, Option.getD_some, IA, n32_lit, bt0', bf0', Bool.not_true, o8, r0, o2, F, full, r2, oh, ES, o8', r0', o2', EP, eo, eR, e5, Bool.false_eq_true]
        · obtain ⟨σ', E, M, F', t⟩ := zM_gos hM h.2.2.2.2.1
          have G := m_gs hM.1 true true true (show bi true = bi true from rfl) (show n32 1 = bi true from rfl) (show n32 1 = bi true from rfl)
          refine zAM_new M F' t ?_
          have sg : s_goes true true true = n32 0 := rfl
          rw [sg] at G
          have oo : z_ob (z_sA σ1 (b + 118) (gu (z_I σ1 (b + 118)) 4 (n32 0))) (b + 118) 9 = true := hM.1.1
          have f1 : b + 118 + 1 = b + 119 := rfl
          have mg : z_I σ' (b + 118 + 1) = g := M.2.1
          have AD := m_adds M.1 (x := y) (by omega)
          rw [mg] at AD
          have AD2 : f_X10_adds σ' (b + 118) (n32 y) = some (z_sA σ' (b + 118 + 1) (s_adds g y)) := AD
          have S2 := m_stations (zMs_sA M.1 (b + 118 + 1) (s_adds g y))
          rw [z_I_sA, s_sum_n (c_qA h2)] at S2
          have nf : (8 ≤ n) = False := eq_false (by omega)
          simp (disch := omega) only [f_X10_addStation, f_X10_addStation_38, ↓zl_eq, ↓zb_eq, ↓zb2_eq, ↓zc_some, ↓zc_none, ↓zb_pre, ↓zb2_pre, ↓zc_pre, ↓zex_eq, ↓reduceIte, Option.isSome_some, Option.isSome_none, Option.getD_some, n32_lit, i64_lit, IM1, bt0', bf0', hM.1.1, FM σ1 hM, ST σ1 hM, n32_le, nf, G, Bool.and_self, oo, E, M.1.1, AD2, z_ob_sA, S2]
      · rw [decide_eq_false hn8] at full
        refine zP_q h (r := 2) (v := 0) (x_addStation1 _ O o8 (zA9_x h.1 ?_)) (fun σ1 hM => zAM_q hM ?_)
        · simp only [f_X9_addStation, f_X9_addStation_38, ↓zl_eq, ↓zb_eq, ↓zb2_eq, ↓zc_some, ↓zc_none, ↓zb_pre, ↓zb2_pre, ↓zc_pre, ↓zex_eq, ↓reduceIte, Option.isSome_some, Option.isSome_none, Option.getD_some, IA, n32_lit, bt0', Bool.not_false, o8, r0, o2, F, full, Bool.false_eq_true]
        · have G := m_gs hM.1 true false true (show bi true = bi true from rfl) (show n32 0 = bi false from rfl) (show n32 1 = bi true from rfl)
          have nf : (8 ≤ n) = True := eq_true (by omega)
          simp (disch := omega) only [f_X10_addStation, f_X10_addStation_37, f_X10_addStation_38, ↓zl_eq, ↓zb_eq, ↓zb2_eq, ↓zc_some, ↓zc_none, ↓zb_pre, ↓zb2_pre, ↓zc_pre, ↓zex_eq, ↓reduceIte, Option.isSome_some, Option.isSome_none, Option.getD_some, n32_lit, i64_lit, IM1, bt0', bf0', hM.1.1, FM σ1 hM, ST σ1 hM, n32_le, nf, G, Bool.and_false, Bool.false_and]
          rfl
  · rw [decide_eq_false hx] at IA
    have IM0 := fun σ => (IM σ).trans (by rw [decide_eq_false (by omega)])
    refine zP_q h (r := 1) (v := 0) (x_addStation0 _ O o8 (zA9_x h.1 ?_)) (fun σ1 hM => zAM_q hM ?_)
    · simp only [f_X9_addStation, ↓zl_eq, ↓zb_eq, ↓zb2_eq, ↓zc_some, ↓zc_none, ↓zb_pre, ↓zb2_pre, ↓zc_pre, ↓zex_eq, ↓reduceIte, Option.isSome_some, Option.isSome_none, Option.getD_some, IA, n32_lit, bf0']
    · have G := m_gs hM.1 false false true (show bi false = bi false from rfl) (show n32 0 = bi false from rfl) (show n32 1 = bi true from rfl)
      simp only [f_X10_addStation, f_X10_addStation_37, f_X10_addStation_38, ↓zl_eq, ↓zb_eq, ↓zb2_eq, ↓zc_some, ↓zc_none, ↓zb_pre, ↓zb2_pre, ↓zc_pre, ↓zex_eq, ↓reduceIte, Option.isSome_some, Option.isSome_none, Option.getD_some, n32_lit, i64_lit, IM0, bf0', hM.1.1, G, Bool.and_false, Bool.false_and]
      rfl
theorem m_gives {M q : Nat} (hM : zMs σ M) (h5 : z_I σ (M + 1) 5 = n32 q) (hq : q < 100) (x L U : Int32) : f_X10_gives σ M x L U = some (n32 q, z_sA σ (M + 1) (s_gives (z_I σ (M + 1)) q x L U)) := by
  unfold s_gives
  simp (disch := omega) only [f_X10_gives, f_X10_inMessage, ↓zl_eq, ↓zb_eq, ↓zb2_eq, ↓zc_some, ↓zc_none, ↓zb_pre, ↓zb2_pre, ↓zc_pre, ↓zex_eq, ↓reduceIte, Option.isSome_some, Option.isSome_none, Option.getD_some, n32_lit, n32_nn, n32_nn2, n32_add, n32_mul, n32_toNat, n32_ix, z_pI_eq, z_sA_sA, z_I_sA, z_J_sA, z_R_sA, z_ob_sA, z_ar_sA, z_ln_sA, z_nx_sA, hM.1, hM.2.1, hM.2.2.1, hM.2.2.2.1, hM.2.2.2.2.1, hM.2.2.2.2.2.1, hM.2.2.2.2.2.2.1, hM.2.2.2.2.2.2.2.1, hM.2.2.2.2.2.2.2.2.1, hM.2.2.2.2.2.2.2.2.2.1, hM.2.2.2.2.2.2.2.2.2.2.1, hM.2.2.2.2.2.2.2.2.2.2.2.1, hM.2.2.2.2.2.2.2.2.2.2.2.2, h5, gu_ne]
theorem p_give (h : zW σ b g k gs tl tx B V) (hB : B = 1740000) (hV : V ≤ 1000000) (x y z : Int32) : zP σ b g k gs tl tx B V (f_L_give σ b x y z (b + 123)) (fun σ1 => f_X10_give σ1 (b + 118) x y z) := by
  have hI := h.2.2.1
  have O := h.2.2.2.2.2.2.2
  obtain ⟨o8, r0, o2, pl, ad, qu, n, hs, hG⟩ := zC_open h.1 hI
  have h0 := zC0_of hs
  obtain ⟨q5, q52⟩ := s_I_5 hI
  have r1 := hs.1.2.2.1
  have o3 := hs.1.2.2.2.2.2.2.2.2.1
  have eM : z_I σ (b + 1 + 2) 1 = n32 (s_nat g 5) := hs.2.2.1.2.2.1.1.trans q52
  have full : f_X3_isFull σ (b + 1 + 2) = some (bi (!decide (s_nat g 5 < 100))) := by
    simp (disch := omega) only [f_X3_isFull, f_X3_isFull_14, ↓zl_eq, ↓zb_eq, ↓zb2_eq, ↓zc_some, ↓zc_none, ↓zb_pre, ↓zb2_pre, ↓zc_pre, ↓zex_eq, ↓reduceIte, Option.isSome_some, Option.isSome_none, Option.getD_some, n32_lit, o3, eM, n32_lt, bl0, bl1]
    by_cases hc : s_nat g 5 < 100
    · rw [if_pos hc, decide_eq_true hc]; rfl
    · rw [if_neg hc, decide_eq_false hc]; rfl
  have g35 : ∀ σ1, zM σ1 b g k gs tl tx → ∀ s0 s1 s2, f_X10_give_35 σ1 (b + 118) x y z s0 s1 s2 = f_X10_give_51 σ1 (b + 118) x y z (bi (decide (s_nat g 5 < 100))) s0 s1 s2 := by
    intro σ1 hM s0 s1 s2
    have e1 : z_I σ1 (b + 118 + 1) 5 = n32 (s_nat g 5) := by have := hM.2.1; rw [show z_I σ1 (b + 118 + 1) = g from this]; exact q52
    have t1 := hM.1
    simp (disch := omega) only [f_X10_give_35, ↓zl_eq, ↓zb_eq, ↓zb2_eq, ↓zc_some, ↓zc_none, ↓zb_pre, ↓zb2_pre, ↓zc_pre, ↓zex_eq, ↓reduceIte, Option.isSome_some, Option.isSome_none, Option.getD_some, n32_lit, t1.1, t1.2.1, t1.2.2.2.2.2.1, t1.2.2.2.2.2.2.2.2.2.1, n32_ix, n32_toNat, e1, n32_le]
    by_cases hc : s_nat g 5 < 100
    · rw [if_neg (by omega), decide_eq_true hc]; rfl
    · rw [if_pos (by omega), decide_eq_false hc]; rfl
  have g51 : ∀ σ1, zM σ1 b g k gs tl tx → ∀ c d e, (c && d && e) = false → f_X10_give_51 σ1 (b + 118) x y z (bi e) (bi d) (bi c) (some (b + 118)) = some (n32 0, z_sA σ1 (b + 118) (gu (z_I σ1 (b + 118)) 4 (s_goes c d e))) := by
    intro σ1 hM c d e hc
    have G := m_gs hM.1 c d e rfl rfl rfl
    rw [hc] at G
    simp only [f_X10_give_51, ↓zl_eq, ↓zb_eq, ↓zb2_eq, ↓zc_some, ↓zc_none, ↓zb_pre, ↓zb2_pre, ↓zc_pre, ↓zex_eq, ↓reduceIte, Option.isSome_some, Option.isSome_none, Option.getD_some, n32_lit, hM.1.1, G, bf0']
  rcases p_find (b := b) (k := k) (gs := gs) (tl := tl) (tx := tx) hs x with ⟨i, hi, rfl, F, FM⟩ | ⟨F, FM, _⟩
  · have hai := c_ad h0 hi
    have obi := c_ob h0 hi
    by_cases hy : ((1 : Nat) : Int) ≤ y.toInt ∧ y.toInt ≤ ((20 : Nat) : Int)
    · have W := fun σ => c_win1 σ (by omega) (by omega) hy
      have WM := fun σ => m_win1 σ (by omega) (by omega) hy
      by_cases hz : ((0 : Nat) : Int) ≤ z.toInt ∧ z.toInt ≤ ((9 : Nat) : Int)
      · have W2 := fun σ => c_win1 σ (by omega) (by omega) hz
        have WM2 := fun σ => m_win1 σ (by omega) (by omega) hz
        by_cases hq : s_nat g 5 < 100
        · rw [decide_eq_true hq] at full g35
          obtain ⟨σ1, ES, C1, n1, s1, E1, E2⟩ := zC_save h.1 (s_I_num hI)
          obtain ⟨r2, oh⟩ := zC_hs h.1
          have h1 := zC0_reg (zEq_s E1 (by omega) (by omega)) h0
          have G1 := qG_reg (zEq_s E1 (by omega) (by omega)) hG
          obtain ⟨z', hz6, h6⟩ := s_I_6 hI
          obtain ⟨σ2, qu', EA, FA, h2, G2⟩ := c_add h1 G1 q52 hq (by rw [s_nat_n32 h6 (by omega)]; exact hz6) hi y z
          have o8' : z_ob σ1 b 8 = true := by rw [z_ob_eq s1]; exact o8
          have o2' : z_ob σ1 (b + 1) 2 = true := by rw [z_ob_eq s1]; exact o2
          have r0' : z_R σ1 b 0 = some (b + 1) := C1.1.2.1
          have r1' := h1.1.2.2.1
          have o3' := h1.1.2.2.2.2.2.2.2.2.1
          have e9 := (c_L h1).2.2.2.2.1
          obtain ⟨l, hl1, rfl⟩ := n32_of2 (x := y) (k := 20) (by omega) (by omega) (by omega)
          have hl2 : 1 ≤ l := by rw [n32_toInt (by omega)] at hy; omega
          refine zP_s h (v := n32 (s_nat g 5)) (g' := s_gives g (s_nat g 5) (n32 (ad i)) (n32 l) z) (w_give O o8 (zA9_line (σ2 := σ2) C1 n1 E2 (zFw_of FA) (zLn_of h2 G2) ?_)) (fun σ1 hM => ?_) (s_I_w (s_I_gives hI q52 hq hai.1 hai.2 hl2 hl1 z) (Nat.le_refl _) (by omega))
          · simp only [f_X9_give, ↓zl_eq, ↓zb_eq, ↓zb2_eq, ↓zc_some, ↓zc_none, ↓zb_pre, ↓zb2_pre, ↓zc_pre, ↓zex_eq, ↓reduceIte, Option.isSome_some, Option.isSome_none, Option.getD_some, n32_lit, bt0', bf0', Bool.not_true, o8, r0, o2, F, W, W2, r1, o3, full, r2, oh, ES, o8', r0', o2', r1', o3', e9, EA]
          · obtain ⟨σ', E, M, F', t⟩ := zM_gos hM h.2.2.2.2.1
            have G := m_gs hM.1 true true true (show bi true = bi true from rfl) (show n32 1 = bi true from rfl) (show bi true = bi true from rfl)
            refine zAM_new M F' t ?_
            have sg : s_goes true true true = n32 0 := rfl
            rw [sg] at G
            have oo : z_ob (z_sA σ1 (b + 118) (gu (z_I σ1 (b + 118)) 4 (n32 0))) (b + 118) 9 = true := hM.1.1
            have mg : z_I σ' (b + 118 + 1) = g := M.2.1
            have GV := m_gives M.1 (q := s_nat g 5) (by rw [mg]; exact q52) hq (n32 (ad i)) (n32 l) z
            rw [mg] at GV
            have T := g35 σ1 hM (n32 1) (bi true) (some (b + 118))
            simp only [f_X10_give, ↓zl_eq, ↓zb_eq, ↓zb2_eq, ↓zc_some, ↓zc_none, ↓zb_pre, ↓zb2_pre, ↓zc_pre, ↓zex_eq, ↓reduceIte, Option.isSome_some, Option.isSome_none, Option.getD_some, n32_lit, i64_lit, WM, WM2, bt0', hM.1.1, FM σ1 hM, T, f_X10_give_51, G, Bool.and_self, oo, E, M.1.1, GV]
        · rw [decide_eq_false hq] at full g35
          refine zP_q h (r := 3) (v := 0) (x_give1 _ O o8 (zA9_x h.1 ?_)) (fun σ1 hM => zAM_q hM ?_)
          · simp only [f_X9_give, ↓zl_eq, ↓zb_eq, ↓zb2_eq, ↓zc_some, ↓zc_none, ↓zb_pre, ↓zb2_pre, ↓zc_pre, ↓zex_eq, ↓reduceIte, Option.isSome_some, Option.isSome_none, Option.getD_some, n32_lit, bt0', Bool.not_false, o8, r0, o2, F, W, W2, r1, o3, full]
          · have T := g35 σ1 hM (n32 1) (bi true) (some (b + 118))
            have T2 := g51 σ1 hM true true false rfl
            have T3 : f_X10_give_51 σ1 (b + 118) (n32 (ad i)) y z (bi false) (n32 1) (bi true) (some (b + 118)) = _ := T2
            simp only [f_X10_give, ↓zl_eq, ↓zb_eq, ↓zb2_eq, ↓zc_some, ↓zc_none, ↓zb_pre, ↓zb2_pre, ↓zc_pre, ↓zex_eq, ↓reduceIte, Option.isSome_some, Option.isSome_none, Option.getD_some, n32_lit, i64_lit, WM, WM2, bt0', hM.1.1, FM σ1 hM, T, T3]
            rfl
      · have W2 := fun σ => c_win0 σ (by omega) (by omega) hz
        have WM2 := fun σ => m_win0 σ (by omega) (by omega) hz
        refine zP_q h (r := 2) (v := 0) (x_give0 _ O o8 (zA9_x h.1 ?_)) (fun σ1 hM => zAM_q hM ?_)
        · simp only [f_X9_give, f_X9_give_45, ↓zl_eq, ↓zb_eq, ↓zb2_eq, ↓zc_some, ↓zc_none, ↓zb_pre, ↓zb2_pre, ↓zc_pre, ↓zex_eq, ↓reduceIte, Option.isSome_some, Option.isSome_none, Option.getD_some, n32_lit, bt0', bf0', o8, r0, o2, F, W, W2]
        · have T := g35 σ1 hM (n32 0) (bi true) (some (b + 118))
          have T2 := g51 σ1 hM true false (decide (s_nat g 5 < 100)) rfl
          have T3 : f_X10_give_51 σ1 (b + 118) (n32 (ad i)) y z (bi (decide (s_nat g 5 < 100))) (n32 0) (bi true) (some (b + 118)) = _ := T2
          simp only [f_X10_give, f_X10_give_34, ↓zl_eq, ↓zb_eq, ↓zb2_eq, ↓zc_some, ↓zc_none, ↓zb_pre, ↓zb2_pre, ↓zc_pre, ↓zex_eq, ↓reduceIte, Option.isSome_some, Option.isSome_none, Option.getD_some, n32_lit, i64_lit, WM, WM2, bt0', bf0', hM.1.1, FM σ1 hM, T, T3]
          rfl
    · have W := fun σ => c_win0 σ (by omega) (by omega) hy
      have WM := fun σ => m_win0 σ (by omega) (by omega) hy
      refine zP_q h (r := 2) (v := 0) (x_give0 _ O o8 (zA9_x h.1 ?_)) (fun σ1 hM => zAM_q hM ?_)
      · simp only [f_X9_give, f_X9_give_45, ↓zl_eq, ↓zb_eq, ↓zb2_eq, ↓zc_some, ↓zc_none, ↓zb_pre, ↓zb2_pre, ↓zc_pre, ↓zex_eq, ↓reduceIte, Option.isSome_some, Option.isSome_none, Option.getD_some, n32_lit, bf0', o8, r0, o2, F, W]
      · have T := g35 σ1 hM (n32 0) (bi true) (some (b + 118))
        have T2 := g51 σ1 hM true false (decide (s_nat g 5 < 100)) rfl
        have T3 : f_X10_give_51 σ1 (b + 118) (n32 (ad i)) y z (bi (decide (s_nat g 5 < 100))) (n32 0) (bi true) (some (b + 118)) = _ := T2
        simp only [f_X10_give, f_X10_give_34, ↓zl_eq, ↓zb_eq, ↓zb2_eq, ↓zc_some, ↓zc_none, ↓zb_pre, ↓zb2_pre, ↓zc_pre, ↓zex_eq, ↓reduceIte, Option.isSome_some, Option.isSome_none, Option.getD_some, n32_lit, i64_lit, WM, bt0', bf0', hM.1.1, FM σ1 hM, T, T3]
        rfl
  · refine zP_q h (r := 1) (v := 0) (x_give3 _ O o8 (zA9_x h.1 ?_)) (fun σ1 hM => zAM_q hM ?_)
    · simp only [f_X9_give, ↓zl_eq, ↓zb_eq, ↓zb2_eq, ↓zc_some, ↓zc_none, ↓zb_pre, ↓zb2_pre, ↓zc_pre, ↓zex_eq, ↓reduceIte, Option.isSome_some, Option.isSome_none, Option.getD_some, o8, r0, o2, F, Bool.false_eq_true]
    · have fin : ∀ c : Bool, f_X10_give_35 σ1 (b + 118) x y z (bi c) (bi false) (some (b + 118)) = some (n32 0, z_sA σ1 (b + 118) (gu (z_I σ1 (b + 118)) 4 (n32 1))) := fun c => by
        rw [g35 σ1 hM, g51 σ1 hM false c _ (by rw [Bool.false_and, Bool.false_and])]; rfl
      have i1 := m_inN σ1 y (lo := 1) (hi := 20) (by omega) (by omega)
      have i2 := m_inN σ1 z (lo := 0) (hi := 9) (by omega) (by omega)
      have f1 : f_X10_give_35 σ1 (b + 118) x y z (n32 1) (bi false) (some (b + 118)) = _ := fin true
      have f0 : f_X10_give_35 σ1 (b + 118) x y z (n32 0) (bi false) (some (b + 118)) = _ := fin false
      simp only [f_X10_give, f_X10_give_34, ↓zl_eq, ↓zb_eq, ↓zb2_eq, ↓zc_some, ↓zc_none, ↓zb_pre, ↓zb2_pre, ↓zc_pre, ↓zex_eq, ↓reduceIte, Option.isSome_some, Option.isSome_none, Option.getD_some, n32_lit, i64_lit, i1, i2, hM.1.1, FM σ1 hM, f1, f0, ite_self]
end TOP
end
section
/-! MANY VISITS -/
def s_it (g : zG) : Nat → zG
  | 0 => g
  | j + 1 => s_visits (s_it g j)
section TOP
variable {σ : zSt} {b k tl : Nat} {g : zG} {gs : Nat → zG} {tx : Nat → Int32} {B V : Nat}
theorem c_visit1 {a : Nat} (hl : zLn σ a g) (hI : s_I g B V) (hB : B ≤ 1800000000) (hV : V < 1900000000) : ∃ σ', f_X8_makeVisit σ a = some σ' ∧ zFr a σ σ' ∧ zLn σ' a (s_visits g) ∧ s_vok g ∧ s_I (s_visits g) (B + 4200) (V + 1) ∧ s_visits g 5 = g 5 := by
  obtain ⟨pl, ad, qu, n, h1, h2, h3, h4⟩ := hl
  obtain ⟨σ', qu', E, F, R, G, vok, I, S⟩ := c_makeVisit h1 h2 h3 h4 hI.1 hB hV
  exact ⟨σ', E, F, ⟨pl, ad, qu', n, zLs_fr F h1, zPl_fr F h2, R, G⟩, vok, s_I_visits hI hB I S, (s_visits_kp hI.1 hB S hI.2.1 hI.2.2.2).2.2.1⟩
/-- the states of the class through m visits -/
theorem c_chain {a : Nat} (hl : zLn σ a g) (hI : s_I g B V) : ∀ m, B + 4200 * m ≤ 1800000000 → V + m < 1900000000 → ∃ st : Nat → zSt, st 0 = σ ∧ ∀ j, j ≤ m → zFr a σ (st j) ∧ zLn (st j) a (s_it g j) ∧ s_I (s_it g j) (B + 4200 * j) (V + j) ∧ s_it g j 5 = g 5 ∧ (j < m → f_X8_makeVisit (st j) a = some (st (j + 1)) ∧ s_vok (s_it g j)) := by
  intro m
  induction m with
  | zero =>
    intro _ _
    refine ⟨fun _ => σ, rfl, fun j hj => ?_⟩
    have : j = 0 := by omega
    subst this
    exact ⟨zFr_r a σ, hl, hI, rfl, fun h => by omega⟩
  | succ m ih =>
    intro hB hV
    obtain ⟨st, s0, H⟩ := ih (by omega) (by omega)
    obtain ⟨F, L, I, e5, _⟩ := H m (Nat.le_refl _)
    obtain ⟨σ', E, F', L', vok, I', e5'⟩ := c_visit1 L I (by omega) (by omega)
    have hB2 : B + 4200 * m + 4200 ≤ B + 4200 * (m + 1) := by rw [Nat.mul_succ, Nat.add_assoc]; exact Nat.le_refl _
    have hV2 : V + m + 1 ≤ V + (m + 1) := Nat.le_refl _
    have I2 : s_I (s_it g (m + 1)) (B + 4200 * (m + 1)) (V + (m + 1)) := s_I_w I' hB2 hV2
    refine ⟨fun i => if i = m + 1 then σ' else st i, by show (if 0 = m + 1 then σ' else st 0) = σ; rw [if_neg (by omega)]; exact s0, fun j hj => ?_⟩
    by_cases hjm : j = m + 1
    · subst hjm
      show zFr a σ (if m + 1 = m + 1 then σ' else _) ∧ zLn (if m + 1 = m + 1 then σ' else _) a _ ∧ _
      rw [if_pos rfl]
      exact ⟨zFr_t F F', L', I2, e5'.trans e5, fun h => absurd h (Nat.lt_irrefl _)⟩
    · have Hj := H j (by omega)
      show zFr a σ (if j = m + 1 then σ' else st j) ∧ zLn (if j = m + 1 then σ' else st j) a _ ∧ _ ∧ _ ∧ (_ → f_X8_makeVisit (if j = m + 1 then σ' else st j) a = some (if j + 1 = m + 1 then σ' else st (j + 1)) ∧ _)
      rw [if_neg hjm]
      refine ⟨Hj.1, Hj.2.1, Hj.2.2.1, Hj.2.2.2.1, fun _ => ?_⟩
      by_cases hjm2 : j = m
      · subst hjm2
        rw [if_pos rfl]
        exact ⟨E, vok⟩
      · rw [if_neg (by omega)]
        exact Hj.2.2.2.2 (by omega)
/-- and of the reference -/
theorem m_chain {M : Nat} (hM : zMs σ M) {m : Nat} (hv : ∀ j, j < m → s_vok (s_it g j)) {j : Nat} (hj : j < m) : f_X10_visits (z_sA σ (M + 1) (s_it g j)) M = some (z_sA σ (M + 1) (s_it g (j + 1))) := by
  have := m_visits (zMs_sA hM (M + 1) (s_it g j)) (by rw [z_I_sA]; exact hv j hj)
  rw [z_I_sA, z_sA_sA] at this
  exact this
theorem c_late {a n : Nat} {pl ad : Nat → Nat} {qu : Nat → Nat → Nat} (h : zC0 σ a pl ad qu n g) (h3 : g 3 = n32 (s_nat g 3)) (hb : s_nat g 3 < 2147483648) : f_X2_isTooLate σ a = some (bi (!decide (s_nat g 3 ≤ 900000))) := by
  have o1 := h.1.1
  have e9 := (c_L h).2.2.2.2.1
  rw [h3] at e9
  simp (disch := omega) only [f_X2_isTooLate, f_X2_isTooLate_14, ↓zl_eq, ↓zb_eq, ↓zb2_eq, ↓zc_some, ↓zc_none, ↓zb_pre, ↓zb2_pre, ↓zc_pre, ↓zex_eq, ↓reduceIte, Option.isSome_some, Option.isSome_none, Option.getD_some, n32_lit, o1, e9, n32_le, bl0, bl1]
  by_cases hc : s_nat g 3 ≤ 900000
  · rw [if_pos hc, decide_eq_true hc]; rfl
  · rw [if_neg hc, decide_eq_false hc]; rfl
theorem s_I_3 (H : s_I g B V) : g 3 = n32 (s_nat g 3) ∧ s_nat g 3 ≤ B := ⟨H.1.1.2.2.2.2.1.1, H.1.2.2.2.1⟩
theorem s_I_low (H : s_I g B V) {B' : Nat} (h : s_nat g 3 ≤ B') : s_I g B' V := by
  obtain ⟨⟨a, b, c, d, e⟩, r⟩ := H
  exact ⟨⟨a, b, c, h, e⟩, r⟩
theorem p_run (h : zW σ b g k gs tl tx B V) (hB : B = 1740000) (hV : V ≤ 1000000) (x : Int32) : zP σ b g k gs tl tx B V (f_L_run σ b x (b + 123)) (fun σ1 => f_X10_run σ1 (b + 118) x) := by
  have hI := h.2.2.1
  have O := h.2.2.2.2.2.2.2
  obtain ⟨o8, r0, o2, pl, ad, qu, n, hs, hG⟩ := zC_open h.1 hI
  have h0 := zC0_of hs
  obtain ⟨t3, tB⟩ := s_I_3 hI
  have late := c_late h0 t3 (by omega)
  have r26 : ∀ σ1, zM σ1 b g k gs tl tx → ∀ c : Bool, f_X10_in σ1 x.toInt64 (Int64.ofNat 0) (Int64.ofNat 200) = some (bi c) → f_X10_run σ1 (b + 118) x = f_X10_run_26 σ1 (b + 118) x (bi (decide (s_nat g 3 ≤ 900000))) (bi c) (some (b + 118)) := by
    intro σ1 hM c hc
    have e1 : z_I σ1 (b + 118 + 1) 3 = n32 (s_nat g 3) := by have := hM.2.1; rw [show z_I σ1 (b + 118 + 1) = g from this]; exact t3
    have t1 := hM.1
    simp (disch := omega) only [f_X10_run, ↓zl_eq, ↓zb_eq, ↓zb2_eq, ↓zc_some, ↓zc_none, ↓zb_pre, ↓zb2_pre, ↓zc_pre, ↓zex_eq, ↓reduceIte, Option.isSome_some, Option.isSome_none, Option.getD_some, n32_lit, i64_lit, hc, t1.1, t1.2.1, t1.2.2.2.2.2.1, t1.2.2.2.2.2.2.2.2.2.1, n32_ix, n32_toNat, e1, n32_lt]
    by_cases hc : s_nat g 3 ≤ 900000
    · rw [if_neg (by omega), decide_eq_true hc]; rfl
    · rw [if_pos (by omega), decide_eq_false hc]; rfl
  by_cases hx : ((0 : Nat) : Int) ≤ x.toInt ∧ x.toInt ≤ ((200 : Nat) : Int)
  · have W := fun σ => c_win1 σ (by omega) (by omega) hx
    have WM := fun σ => m_win1 σ (by omega) (by omega) hx
    by_cases ht : s_nat g 3 ≤ 900000
    · rw [decide_eq_true ht] at late r26
      obtain ⟨m, hm, rfl⟩ := n32_of2 (x := x) (k := 200) (by omega) (by omega) (by omega)
      obtain ⟨σ1, ES, C1, n1, s1, E1, E2⟩ := zC_save h.1 (s_I_num hI)
      obtain ⟨r2, oh⟩ := zC_hs h.1
      have hI2 := s_I_low hI ht
      obtain ⟨st, st0, H⟩ := c_chain C1.2.1 hI2 m (by omega) (by omega)
      have o8' : z_ob σ1 b 8 = true := by rw [z_ob_eq s1]; exact o8
      have o2' : z_ob σ1 (b + 1) 2 = true := by rw [z_ob_eq s1]; exact o2
      have r0' : z_R σ1 b 0 = some (b + 1) := C1.1.2.1
      obtain ⟨Fm, Lm, Im, _⟩ := H m (Nat.le_refl _)
      have tm : z_I (st m) (b + 1) 9 = s_it g m 3 := by obtain ⟨pl', ad', qu', n', a1, a2, a3, a4⟩ := Lm; exact a3.1.2.2.2.2.1
      have LP : f_X9_run_54 b (n32 m) σ1 (n32 0) = some (.inr (s_it g m 3), st m) := by
        unfold f_X9_run_54
        have e0 : (σ1, n32 0) = ((fun j => (st j, n32 j)) 0 : zSt × Int32) := by rw [← st0]
        rw [e0]
        refine zloop_go (N := zN) (fun j => (st j, n32 j)) _ m (fun j hj => ?_) ?_ (by unfold zN; omega)
        · show b_X9_run_54 b (n32 m) (st j) (n32 j) = some (.inl (st (j + 1), n32 (j + 1)))
          obtain ⟨Fj, Lj, Ij, _, Vj⟩ := H j (by omega)
          have eo : z_ob (st j) = z_ob σ1 := z_ob_eq Fj.2.1
          have eR : z_R (st j) = z_R σ1 := Fj.2.2.1
          simp (disch := omega) only [b_X9_run_54, ↓zl_eq, ↓zb_eq, ↓zb2_eq, ↓zc_some, ↓zc_none, ↓zb_pre, ↓zb2_pre, ↓zc_pre, ↓zex_eq, ↓reduceIte, Option.isSome_some, Option.isSome_none, Option.getD_some, n32_lit, n32_le, eo, eR, o8', r0', (Vj hj).1, n32_add]
          rw [if_neg (by omega)]
        · show b_X9_run_54 b (n32 m) (st m) (n32 m) = _
          have eo : z_ob (st m) = z_ob σ1 := z_ob_eq Fm.2.1
          have eR : z_R (st m) = z_R σ1 := Fm.2.2.1
          simp (disch := omega) only [b_X9_run_54, ↓zl_eq, ↓zb_eq, ↓zb2_eq, ↓zc_some, ↓zc_none, ↓zb_pre, ↓zb2_pre, ↓zc_pre, ↓zex_eq, ↓reduceIte, Option.isSome_some, Option.isSome_none, Option.getD_some, n32_le, Nat.le_refl, eo, eR, o8', r0', o2', tm]
      refine zP_s h (v := s_it g m 3) (g' := s_it g m) (w_run O o8 (zA9_line (σ2 := st m) C1 n1 E2 (zFw_of Fm) Lm ?_)) (fun σ1 hM => ?_) (s_I_w Im (by omega) (by omega))
      · simp only [f_X9_run, ↓zl_eq, ↓zb_eq, ↓zb2_eq, ↓zc_some, ↓zc_none, ↓zb_pre, ↓zb2_pre, ↓zc_pre, ↓zex_eq, ↓reduceIte, Option.isSome_some, Option.isSome_none, Option.getD_some, n32_lit, W, bt0', bf0', Bool.not_true, o8, r0, o2, late, r2, oh, ES, LP]
      · obtain ⟨σ', E, M, F', t⟩ := zM_gos hM h.2.2.2.2.1
        have G := m_gs hM.1 true true true (show bi true = bi true from rfl) (show bi true = bi true from rfl) (show n32 1 = bi true from rfl)
        refine zAM_new M F' t ?_
        have sg : s_goes true true true = n32 0 := rfl
        rw [sg] at G
        have oo : z_ob (z_sA σ1 (b + 118) (gu (z_I σ1 (b + 118)) 4 (n32 0))) (b + 118) 9 = true := hM.1.1
        have mg : z_I σ' (b + 118 + 1) = g := M.2.1
        have hv : ∀ j, j < m → s_vok (s_it g j) := fun j hj => ((H j (by omega)).2.2.2.2 hj).2
        have LM : f_X10_run_41 (b + 118) (n32 m) σ' (n32 0) = some (s_it g m 3, z_sA σ' (b + 119) (s_it g m)) := by
          unfold f_X10_run_41
          have e0 : (σ', n32 0) = ((fun j => (z_sA σ' (b + 118 + 1) (s_it g j), n32 j)) 0 : zSt × Int32) := by
            have : z_sA σ' (b + 118 + 1) (s_it g 0) = σ' := by
              show z_sA σ' (b + 118 + 1) g = σ'
              rw [← mg, z_sA_id]
            simp only [this]
          rw [e0]
          refine zloop_go (N := zN) (fun j => (z_sA σ' (b + 118 + 1) (s_it g j), n32 j)) _ m (fun j hj => ?_) ?_ (by unfold zN; omega)
          · show b_X10_run_41 (b + 118) (n32 m) (z_sA σ' (b + 118 + 1) (s_it g j)) (n32 j) = some (.inl (z_sA σ' (b + 118 + 1) (s_it g (j + 1)), n32 (j + 1)))
            have C := m_chain (σ := σ') (g := g) M.1 hv hj
            simp (disch := omega) only [b_X10_run_41, ↓zl_eq, ↓zb_eq, ↓zb2_eq, ↓zc_some, ↓zc_none, ↓zb_pre, ↓zb2_pre, ↓zc_pre, ↓zex_eq, ↓reduceIte, Option.isSome_some, Option.isSome_none, Option.getD_some, n32_lit, n32_le, z_ob_sA, M.1.1, C, n32_add]
            rw [if_neg (by omega)]
          · show b_X10_run_41 (b + 118) (n32 m) (z_sA σ' (b + 118 + 1) (s_it g m)) (n32 m) = _
            have m1 := M.1
            simp (disch := omega) only [b_X10_run_41, ↓zl_eq, ↓zb_eq, ↓zb2_eq, ↓zc_some, ↓zc_none, ↓zb_pre, ↓zb2_pre, ↓zc_pre, ↓zex_eq, ↓reduceIte, Option.isSome_some, Option.isSome_none, Option.getD_some, n32_lit, n32_le, Nat.le_refl, z_ob_sA, z_R_sA, z_ar_sA, z_ln_sA, m1.1, m1.2.1, m1.2.2.2.2.2.1, m1.2.2.2.2.2.2.2.2.2.1, n32_ix, n32_toNat, z_I_sA]
        show f_X10_run σ1 (b + 118) (n32 m) = _
        rw [r26 σ1 hM true (WM σ1)]
        simp only [f_X10_run_26, ↓zl_eq, ↓zb_eq, ↓zb2_eq, ↓zc_some, ↓zc_none, ↓zb_pre, ↓zb2_pre, ↓zc_pre, ↓zex_eq, ↓reduceIte, Option.isSome_some, Option.isSome_none, Option.getD_some, n32_lit, hM.1.1, G, Bool.and_self, bt0', oo, E, LM]
    · rw [decide_eq_false ht] at late r26
      refine zP_q h (r := 2) (v := 0) (x_run1 _ O o8 (zA9_x h.1 ?_)) (fun σ1 hM => zAM_q hM ?_)
      · simp only [f_X9_run, ↓zl_eq, ↓zb_eq, ↓zb2_eq, ↓zc_some, ↓zc_none, ↓zb_pre, ↓zb2_pre, ↓zc_pre, ↓zex_eq, ↓reduceIte, Option.isSome_some, Option.isSome_none, Option.getD_some, n32_lit, W, bt0', Bool.not_false, o8, r0, o2, late]
      · have G := m_gs hM.1 true false true (show bi true = bi true from rfl) (show bi false = bi false from rfl) (show n32 1 = bi true from rfl)
        show f_X10_run σ1 (b + 118) x = _
        rw [r26 σ1 hM true (WM σ1)]
        simp only [f_X10_run_26, ↓zl_eq, ↓zb_eq, ↓zb2_eq, ↓zc_some, ↓zc_none, ↓zb_pre, ↓zb2_pre, ↓zc_pre, ↓zex_eq, ↓reduceIte, Option.isSome_some, Option.isSome_none, Option.getD_some, n32_lit, hM.1.1, G, Bool.and_false, Bool.false_and, bf0']
        rfl
  · have W := fun σ => c_win0 σ (by omega) (by omega) hx
    have WM := fun σ => m_win0 σ (by omega) (by omega) hx
    refine zP_q h (r := 1) (v := 0) (x_run0 _ O o8 (zA9_x h.1 ?_)) (fun σ1 hM => zAM_q hM ?_)
    · simp only [f_X9_run, ↓zl_eq, ↓zb_eq, ↓zb2_eq, ↓zc_some, ↓zc_none, ↓zb_pre, ↓zb2_pre, ↓zc_pre, ↓zex_eq, ↓reduceIte, Option.isSome_some, Option.isSome_none, Option.getD_some, n32_lit, W, bf0']
    · have G := m_gs hM.1 false (decide (s_nat g 3 ≤ 900000)) true (show bi false = bi false from rfl) rfl (show n32 1 = bi true from rfl)
      show f_X10_run σ1 (b + 118) x = _
      rw [r26 σ1 hM false (WM σ1)]
      simp only [f_X10_run_26, ↓zl_eq, ↓zb_eq, ↓zb2_eq, ↓zc_some, ↓zc_none, ↓zb_pre, ↓zb2_pre, ↓zc_pre, ↓zex_eq, ↓reduceIte, Option.isSome_some, Option.isSome_none, Option.getD_some, n32_lit, hM.1.1, G, Bool.false_and, bf0']
      rfl
end TOP
end
section
/-! WHAT IF -/
/-- the first place with P, of n from j on, or the last -/
def s_fst (P : Nat → Bool) : Nat → Nat → Nat
  | 0, j => j
  | n + 1, j => if P j = true then j else s_fst P n (j + 1)
theorem s_fst_p (P : Nat → Bool) : ∀ n j, j ≤ s_fst P n j ∧ s_fst P n j ≤ j + n ∧ (s_fst P n j = j + n ∨ P (s_fst P n j) = true) ∧ ∀ i, j ≤ i → i < s_fst P n j → P i = false
  | 0, j => ⟨Nat.le_refl _, Nat.le_refl _, Or.inl rfl, fun i h1 h2 => by have h3 : i < j := h2; omega⟩
  | n + 1, j => by
    obtain ⟨h1, h2, h3, h4⟩ := s_fst_p P n (j + 1)
    unfold s_fst
    by_cases hp : P j = true
    · rw [if_pos hp]
      exact ⟨Nat.le_refl _, by omega, Or.inr hp, fun i a b => by omega⟩
    · rw [if_neg hp]
      refine ⟨by omega, by omega, ?_, fun i a b => ?_⟩
      · rcases h3 with h3 | h3
        · exact Or.inl (by omega)
        · exact Or.inr h3
      · by_cases hij : i = j
        · rw [hij]; simpa using hp
        · exact h4 i (by omega) b
theorem s_eq_r (g : zG) : s_eq g g := fun _ _ => rfl
theorem s_eq_s {g g' : zG} (h : s_eq g g') : s_eq g' g := fun j hj => (h j hj).symm
theorem s_eq_t {g g' g'' : zG} (h : s_eq g g') (h2 : s_eq g' g'') : s_eq g g'' := fun j hj => (h2 j hj).trans (h j hj)
theorem s_eq_gu {g g' : zG} (h : s_eq g g') (k : Nat) (v : Int32) : s_eq (gu g k v) (gu g' k v) := fun j hj => by
  unfold gu
  split
  · rfl
  · exact h j hj
theorem s_cp_cp (f A X : zG) : s_cp (s_cp f A 942) X 942 = s_cp f X 942 := by
  funext j
  unfold s_cp
  by_cases h : j < 942
  · rw [if_pos h, if_pos h, if_pos h]
  · rw [if_neg h, if_neg h]
theorem s_cp_s (g f A : zG) (h : s_eq g f) (X : zG) : s_cp f X 942 = s_cp g X 942 := by
  funext j
  unfold s_cp
  by_cases hj : j < 942
  · rw [if_pos hj, if_pos hj, h j hj]
  · rw [if_neg hj, if_neg hj]
section TOP
variable {σ : zSt} {b k tl : Nat} {g g' : zG} {gs : Nat → zG} {tx : Nat → Int32} {B V : Nat}
theorem s_I_eq (h : s_eq g g') (H : s_I g B V) : s_I g' B V := by
  have q5 := (s_I_5 H).1
  refine s_I_mk H (h 3 (by decide)) (h 5 (by decide)) (by rw [h 6 (by decide)]; exact s_I_6 H) (by rw [h 2 (by decide)]; exact s_I_2 H) (by rw [h 1 (by decide)]; exact s_I_1 H) (h 7 (by decide)) (h 9 (by decide)) (h 10 (by decide)) (fun m w hm hw => h _ (by omega)) (s_sta_congr (fun j _ _ => h j (by omega)) (s_I_sta H)) (s_hol_eq h (s_I_hol H)) ?_ (fun x hx h0 => by rw [h _ (by omega)]; exact h0)
  rcases s_I_hon H with h4 | ⟨x, hx, h4, hz⟩
  · exact Or.inl (by rw [h 4 (by decide)]; exact h4)
  · exact Or.inr ⟨x, hx, by rw [h 4 (by decide)]; exact h4, by rw [h _ (by omega)]; exact hz⟩
theorem zC_eq (h : s_eq g g') (hN : s_num g) (H : zC σ b g k gs tl tx) : zC σ b g' k gs tl tx := by
  obtain ⟨t, hl, hb, hs, h4, ht⟩ := H
  exact ⟨t, zLn_eq h hN hl, hb, hs, h4, ht⟩
/-- the class: a line for trials is made one with the line -/
theorem zC_copy (h : zC σ b g k gs tl tx) (hN : s_num g) : ∃ σ1, f_X2_copyFrom σ (b + 20) (b + 1) = some σ1 ∧ zFr (b + 20) σ σ1 ∧ zLn σ1 (b + 20) g ∧ zC σ1 b g k gs tl tx := by
  obtain ⟨σ1, E, F, L⟩ := zLn_copy h.2.2.1 h.2.1 (by omega) hN
  exact ⟨σ1, E, F, L, zC_trial (zFw_of F) (zLn_bl L) h⟩
theorem zA9_trial {σ2 : zSt} (h : zC σ b g k gs tl tx) (F : zFr (b + 20) σ σ2) (L : zBl σ2 (b + 20)) (he : s_eq g g') (hN : s_num g) {out : Option ((Nat ⊕ Int32) × zSt)} {r : Nat ⊕ Int32} (E : out = some (r, σ2)) : zA9 σ b out r g' k gs tl tx :=
  ⟨σ2, E, zC_eq he hN (zC_trial (zFw_of F) L h), zEq_fw (zFw_of F) (by omega), by rw [F.1]; exact Nat.le_refl _⟩
/-- the reference lays its array aside -/
theorem zM_lays (h : zM σ b g k gs tl tx) : ∃ A, f_X10_lays σ (b + 118) = some (z_sA σ (b + 121) (s_cp g A 942)) ∧ zM (z_sA σ (b + 121) (s_cp g A 942)) b g k gs tl tx ∧ zFM b σ (z_sA σ (b + 121) (s_cp g A 942)) ∧ z_I (z_sA σ (b + 121) (s_cp g A 942)) (b + 118) = z_I σ (b + 118) := by
  obtain ⟨hM, h1, h2, h3, h4, h5⟩ := h
  have E := m_lays hM
  have f1 : b + 118 + 1 = b + 119 := rfl
  have f3 : b + 118 + 3 = b + 121 := rfl
  rw [f1, f3, h1] at E
  refine ⟨z_I σ (b + 121), E, ⟨hM, ?_, ?_, fun i j hi hj => ?_, ?_, fun j hj => ?_⟩, zFM_sA _ (by omega) (by omega) _, z_I_sAn _ _ _ (by omega)⟩
  · rw [z_I_sAn _ _ _ (by omega)]; exact h1
  · rw [z_I_sAn _ _ _ (by omega)]; exact h2
  · rw [z_I_sAn _ _ _ (by omega)]; exact h3 i j hi hj
  · rw [z_I_sAn _ _ _ (by omega)]; exact h4
  · rw [z_I_sAn _ _ _ (by omega)]; exact h5 j hj
/-- and takes it back -/
theorem m_back (hM : zMs σ (b + 118)) {A f X : zG} (h3 : z_I σ (b + 121) = s_cp f A 942) : f_X10_takesBack (z_sA σ (b + 118 + 1) X) (b + 118) = some (z_sA σ (b + 119) (s_cp f X 942)) := by
  have E := m_takesBack (zMs_sA hM (b + 118 + 1) X)
  have f1 : b + 118 + 1 = b + 119 := rfl
  have f3 : b + 118 + 3 = b + 121 := rfl
  rw [f1] at E ⊢
  rw [f3, z_I_sA, z_sA_sA, z_I_sAn _ _ _ (by omega), h3, s_cp_cp] at E
  exact E
theorem p_completeAfter (h : zW σ b g k gs tl tx B V) (hB : B = 1740000) (hV : V ≤ 1000000) : zP σ b g k gs tl tx B V (f_L_completeAfter σ b (b + 123)) (fun σ1 => f_X10_completeAfter σ1 (b + 118)) := by
  have hI := h.2.2.1
  have O := h.2.2.2.2.2.2.2
  obtain ⟨o8, r0, o2, pl, ad, qu, n, hs, hG⟩ := zC_open h.1 hI
  have h0 := zC0_of hs
  obtain ⟨t3, tB⟩ := s_I_3 hI
  have late := c_late h0 t3 (by omega)
  have r17 : ∀ σ1, zM σ1 b g k gs tl tx → f_X10_completeAfter σ1 (b + 118) = f_X10_completeAfter_17 σ1 (b + 118) (bi (decide (s_nat g 3 ≤ 900000))) (some (b + 118)) := by
    intro σ1 hM
    have e1 : z_I σ1 (b + 118 + 1) 3 = n32 (s_nat g 3) := by have := hM.2.1; rw [show z_I σ1 (b + 118 + 1) = g from this]; exact t3
    have t1 := hM.1
    simp (disch := omega) only [f_X10_completeAfter, ↓zl_eq, ↓zb_eq, ↓zb2_eq, ↓zc_some, ↓zc_none, ↓zb_pre, ↓zb2_pre, ↓zc_pre, ↓zex_eq, ↓reduceIte, Option.isSome_some, Option.isSome_none, Option.getD_some, n32_lit, t1.1, t1.2.1, t1.2.2.2.2.2.1, t1.2.2.2.2.2.2.2.2.2.1, n32_ix, n32_toNat, e1, n32_lt]
    by_cases hc : s_nat g 3 ≤ 900000
    · rw [if_neg (by omega), decide_eq_true hc]; rfl
    · rw [if_pos (by omega), decide_eq_false hc]; rfl
  by_cases ht : s_nat g 3 ≤ 900000
  · rw [decide_eq_true ht] at late r17
    have rt : z_R σ b 1 = some (b + 20) := h.1.1.2.2.1
    have ot : z_ob σ (b + 20) 2 = true := h.1.2.2.1.1.1
    obtain ⟨σ1, EC, F1, L1, C1⟩ := zC_copy h.1 (s_I_num hI)
    obtain ⟨st, st0, H⟩ := c_chain L1 (s_I_low hI ht) 300 (by omega) (by omega)
    obtain ⟨J1, J2, J3, J4⟩ := s_fst_p (fun j => s_compl (s_it g j) 32) 300 0
    generalize s_fst (fun j => s_compl (s_it g j) 32) 300 0 = J at J1 J2 J3 J4
    have cmp : ∀ j, j ≤ 300 → f_X2_isComplete (st j) (b + 20) = some (bi (s_compl (s_it g j) 32)) := fun j hj => by
      obtain ⟨_, ⟨pl', ad', qu', n', a1, a2, a3, a4⟩, Ij, _, _⟩ := H j hj
      exact c_isComplete ⟨a1, a2, a3, s_I_6 Ij, s_I_sta Ij⟩
    have sh : ∀ j, j ≤ 300 → z_ob (st j) b 8 = true ∧ z_R (st j) b 1 = some (b + 20) ∧ z_ob (st j) (b + 20) 2 = true := fun j hj => by
      have F := zFr_t F1 (H j hj).1
      exact ⟨by rw [z_ob_eq F.2.1]; exact o8, by rw [F.2.2.1]; exact rt, by rw [z_ob_eq F.2.1]; exact ot⟩
    have FJ := zFr_t F1 (H J (by omega)).1
    have LP : f_X9_completeAfter_33 b σ1 (n32 0) = some (.inr (if s_compl (s_it g J) 32 = true then n32 J else nn), st J) := by
      unfold f_X9_completeAfter_33
      have e0 : (σ1, n32 0) = ((fun j => (st j, n32 j)) 0 : zSt × Int32) := by rw [← st0]
      rw [e0]
      refine zloop_go (N := zN) (fun j => (st j, n32 j)) _ J (fun j hj => ?_) ?_ (by unfold zN; omega)
      · show b_X9_completeAfter_33 b (st j) (n32 j) = some (.inl (st (j + 1), n32 (j + 1)))
        obtain ⟨s1, s2, s3⟩ := sh j (by omega)
        have cj := cmp j (by omega)
        rw [J4 j (by omega) hj] at cj
        simp (disch := omega) only [b_X9_completeAfter_33, ↓zl_eq, ↓zb_eq, ↓zb2_eq, ↓zc_some, ↓zc_none, ↓zb_pre, ↓zb2_pre, ↓zc_pre, ↓zex_eq, ↓reduceIte, Option.isSome_some, Option.isSome_none, Option.getD_some, n32_lit, n32_le, s1, s2, s3, cj, bf0', ((H j (by omega)).2.2.2.2 (by omega)).1, n32_add]
        rw [if_neg (by omega)]
      · show b_X9_completeAfter_33 b (st J) (n32 J) = _
        obtain ⟨s1, s2, s3⟩ := sh J (by omega)
        have cj := cmp J (by omega)
        by_cases h3 : J = 300
        · subst h3
          cases hc : s_compl (s_it g 300) 32 with
          | true =>
            rw [hc] at cj
            simp (disch := omega) only [b_X9_completeAfter_33, f_X9_completeAfter_82, ↓zl_eq, ↓zb_eq, ↓zb2_eq, ↓zc_some, ↓zc_none, ↓zb_pre, ↓zb2_pre, ↓zc_pre, ↓zex_eq, ↓reduceIte, Option.isSome_some, Option.isSome_none, Option.getD_some, n32_lit, n32_le, Nat.le_refl, s1, s2, s3, cj, bt0']
          | false =>
            rw [hc] at cj
            simp (disch := omega) only [b_X9_completeAfter_33, f_X9_completeAfter_82, ↓zl_eq, ↓zb_eq, ↓zb2_eq, ↓zc_some, ↓zc_none, ↓zb_pre, ↓zb2_pre, ↓zc_pre, ↓zex_eq, ↓reduceIte, Option.isSome_some, Option.isSome_none, Option.getD_some, n32_lit, n32_nn2, n32_le, Nat.le_refl, s1, s2, s3, cj, bf0', Bool.false_eq_true]
        · have hc : s_compl (s_it g J) 32 = true := by
            rcases J3 with h | h
            · omega
            · exact h
          rw [hc] at cj ⊢
          simp (disch := omega) only [b_X9_completeAfter_33, ↓zl_eq, ↓zb_eq, ↓zb2_eq, ↓zc_some, ↓zc_none, ↓zb_pre, ↓zb2_pre, ↓zc_pre, ↓zex_eq, ↓reduceIte, Option.isSome_some, Option.isSome_none, Option.getD_some, n32_lit, n32_le, s1, s2, s3, cj, bt0']
          rw [if_neg (by omega)]
    have eq : s_eq g (s_cp g (s_it g J) 942) := s_cp_eq g (s_it g J)
    refine ⟨0, if s_compl (s_it g J) 32 = true then n32 J else nn, s_cp g (s_it g J) 942, k, gs, tl, tx, w_completeAfter O o8 (zA9_trial (σ2 := st J) h.1 FJ (zLn_bl (H J (by omega)).2.1) eq (s_I_num hI) ?_), fun σ1 hM => ?_, s_I_w (s_I_eq eq hI) (Nat.le_refl _) (by omega), fun i hi => s_I_w (h.2.2.2.1 i hi) (Nat.le_refl _) (by omega), h.2.2.2.2.1, h.2.2.2.2.2.1, h.2.2.2.2.2.2.1⟩
    · simp only [f_X9_completeAfter, ↓zl_eq, ↓zb_eq, ↓zb2_eq, ↓zc_some, ↓zc_none, ↓zb_pre, ↓zb2_pre, ↓zc_pre, ↓zex_eq, ↓reduceIte, Option.isSome_some, Option.isSome_none, Option.getD_some, n32_lit, bf0', Bool.not_true, o8, r0, o2, late, rt, ot, EC, LP]
    · have T := zM_thr hM (n32 0)
      obtain ⟨A, EL, ML, FL, tL⟩ := zM_lays T.1
      generalize hσ3 : z_sA (z_sA σ1 (b + 118) (gu (z_I σ1 (b + 118)) 4 (n32 0))) (b + 121) (s_cp g A 942) = σ3 at EL ML FL tL
      have a3 : z_I σ3 (b + 121) = s_cp g A 942 := by rw [← hσ3, z_I_sA]
      have mg : z_I σ3 (b + 118 + 1) = g := ML.2.1
      have hv : ∀ j, j < 300 → s_vok (s_it g j) := fun j hj => ((H j (by omega)).2.2.2.2 hj).2
      have G := m_gs hM.1 true true true (show bi true = bi true from rfl) (show n32 1 = bi true from rfl) (show n32 1 = bi true from rfl)
      have sg : s_goes true true true = n32 0 := rfl
      rw [sg] at G
      have oo : z_ob (z_sA σ1 (b + 118) (gu (z_I σ1 (b + 118)) 4 (n32 0))) (b + 118) 9 = true := hM.1.1
      have cm : ∀ j, f_X10_isComplete (z_sA σ3 (b + 118 + 1) (s_it g j)) (b + 118) = some (bi (s_compl (s_it g j) 32)) := fun j => by
        have := m_isComplete (zMs_sA ML.1 (b + 118 + 1) (s_it g j))
        rw [z_I_sA] at this
        exact this
      have LM : f_X10_completeAfter_33 (b + 118) σ3 (n32 0) = some (if s_compl (s_it g J) 32 = true then n32 J else nn, z_sA σ3 (b + 119) (s_cp g (s_it g J) 942)) := by
        unfold f_X10_completeAfter_33
        have e0 : (σ3, n32 0) = ((fun j => (z_sA σ3 (b + 118 + 1) (s_it g j), n32 j)) 0 : zSt × Int32) := by
          have : z_sA σ3 (b + 118 + 1) (s_it g 0) = σ3 := by
            show z_sA σ3 (b + 118 + 1) g = σ3
            rw [← mg, z_sA_id]
          simp only [this]
        rw [e0]
        have tb := m_back ML.1 (X := s_it g J) a3
        have f57 : f_X10_completeAfter_57 (z_sA σ3 (b + 118 + 1) (s_it g J)) (b + 118) (n32 J) = some (if s_compl (s_it g J) 32 = true then n32 J else nn, z_sA σ3 (b + 119) (s_cp g (s_it g J) 942)) := by
          have cj := cm J
          cases hc : s_compl (s_it g J) 32 with
          | true =>
            rw [hc] at cj
            simp only [f_X10_completeAfter_57, f_X10_completeAfter_69, ↓zl_eq, ↓zb_eq, ↓zb2_eq, ↓zc_some, ↓zc_none, ↓zb_pre, ↓zb2_pre, ↓zc_pre, ↓zex_eq, ↓reduceIte, Option.isSome_some, Option.isSome_none, Option.getD_some, n32_lit, z_ob_sA, ML.1.1, cj, bt0', tb]
          | false =>
            rw [hc] at cj
            simp only [f_X10_completeAfter_57, f_X10_completeAfter_69, ↓zl_eq, ↓zb_eq, ↓zb2_eq, ↓zc_some, ↓zc_none, ↓zb_pre, ↓zb2_pre, ↓zc_pre, ↓zex_eq, ↓reduceIte, Option.isSome_some, Option.isSome_none, Option.getD_some, n32_lit, n32_nn2, z_ob_sA, ML.1.1, cj, bf0', tb, Bool.false_eq_true]
        refine zloop_go (N := zN) (fun j => (z_sA σ3 (b + 118 + 1) (s_it g j), n32 j)) _ J (fun j hj => ?_) ?_ (by unfold zN; omega)
        · show b_X10_completeAfter_33 (b + 118) (z_sA σ3 (b + 118 + 1) (s_it g j)) (n32 j) = some (.inl (z_sA σ3 (b + 118 + 1) (s_it g (j + 1)), n32 (j + 1)))
          have C := m_chain (σ := σ3) (g := g) ML.1 hv (show j < 300 by omega)
          have cj := cm j
          rw [J4 j (by omega) hj] at cj
          simp (disch := omega) only [b_X10_completeAfter_33, ↓zl_eq, ↓zb_eq, ↓zb2_eq, ↓zc_some, ↓zc_none, ↓zb_pre, ↓zb2_pre, ↓zc_pre, ↓zex_eq, ↓reduceIte, Option.isSome_some, Option.isSome_none, Option.getD_some, n32_lit, n32_le, z_ob_sA, ML.1.1, cj, bf0', C, n32_add]
          rw [if_neg (by omega)]
        · show b_X10_completeAfter_33 (b + 118) (z_sA σ3 (b + 118 + 1) (s_it g J)) (n32 J) = _
          by_cases h3 : J = 300
          · subst h3
            simp (disch := omega) only [b_X10_completeAfter_33, ↓zl_eq, ↓zb_eq, ↓zb2_eq, ↓zc_some, ↓zc_none, ↓zb_pre, ↓zb2_pre, ↓zc_pre, ↓zex_eq, ↓reduceIte, Option.isSome_some, Option.isSome_none, Option.getD_some, n32_lit, n32_le, Nat.le_refl, f57]
          · have hc : s_compl (s_it g J) 32 = true := by
              rcases J3 with h | h
              · omega
              · exact h
            have cj := cm J
            rw [hc] at cj
            simp (disch := omega) only [b_X10_completeAfter_33, ↓zl_eq, ↓zb_eq, ↓zb2_eq, ↓zc_some, ↓zc_none, ↓zb_pre, ↓zb2_pre, ↓zc_pre, ↓zex_eq, ↓reduceIte, Option.isSome_some, Option.isSome_none, Option.getD_some, n32_lit, n32_le, z_ob_sA, ML.1.1, cj, bt0', f57]
            rw [if_neg (by omega)]
      have N := zM_new ML (s_cp g (s_it g J) 942)
      refine ⟨_, ?_, N.1, zFM_t T.2.1 (zFM_t FL N.2.1), by rw [N.2.2, tL]; exact T.2.2⟩
      show f_X10_completeAfter σ1 (b + 118) = _
      rw [r17 σ1 hM]
      simp only [f_X10_completeAfter_17, ↓zl_eq, ↓zb_eq, ↓zb2_eq, ↓zc_some, ↓zc_none, ↓zb_pre, ↓zb2_pre, ↓zc_pre, ↓zex_eq, ↓reduceIte, Option.isSome_some, Option.isSome_none, Option.getD_some, n32_lit, hM.1.1, G, Bool.and_self, bt0', oo, EL, LM]
  · rw [decide_eq_false ht] at late r17
    refine zP_q h (r := 1) (v := 0) (x_completeAfter1 _ O o8 (zA9_x h.1 ?_)) (fun σ1 hM => zAM_q hM ?_)
    · simp only [f_X9_completeAfter, ↓zl_eq, ↓zb_eq, ↓zb2_eq, ↓zc_some, ↓zc_none, ↓zb_pre, ↓zb2_pre, ↓zc_pre, ↓zex_eq, ↓reduceIte, Option.isSome_some, Option.isSome_none, Option.getD_some, n32_lit, bt0', Bool.not_false, o8, r0, o2, late]
    · have G := m_gs hM.1 false true true (show bi false = bi false from rfl) (show n32 1 = bi true from rfl) (show n32 1 = bi true from rfl)
      show f_X10_completeAfter σ1 (b + 118) = _
      rw [r17 σ1 hM]
      simp only [f_X10_completeAfter_17, ↓zl_eq, ↓zb_eq, ↓zb2_eq, ↓zc_some, ↓zc_none, ↓zb_pre, ↓zb2_pre, ↓zc_pre, ↓zex_eq, ↓reduceIte, Option.isSome_some, Option.isSome_none, Option.getD_some, n32_lit, hM.1.1, G, Bool.false_and, bf0']
      rfl
end TOP
end
section
section TOP
variable {σ : zSt} {b k tl : Nat} {g g' : zG} {gs : Nat → zG} {tx : Nat → Int32} {B V : Nat}
theorem p_waitOf (h : zW σ b g k gs tl tx B V) (hB : B = 1740000) (hV : V ≤ 1000000) (x : Int32) : zP σ b g k gs tl tx B V (f_L_waitOf σ b x (b + 123)) (fun σ1 => f_X10_waitOf σ1 (b + 118) x) := by
  have hI := h.2.2.1
  have O := h.2.2.2.2.2.2.2
  obtain ⟨o8, r0, o2, pl, ad, qu, n, hs, hG⟩ := zC_open h.1 hI
  have h0 := zC0_of hs
  obtain ⟨t3, tB⟩ := s_I_3 hI
  obtain ⟨q5, q52⟩ := s_I_5 hI
  have late := c_late h0 t3 (by omega)
  have r1 := hs.1.2.2.1
  have o3 := hs.1.2.2.2.2.2.2.2.2.1
  have eM : z_I σ (b + 1 + 2) 1 = n32 (s_nat g 5) := hs.2.2.1.2.2.1.1.trans q52
  have Hh := c_has hs.1 q5 eM x
  have HM := fun σ => m_winm σ (x := x) (show s_nat g 5 < 2147483648 by omega)
  have e15 : ∀ σ1, zM σ1 b g k gs tl tx → z_I σ1 (b + 118 + 1) 5 = n32 (s_nat g 5) := fun σ1 hM => by have := hM.2.1; rw [show z_I σ1 (b + 118 + 1) = g from this]; exact q52
  have e13 : ∀ σ1, zM σ1 b g k gs tl tx → z_I σ1 (b + 118 + 1) 3 = n32 (s_nat g 3) := fun σ1 hM => by have := hM.2.1; rw [show z_I σ1 (b + 118 + 1) = g from this]; exact t3
  by_cases hx : 0 ≤ x.toInt ∧ x.toInt < (s_nat g 5 : Int)
  · rw [decide_eq_true hx] at Hh
    have HM1 := fun σ => (HM σ).trans (by rw [decide_eq_true hx])
    obtain ⟨m, hm, rfl⟩ := n32_of2 (x := x) (k := s_nat g 5 - 1) hx.1 (by omega) (by omega)
    have hm2 : m < s_nat g 5 := by rw [n32_toInt (by omega)] at hx; omega
    have VL := c_value hs.1 h0.2.2.2.1.1 (m := m) (w := 4) (by omega) (by decide)
    rw [h0.2.2.2.2.1.2 m 4 hm2 (by decide)] at VL
    have VM := fun σ1 (hM : zM σ1 b g k gs tl tx) => (show f_X10_ofMessage σ1 (b + 118) (n32 m) (n32 4) = some (g (242 + 5 * m + 4)) by
      rw [m_ofM hM.1 (x := m) (w := 4) (by omega) (by decide), show z_I σ1 (b + 118 + 1) = g from hM.2.1])
    by_cases hw : g (242 + 5 * m + 4) = nn
    · by_cases ht : s_nat g 3 ≤ 900000
      · rw [decide_eq_true ht] at late
        have rt : z_R σ b 1 = some (b + 20) := h.1.1.2.2.1
        have ot : z_ob σ (b + 20) 2 = true := h.1.2.2.1.1.1
        obtain ⟨σ1, EC, F1, L1, C1⟩ := zC_copy h.1 (s_I_num hI)
        obtain ⟨st, st0, H⟩ := c_chain L1 (s_I_low hI ht) 300 (by omega) (by omega)
        obtain ⟨J1, J2, J3, J4⟩ := s_fst_p (fun j => !decide (s_it g j (242 + 5 * m + 4) = nn)) 300 0
        generalize s_fst (fun j => !decide (s_it g j (242 + 5 * m + 4) = nn)) 300 0 = J at J1 J2 J3 J4
        have J4' : ∀ j, j < J → s_it g j (242 + 5 * m + 4) = nn := fun j hj => by
          have := J4 j (by omega) hj
          simpa using this
        have J3' : J = 300 ∨ ¬ s_it g J (242 + 5 * m + 4) = nn := by
          rcases J3 with h | h
          · exact Or.inl (by omega)
          · exact Or.inr (by simpa using h)
        have val : ∀ j, j ≤ 300 → f_X3_value (st j) (b + 20 + 2) (n32 m) (n32 4) = some (s_it g j (242 + 5 * m + 4)) := fun j hj => by
          obtain ⟨_, ⟨pl', ad', qu', n', a1, a2, a3, a4⟩, Ij, e5, _⟩ := H j hj
          have n5 : s_nat (s_it g j) 5 = s_nat g 5 := by unfold s_nat; rw [e5]
          have := c_value a1 a3.2.1.1 (m := m) (w := 4) (by omega) (by decide)
          rw [a3.2.2.1.2 m 4 (by omega) (by decide)] at this
          exact this
        have sh : ∀ j, j ≤ 300 → z_ob (st j) b 8 = true ∧ z_R (st j) b 1 = some (b + 20) ∧ z_ob (st j) (b + 20) 2 = true ∧ z_R (st j) (b + 20) 1 = some (b + 20 + 2) ∧ z_ob (st j) (b + 20 + 2) 3 = true := fun j hj => by
          have F := zFr_t F1 (H j hj).1
          obtain ⟨_, ⟨pl', ad', qu', n', a1, _⟩, _⟩ := H j hj
          exact ⟨by rw [z_ob_eq F.2.1]; exact o8, by rw [F.2.2.1]; exact rt, by rw [z_ob_eq F.2.1]; exact ot, a1.2.2.1, a1.2.2.2.2.2.2.2.2.1⟩
        have FJ := zFr_t F1 (H J (by omega)).1
        have LP : f_X9_waitOf_75 b (n32 m) σ1 nn (n32 0) = some (.inr (s_it g J (242 + 5 * m + 4)), st J) := by
          unfold f_X9_waitOf_75
          have e0 : (σ1, nn, n32 0) = ((fun j => (st j, s_it g j (242 + 5 * m + 4), n32 j)) 0 : zSt × Int32 × Int32) := by
            show (σ1, nn, n32 0) = (st 0, g (242 + 5 * m + 4), n32 0)
            rw [st0, hw]
          rw [e0]
          refine zloop_go (N := zN) (fun j => (st j, s_it g j (242 + 5 * m + 4), n32 j)) _ J (fun j hj => ?_) ?_ (by unfold zN; omega)
          · show b_X9_waitOf_75 b (n32 m) (st j) (s_it g j (242 + 5 * m + 4)) (n32 j) = some (.inl (st (j + 1), s_it g (j + 1) (242 + 5 * m + 4), n32 (j + 1)))
            obtain ⟨s1, s2, s3, _, _⟩ := sh j (by omega)
            obtain ⟨u1, u2, u3, u4, u5⟩ := sh (j + 1) (by omega)
            have v1 := val (j + 1) (by omega)
            rw [J4' j hj]
            simp (disch := omega) only [b_X9_waitOf_75, ↓zl_eq, ↓zb_eq, ↓zb2_eq, ↓zc_some, ↓zc_none, ↓zb_pre, ↓zb2_pre, ↓zc_pre, ↓zex_eq, ↓reduceIte, Option.isSome_some, Option.isSome_none, Option.getD_some, n32_lit, n32_nn2, n32_le, s1, s2, ((H j (by omega)).2.2.2.2 (by omega)).1, u1, u2, u3, u4, u5, v1, n32_add]
            rw [if_neg (by omega)]
          · show b_X9_waitOf_75 b (n32 m) (st J) (s_it g J (242 + 5 * m + 4)) (n32 J) = _
            rcases J3' with h3 | h3
            · subst h3
              simp (disch := omega) only [b_X9_waitOf_75, f_X9_waitOf_113, ↓zl_eq, ↓zb_eq, ↓zb2_eq, ↓zc_some, ↓zc_none, ↓zb_pre, ↓zb2_pre, ↓zc_pre, ↓zex_eq, ↓reduceIte, Option.isSome_some, Option.isSome_none, Option.getD_some, n32_lit, n32_nn2, n32_le, Nat.le_refl]
            · simp (disch := omega) only [b_X9_waitOf_75, f_X9_waitOf_113, ↓zl_eq, ↓zb_eq, ↓zb2_eq, ↓zc_some, ↓zc_none, ↓zb_pre, ↓zb2_pre, ↓zc_pre, ↓zex_eq, ↓reduceIte, Option.isSome_some, Option.isSome_none, Option.getD_some, n32_lit, n32_nn2, n32_le, if_neg h3, ite_self]
        have eq : s_eq g (s_cp g (s_it g J) 942) := s_cp_eq g (s_it g J)
        refine ⟨0, s_it g J (242 + 5 * m + 4), s_cp g (s_it g J) 942, k, gs, tl, tx, w_waitOf O o8 (zA9_trial (σ2 := st J) h.1 FJ (zLn_bl (H J (by omega)).2.1) eq (s_I_num hI) ?_), fun σ1 hM => ?_, s_I_w (s_I_eq eq hI) (Nat.le_refl _) (by omega), fun i hi => s_I_w (h.2.2.2.1 i hi) (Nat.le_refl _) (by omega), h.2.2.2.2.1, h.2.2.2.2.2.1, h.2.2.2.2.2.2.1⟩
        · simp only [f_X9_waitOf, ↓zl_eq, ↓zb_eq, ↓zb2_eq, ↓zc_some, ↓zc_none, ↓zb_pre, ↓zb2_pre, ↓zc_pre, ↓zex_eq, ↓reduceIte, Option.isSome_some, Option.isSome_none, Option.getD_some, n32_lit, n32_nn2, bt0', bf0', Bool.not_true, o8, r0, o2, r1, o3, Hh, VL, hw, late, rt, ot, EC, LP]
        · have T := zM_thr hM (n32 0)
          obtain ⟨A, EL, ML, FL, tL⟩ := zM_lays T.1
          generalize hσ3 : z_sA (z_sA σ1 (b + 118) (gu (z_I σ1 (b + 118)) 4 (n32 0))) (b + 121) (s_cp g A 942) = σ3 at EL ML FL tL
          have a3 : z_I σ3 (b + 121) = s_cp g A 942 := by rw [← hσ3, z_I_sA]
          have mg : z_I σ3 (b + 118 + 1) = g := ML.2.1
          have hv : ∀ j, j < 300 → s_vok (s_it g j) := fun j hj => ((H j (by omega)).2.2.2.2 hj).2
          have G := m_gs hM.1 true true true (show bi true = bi true from rfl) (show n32 1 = bi true from rfl) (show n32 1 = bi true from rfl)
          have sg : s_goes true true true = n32 0 := rfl
          rw [sg] at G
          have oo : z_ob (z_sA σ1 (b + 118) (gu (z_I σ1 (b + 118)) 4 (n32 0))) (b + 118) 9 = true := hM.1.1
          have om : ∀ j, f_X10_ofMessage (z_sA σ3 (b + 118 + 1) (s_it g j)) (b + 118) (n32 m) (n32 4) = some (s_it g j (242 + 5 * m + 4)) := fun j => by
            have := m_ofM (zMs_sA ML.1 (b + 118 + 1) (s_it g j)) (x := m) (w := 4) (by omega) (by decide)
            rw [z_I_sA] at this
            exact this
          have LM : f_X10_waitOf_63 (b + 118) (n32 m) σ3 (n32 0) = some (s_it g J (242 + 5 * m + 4), z_sA σ3 (b + 119) (s_cp g (s_it g J) 942)) := by
            unfold f_X10_waitOf_63
            have e0 : (σ3, n32 0) = ((fun j => (z_sA σ3 (b + 118 + 1) (s_it g j), n32 j)) 0 : zSt × Int32) := by
              have : z_sA σ3 (b + 118 + 1) (s_it g 0) = σ3 := by
                show z_sA σ3 (b + 118 + 1) g = σ3
                rw [← mg, z_sA_id]
              simp only [this]
            rw [e0]
            have tb := m_back ML.1 (X := s_it g J) a3
            have f90 : f_X10_waitOf_90 (z_sA σ3 (b + 118 + 1) (s_it g J)) (b + 118) (n32 m) = some (s_it g J (242 + 5 * m + 4), z_sA σ3 (b + 119) (s_cp g (s_it g J) 942)) := by
              simp only [f_X10_waitOf_90, ↓zl_eq, ↓zb_eq, ↓zb2_eq, ↓zc_some, ↓zc_none, ↓zb_pre, ↓zb2_pre, ↓zc_pre, ↓zex_eq, ↓reduceIte, Option.isSome_some, Option.isSome_none, Option.getD_some, n32_lit, z_ob_sA, ML.1.1, om J, tb]
            refine zloop_go (N := zN) (fun j => (z_sA σ3 (b + 118 + 1) (s_it g j), n32 j)) _ J (fun j hj => ?_) ?_ (by unfold zN; omega)
            · show b_X10_waitOf_63 (b + 118) (n32 m) (z_sA σ3 (b + 118 + 1) (s_it g j)) (n32 j) = some (.inl (z_sA σ3 (b + 118 + 1) (s_it g (j + 1)), n32 (j + 1)))
              have C := m_chain (σ := σ3) (g := g) ML.1 hv (show j < 300 by omega)
              have cj := om j
              rw [J4' j hj] at cj
              simp (disch := omega) only [b_X10_waitOf_63, ↓zl_eq, ↓zb_eq, ↓zb2_eq, ↓zc_some, ↓zc_none, ↓zb_pre, ↓zb2_pre, ↓zc_pre, ↓zex_eq, ↓reduceIte, Option.isSome_some, Option.isSome_none, Option.getD_some, n32_lit, n32_nn2, n32_le, z_ob_sA, ML.1.1, cj, C, n32_add]
              rw [if_neg (by omega)]
            · show b_X10_waitOf_63 (b + 118) (n32 m) (z_sA σ3 (b + 118 + 1) (s_it g J)) (n32 J) = _
              rcases J3' with h3 | h3
              · subst h3
                simp (disch := omega) only [b_X10_waitOf_63, ↓zl_eq, ↓zb_eq, ↓zb2_eq, ↓zc_some, ↓zc_none, ↓zb_pre, ↓zb2_pre, ↓zc_pre, ↓zex_eq, ↓reduceIte, Option.isSome_some, Option.isSome_none, Option.getD_some, n32_lit, n32_le, Nat.le_refl, f90]
              · have cj := om J
                simp (disch := omega) only [b_X10_waitOf_63, ↓zl_eq, ↓zb_eq, ↓zb2_eq, ↓zc_some, ↓zc_none, ↓zb_pre, ↓zb2_pre, ↓zc_pre, ↓zex_eq, ↓reduceIte, Option.isSome_some, Option.isSome_none, Option.getD_some, n32_lit, n32_nn2, n32_le, z_ob_sA, ML.1.1, cj, if_neg h3, f90, ite_self]
          have N := zM_new ML (s_cp g (s_it g J) 942)
          have t1 := hM.1
          have nl : (900000 < s_nat g 3) = False := eq_false (by omega)
          refine ⟨_, ?_, N.1, zFM_t T.2.1 (zFM_t FL N.2.1), by rw [N.2.2, tL]; exact T.2.2⟩
          simp (disch := omega) only [f_X10_waitOf, f_X10_waitOf_48, ↓zl_eq, ↓zb_eq, ↓zb2_eq, ↓zc_some, ↓zc_none, ↓zb_pre, ↓zb2_pre, ↓zc_pre, ↓zex_eq, ↓reduceIte, Option.isSome_some, Option.isSome_none, Option.getD_some, n32_lit, n32_nn2, i64_lit, t1.1, t1.2.1, t1.2.2.2.2.2.1, t1.2.2.2.2.2.2.2.2.2.1, n32_ix, n32_toNat, e15 σ1 hM, HM1, VM σ1 hM, hw, e13 σ1 hM, n32_lt, nl, G, Bool.and_self, bt0', oo, EL, LM]
      · rw [decide_eq_false ht] at late
        refine zP_q h (r := 2) (v := 0) (x_waitOf1 _ O o8 (zA9_x h.1 ?_)) (fun σ1 hM => zAM_q hM ?_)
        · simp only [f_X9_waitOf, f_X9_waitOf_50, ↓zl_eq, ↓zb_eq, ↓zb2_eq, ↓zc_some, ↓zc_none, ↓zb_pre, ↓zb2_pre, ↓zc_pre, ↓zex_eq, ↓reduceIte, Option.isSome_some, Option.isSome_none, Option.getD_some, n32_lit, n32_nn2, bt0', Bool.not_false, o8, r0, o2, r1, o3, Hh, VL, hw, late]
        · have G := m_gs hM.1 true false true (show bi true = bi true from rfl) (show n32 0 = bi false from rfl) (show n32 1 = bi true from rfl)
          have t1 := hM.1
          have nl : (900000 < s_nat g 3) = True := eq_true (by omega)
          simp (disch := omega) only [f_X10_waitOf, f_X10_waitOf_47, f_X10_waitOf_48, ↓zl_eq, ↓zb_eq, ↓zb2_eq, ↓zc_some, ↓zc_none, ↓zb_pre, ↓zb2_pre, ↓zc_pre, ↓zex_eq, ↓reduceIte, Option.isSome_some, Option.isSome_none, Option.getD_some, n32_lit, n32_nn2, i64_lit, t1.1, t1.2.1, t1.2.2.2.2.2.1, t1.2.2.2.2.2.2.2.2.2.1, n32_ix, n32_toNat, e15 σ1 hM, HM1, VM σ1 hM, hw, e13 σ1 hM, n32_lt, nl, G, Bool.and_false, Bool.false_and, bt0', bf0']
          rfl
    · refine zP_q h (r := 2) (v := 0) (x_waitOf1 _ O o8 (zA9_x h.1 ?_)) (fun σ1 hM => zAM_q hM ?_)
      · simp only [f_X9_waitOf, f_X9_waitOf_50, ↓zl_eq, ↓zb_eq, ↓zb2_eq, ↓zc_some, ↓zc_none, ↓zb_pre, ↓zb2_pre, ↓zc_pre, ↓zex_eq, ↓reduceIte, Option.isSome_some, Option.isSome_none, Option.getD_some, n32_lit, n32_nn2, bt0', o8, r0, o2, r1, o3, Hh, VL, if_neg hw]
      · have G := m_gs hM.1 true false true (show bi true = bi true from rfl) (show n32 0 = bi false from rfl) (show n32 1 = bi true from rfl)
        have t1 := hM.1
        simp (disch := omega) only [f_X10_waitOf, f_X10_waitOf_47, f_X10_waitOf_48, ↓zl_eq, ↓zb_eq, ↓zb2_eq, ↓zc_some, ↓zc_none, ↓zb_pre, ↓zb2_pre, ↓zc_pre, ↓zex_eq, ↓reduceIte, Option.isSome_some, Option.isSome_none, Option.getD_some, n32_lit, n32_nn2, i64_lit, t1.1, t1.2.1, t1.2.2.2.2.2.1, t1.2.2.2.2.2.2.2.2.2.1, n32_ix, n32_toNat, e15 σ1 hM, HM1, VM σ1 hM, if_neg hw, G, Bool.and_false, Bool.false_and, bt0', bf0']
        rfl
  · rw [decide_eq_false hx] at Hh
    have HM0 := fun σ => (HM σ).trans (by rw [decide_eq_false hx])
    refine zP_q h (r := 1) (v := 0) (x_waitOf2 _ O o8 (zA9_x h.1 ?_)) (fun σ1 hM => zAM_q hM ?_)
    · simp only [f_X9_waitOf, ↓zl_eq, ↓zb_eq, ↓zb2_eq, ↓zc_some, ↓zc_none, ↓zb_pre, ↓zb2_pre, ↓zc_pre, ↓zex_eq, ↓reduceIte, Option.isSome_some, Option.isSome_none, Option.getD_some, n32_lit, bf0', o8, r0, o2, r1, o3, Hh]
    · have G := m_gs hM.1 false false true (show bi false = bi false from rfl) (show n32 0 = bi false from rfl) (show n32 1 = bi true from rfl)
      have t1 := hM.1
      simp (disch := omega) only [f_X10_waitOf, f_X10_waitOf_47, f_X10_waitOf_48, ↓zl_eq, ↓zb_eq, ↓zb2_eq, ↓zc_some, ↓zc_none, ↓zb_pre, ↓zb2_pre, ↓zc_pre, ↓zex_eq, ↓reduceIte, Option.isSome_some, Option.isSome_none, Option.getD_some, n32_lit, i64_lit, t1.1, t1.2.1, t1.2.2.2.2.2.1, t1.2.2.2.2.2.2.2.2.2.1, n32_ix, n32_toNat, e15 σ1 hM, HM0, G, Bool.and_false, Bool.false_and, bf0']
      rfl
end TOP
end
section
/-! THE LEAST TARGET -/
def s_lj (h : zG) (vis : Nat) : Nat := s_fst (fun j => !decide (0 < s_wtn (s_it h j) 32)) vis 0
def s_lx (vis t : Nat) (gi : zG) : zG := s_it (gu gi 0 (n32 t)) (s_lj (gu gi 0 (n32 t)) vis)
def s_lg (g : zG) (vis : Nat) : Nat → zG
  | 0 => g
  | i + 1 => s_cp g (s_lx vis (20 * (i + 1)) (s_lg g vis i)) 942
def s_lr (g : zG) (vis i : Nat) : Bool := !decide (0 < s_wtn (s_lx vis (20 * (i + 1)) (s_lg g vis i)) 32)
theorem s_lg_eq (g : zG) (vis : Nat) : ∀ i, s_eq g (s_lg g vis i)
  | 0 => s_eq_r g
  | _ + 1 => s_cp_eq g _
theorem bi_n (c : Bool) : bi (!c) = if c = true then n32 0 else n32 1 := by cases c <;> rfl
section TOP
variable {σ : zSt} {b k tl : Nat} {g g' : zG} {gs : Nat → zG} {tx : Nat → Int32} {B V : Nat}
/-- what the reference needs of the arrays of one target -/
def s_lf (h : zG) (vis B V : Nat) : Prop := (∀ j, j < vis → s_vok (s_it h j)) ∧ ∀ j, j ≤ vis → s_I (s_it h j) B V
theorem c_sendsAll (h : zC σ b g k gs tl tx) (hI : s_I g 900000 V) (hV : V ≤ 1000000) {vis : Nat} (hvis : vis ≤ 100) (t : Nat) : ∃ σ', f_X9_sendsAll σ b (n32 t) (n32 vis) = some (bi (!decide (0 < s_wtn (s_lx vis t g) 32)), σ') ∧ zFr (b + 20) σ σ' ∧ zBl σ' (b + 20) ∧ s_lf (gu g 0 (n32 t)) vis 1740000 (V + 100) := by
  have o8 := h.1.1
  have r0 := h.1.2.1
  have rt : z_R σ b 1 = some (b + 20) := h.1.2.2.1
  have ot : z_ob σ (b + 20) 2 = true := h.2.2.1.1.1
  obtain ⟨σ1, EC, F1, L1, C1⟩ := zC_copy h (s_I_num hI)
  obtain ⟨pl, ad, qu, n, a1, a2, a3, a4⟩ := L1
  have T := c_top (⟨a1, a2, a3⟩ : zC0 σ1 (b + 20) pl ad qu n g) (k := 0) (by decide) (n32 t)
  have T0 := zC0_step (⟨a1, a2, a3⟩ : zC0 σ1 (b + 20) pl ad qu n g) T
  have TG : qG (z_pI σ1 (b + 20) (6 + 0) (n32 t)) (b + 20) (gu g 0 (n32 t)) := qG_congr T.2.1 (gu_ne _ _ (by omega)) (gu_ne _ _ (by omega)) (fun j hj => gu_ne _ _ (by omega)) a4
  have LT : zLn (z_pI σ1 (b + 20) 6 (n32 t)) (b + 20) (gu g 0 (n32 t)) := zLn_of T0 TG
  have hIt : s_I (gu g 0 (n32 t)) 900000 V := s_I_top hI (fun j hj => gu_ne _ _ (by omega)) (by rw [gu_ne _ _ (by omega)]; exact s_I_1 hI) (by rw [gu_ne _ _ (by omega)]; exact s_I_2 hI)
  have F2 : zFr (b + 20) σ (z_pI σ1 (b + 20) 6 (n32 t)) := zFr_t F1 T.1
  generalize hhh : gu g 0 (n32 t) = hh at LT hIt ⊢
  generalize hσ2 : z_pI σ1 (b + 20) 6 (n32 t) = σ2 at LT F2
  obtain ⟨st, st0, H⟩ := c_chain LT hIt vis (by omega) (by omega)
  have ex : s_lx vis t g = s_it hh (s_lj hh vis) := by unfold s_lx; rw [hhh]
  have P := s_fst_p (fun j => !decide (0 < s_wtn (s_it hh j) 32)) vis 0
  have ej : s_fst (fun j => !decide (0 < s_wtn (s_it hh j) 32)) vis 0 = s_lj hh vis := rfl
  rw [ej] at P
  rw [ex]
  generalize s_lj hh vis = J at P
  obtain ⟨J1, J2, J3, J4⟩ := P
  have J4' : ∀ j, j < J → decide (0 < s_wtn (s_it hh j) 32) = true := fun j hj => by
    have := J4 j (by omega) hj
    simpa using this
  have wt : ∀ j, j ≤ vis → f_X2_isWaitedAt (st j) (b + 20) = some (bi (decide (0 < s_wtn (s_it hh j) 32))) := fun j hj => by
    obtain ⟨_, ⟨pl', ad', qu', n', c1, c2, c3, c4⟩, Ij, _, _⟩ := H j hj
    exact c_isWaitedAt ⟨c1, c2, c3, s_I_6 Ij, s_I_sta Ij⟩ (s_I_5 Ij).1
  have sh : ∀ j, j ≤ vis → z_ob (st j) b 8 = true ∧ z_R (st j) b 1 = some (b + 20) ∧ z_ob (st j) (b + 20) 2 = true := fun j hj => by
    have F := zFr_t F2 (H j hj).1
    exact ⟨by rw [z_ob_eq F.2.1]; exact o8, by rw [F.2.2.1]; exact rt, by rw [z_ob_eq F.2.1]; exact ot⟩
  have LP : f_X9_sendsAll_21 b (n32 vis) σ2 (n32 0) = some (bi (!decide (0 < s_wtn (s_it hh J) 32)), st J) := by
    unfold f_X9_sendsAll_21
    have e0 : (σ2, n32 0) = ((fun j => (st j, n32 j)) 0 : zSt × Int32) := by rw [← st0]
    rw [e0]
    have f49 : f_X9_sendsAll_49 (st J) b = some (bi (!decide (0 < s_wtn (s_it hh J) 32)), st J) := by
      obtain ⟨s1, s2, s3⟩ := sh J (by omega)
      have w := wt J (by omega)
      generalize decide (0 < s_wtn (s_it hh J) 32) = c at w
      cases c <;> simp only [f_X9_sendsAll_49, f_X9_sendsAll_64, ↓zl_eq, ↓zb_eq, ↓zb2_eq, ↓zc_some, ↓zc_none, ↓zb_pre, ↓zb2_pre, ↓zc_pre, ↓zex_eq, ↓reduceIte, Option.isSome_some, Option.isSome_none, Option.getD_some, n32_lit, s1, s2, s3, w, bt0', bf0', bl0, bl1] <;> rfl
    refine zloop_go (N := zN) (fun j => (st j, n32 j)) _ J (fun j hj => ?_) ?_ (by unfold zN; omega)
    · show b_X9_sendsAll_21 b (n32 vis) (st j) (n32 j) = some (.inl (st (j + 1), n32 (j + 1)))
      obtain ⟨s1, s2, s3⟩ := sh j (by omega)
      have w := wt j (by omega)
      rw [J4' j hj] at w
      simp (disch := omega) only [b_X9_sendsAll_21, ↓zl_eq, ↓zb_eq, ↓zb2_eq, ↓zc_some, ↓zc_none, ↓zb_pre, ↓zb2_pre, ↓zc_pre, ↓zex_eq, ↓reduceIte, Option.isSome_some, Option.isSome_none, Option.getD_some, n32_lit, n32_le, s1, s2, s3, w, bt0', ((H j (by omega)).2.2.2.2 (by omega)).1, n32_add]
      rw [if_neg (by omega)]
    · show b_X9_sendsAll_21 b (n32 vis) (st J) (n32 J) = _
      obtain ⟨s1, s2, s3⟩ := sh J (by omega)
      by_cases h3 : J = vis
      · rw [h3] at f49 ⊢
        simp (disch := omega) only [b_X9_sendsAll_21, ↓zl_eq, ↓zb_eq, ↓zb2_eq, ↓zc_some, ↓zc_none, ↓zb_pre, ↓zb2_pre, ↓zc_pre, ↓zex_eq, ↓reduceIte, Option.isSome_some, Option.isSome_none, Option.getD_some, n32_lit, n32_le, Nat.le_refl, f49]
      · have hc : decide (0 < s_wtn (s_it hh J) 32) = false := by
          rcases J3 with h | h
          · omega
          · simpa using h
        have w := wt J (by omega)
        rw [hc] at w
        simp (disch := omega) only [b_X9_sendsAll_21, ↓zl_eq, ↓zb_eq, ↓zb2_eq, ↓zc_some, ↓zc_none, ↓zb_pre, ↓zb2_pre, ↓zc_pre, ↓zex_eq, ↓reduceIte, Option.isSome_some, Option.isSome_none, Option.getD_some, n32_lit, n32_le, s1, s2, s3, w, bf0', f49]
        rw [if_neg (by omega)]
  refine ⟨st J, ?_, zFr_t F2 (H J (by omega)).1, zLn_bl (H J (by omega)).2.1, fun j hj => ((H j (by omega)).2.2.2.2 hj).2, fun j hj => s_I_w (H j hj).2.2.1 (by omega) (by omega)⟩
  have o8' : z_ob σ1 b 8 = true := by rw [z_ob_eq F1.2.1]; exact o8
  have rt' : z_R σ1 b 1 = some (b + 20) := by rw [F1.2.2.1]; exact rt
  have ot' : z_ob σ1 (b + 20) 2 = true := by rw [z_ob_eq F1.2.1]; exact ot
  simp only [f_X9_sendsAll, ↓zl_eq, ↓zb_eq, ↓zb2_eq, ↓zc_some, ↓zc_none, ↓zb_pre, ↓zb2_pre, ↓zc_pre, ↓zex_eq, ↓reduceIte, Option.isSome_some, Option.isSome_none, Option.getD_some, n32_lit, o8, rt, r0, ot, EC, o8', rt', ot', hσ2, LP]
/-- the class through the targets -/
theorem c_targets (h : zC σ b g k gs tl tx) (hI : s_I g 900000 V) (hV : V ≤ 1000000) {vis : Nat} (hvis : vis ≤ 100) : ∀ m, ∃ st : Nat → zSt, st 0 = σ ∧ ∀ i, i ≤ m → zFr (b + 20) σ (st i) ∧ zC (st i) b (s_lg g vis i) k gs tl tx ∧ (i < m → f_X9_sendsAll (st i) b (n32 (20 * (i + 1))) (n32 vis) = some (bi (s_lr g vis i), st (i + 1)) ∧ s_lf (gu (s_lg g vis i) 0 (n32 (20 * (i + 1)))) vis 1740000 (V + 100)) := by
  intro m
  induction m with
  | zero =>
    refine ⟨fun _ => σ, rfl, fun j hj => ?_⟩
    have : j = 0 := by omega
    subst this
    exact ⟨zFr_r _ σ, h, fun h => by omega⟩
  | succ m ih =>
    obtain ⟨st, s0, H⟩ := ih
    obtain ⟨F, C, _⟩ := H m (Nat.le_refl _)
    have Im := s_I_eq (s_lg_eq g vis m) hI
    obtain ⟨σ', E, F', L', lf⟩ := c_sendsAll C Im hV hvis (20 * (m + 1))
    have C' : zC σ' b (s_lg g vis (m + 1)) k gs tl tx := zC_eq (s_eq_t (s_eq_s (s_lg_eq g vis m)) (s_lg_eq g vis (m + 1))) (s_I_num Im) (zC_trial (zFw_of F') L' C)
    refine ⟨fun i => if i = m + 1 then σ' else st i, by show (if 0 = m + 1 then σ' else st 0) = σ; rw [if_neg (by omega)]; exact s0, fun j hj => ?_⟩
    by_cases hjm : j = m + 1
    · subst hjm
      show zFr (b + 20) σ (if m + 1 = m + 1 then σ' else _) ∧ zC (if m + 1 = m + 1 then σ' else _) b _ k gs tl tx ∧ _
      rw [if_pos rfl]
      exact ⟨zFr_t F F', C', fun h => absurd h (Nat.lt_irrefl _)⟩
    · have Hj := H j (by omega)
      show zFr (b + 20) σ (if j = m + 1 then σ' else st j) ∧ zC (if j = m + 1 then σ' else st j) b _ k gs tl tx ∧ (_ → f_X9_sendsAll (if j = m + 1 then σ' else st j) b _ _ = some (_, if j + 1 = m + 1 then σ' else st (j + 1)) ∧ _)
      rw [if_neg hjm]
      refine ⟨Hj.1, Hj.2.1, fun _ => ?_⟩
      by_cases hjm2 : j = m
      · subst hjm2
        rw [if_pos rfl]
        exact ⟨E, lf⟩
      · rw [if_neg (by omega)]
        exact Hj.2.2 (by omega)
/-- the reference at one target -/
theorem m_target {σ3 : zSt} (hM : zMs σ3 (b + 118)) {A f gi : zG} (h3 : z_I σ3 (b + 121) = s_cp f A 942) {vis t B V : Nat} (hvis : vis ≤ 100) (hf : s_lf (gu gi 0 (n32 t)) vis B V) :
    f_X10_leastTarget_58 (b + 118) (n32 vis) (n32 t) (z_sA σ3 (b + 119) (gu gi 0 (n32 t))) (n32 0) = some (if decide (0 < s_wtn (s_lx vis t gi) 32) = true then .inl (z_sA σ3 (b + 119) (s_cp f (s_lx vis t gi) 942), n32 t + n32 20) else .inr (n32 t, z_sA σ3 (b + 119) (s_cp f (s_lx vis t gi) 942))) := by
  generalize hhh : gu gi 0 (n32 t) = hh at hf ⊢
  have ex : s_lx vis t gi = s_it hh (s_lj hh vis) := by unfold s_lx; rw [hhh]
  have P := s_fst_p (fun j => !decide (0 < s_wtn (s_it hh j) 32)) vis 0
  have ej : s_fst (fun j => !decide (0 < s_wtn (s_it hh j) 32)) vis 0 = s_lj hh vis := rfl
  rw [ej] at P
  rw [ex]
  generalize s_lj hh vis = J at P
  obtain ⟨J1, J2, J3, J4⟩ := P
  have J4' : ∀ j, j < J → 0 < s_wtn (s_it hh j) 32 := fun j hj => by
    have := J4 j (by omega) hj
    simpa using this
  have wm : ∀ j, j ≤ vis → f_X10_waiting (z_sA σ3 (b + 118 + 1) (s_it hh j)) (b + 118) = some (n32 (s_wtn (s_it hh j) 32)) := fun j hj => by
    obtain ⟨q5, q52⟩ := s_I_5 (hf.2 j hj)
    have := m_waiting (zMs_sA hM (b + 118 + 1) (s_it hh j)) (q := s_nat (s_it hh j) 5) (by rw [z_I_sA]; exact q52) q5
    rw [z_I_sA, s_waiting_n] at this
    exact this
  have wb : ∀ j, j ≤ vis → s_wtn (s_it hh j) 32 ≤ 3200 := fun j hj => s_wtn_le _ (s_I_5 (hf.2 j hj)).1 32
  have tb := m_back hM (X := s_it hh J) h3
  have o9 := hM.1
  have f80 : f_X10_leastTarget_80 (z_sA σ3 (b + 118 + 1) (s_it hh J)) (b + 118) (n32 vis) (n32 t) = some (if decide (0 < s_wtn (s_it hh J) 32) = true then .inl (z_sA σ3 (b + 119) (s_cp f (s_it hh J) 942), n32 t + n32 20) else .inr (n32 t, z_sA σ3 (b + 119) (s_cp f (s_it hh J) 942))) := by
    have w := wm J (by omega)
    have w2 := wb J (by omega)
    simp (disch := omega) only [f_X10_leastTarget_80, ↓zl_eq, ↓zb_eq, ↓zb2_eq, ↓zc_some, ↓zc_none, ↓zb_pre, ↓zb2_pre, ↓zc_pre, ↓zex_eq, ↓reduceIte, Option.isSome_some, Option.isSome_none, Option.getD_some, n32_lit, z_ob_sA, o9, w, tb, n32_eq, decide_eq_true_eq]
    by_cases hc : s_wtn (s_it hh J) 32 = 0
    · rw [if_pos hc, if_neg (by omega)]
    · rw [if_neg hc, if_pos (by omega)]
  unfold f_X10_leastTarget_58
  have e0 : (z_sA σ3 (b + 119) hh, n32 0) = ((fun j => (z_sA σ3 (b + 118 + 1) (s_it hh j), n32 j)) 0 : zSt × Int32) := rfl
  rw [e0]
  refine zloop_go (N := zN) (fun j => (z_sA σ3 (b + 118 + 1) (s_it hh j), n32 j)) _ J (fun j hj => ?_) ?_ (by unfold zN; omega)
  · show b_X10_leastTarget_58 (b + 118) (n32 vis) (n32 t) (z_sA σ3 (b + 118 + 1) (s_it hh j)) (n32 j) = some (.inl (z_sA σ3 (b + 118 + 1) (s_it hh (j + 1)), n32 (j + 1)))
    have C := m_chain (σ := σ3) (g := hh) hM hf.1 (show j < vis by omega)
    have w := wm j (by omega)
    have w2 := wb j (by omega)
    have w3 := J4' j hj
    simp (disch := omega) only [b_X10_leastTarget_58, ↓zl_eq, ↓zb_eq, ↓zb2_eq, ↓zc_some, ↓zc_none, ↓zb_pre, ↓zb2_pre, ↓zc_pre, ↓zex_eq, ↓reduceIte, Option.isSome_some, Option.isSome_none, Option.getD_some, n32_lit, n32_le, z_ob_sA, o9, w, C, n32_add]
    rw [if_neg (by omega), if_neg (by omega)]
  · show b_X10_leastTarget_58 (b + 118) (n32 vis) (n32 t) (z_sA σ3 (b + 118 + 1) (s_it hh J)) (n32 J) = _
    by_cases h4 : J = vis
    · rw [h4] at f80 ⊢
      simp (disch := omega) only [b_X10_leastTarget_58, ↓zl_eq, ↓zb_eq, ↓zb2_eq, ↓zc_some, ↓zc_none, ↓zb_pre, ↓zb2_pre, ↓zc_pre, ↓zex_eq, ↓reduceIte, Option.isSome_some, Option.isSome_none, Option.getD_some, n32_le, Nat.le_refl, f80]
    · have hc : ¬ 0 < s_wtn (s_it hh J) 32 := by
        rcases J3 with h | h
        · omega
        · simpa using h
      have w := wm J (by omega)
      have w2 := wb J (by omega)
      have hz : s_wtn (s_it hh J) 32 ≤ 0 := by omega
      simp (disch := omega) only [b_X10_leastTarget_58, ↓zl_eq, ↓zb_eq, ↓zb2_eq, ↓zc_some, ↓zc_none, ↓zb_pre, ↓zb2_pre, ↓zc_pre, ↓zex_eq, ↓reduceIte, Option.isSome_some, Option.isSome_none, Option.getD_some, n32_lit, n32_le, z_ob_sA, o9, w, if_pos hz, f80]
      rw [ite_self]
theorem p_leastTarget (h : zW σ b g k gs tl tx B V) (hB : B = 1740000) (hV : V ≤ 1000000) (x : Int32) : zP σ b g k gs tl tx B V (f_L_leastTarget σ b x (b + 123)) (fun σ1 => f_X10_leastTarget σ1 (b + 118) x) := by
  have hI := h.2.2.1
  have O := h.2.2.2.2.2.2.2
  obtain ⟨o8, r0, o2, pl, ad, qu, n, hs, hG⟩ := zC_open h.1 hI
  have h0 := zC0_of hs
  obtain ⟨t3, tB⟩ := s_I_3 hI
  have late := c_late h0 t3 (by omega)
  have r26 : ∀ σ1, zM σ1 b g k gs tl tx → ∀ c : Bool, f_X10_in σ1 x.toInt64 (Int64.ofNat 0) (Int64.ofNat 100) = some (bi c) → f_X10_leastTarget σ1 (b + 118) x = f_X10_leastTarget_26 σ1 (b + 118) x (bi (decide (s_nat g 3 ≤ 900000))) (bi c) (some (b + 118)) := by
    intro σ1 hM c hc
    have e1 : z_I σ1 (b + 118 + 1) 3 = n32 (s_nat g 3) := by have := hM.2.1; rw [show z_I σ1 (b + 118 + 1) = g from this]; exact t3
    have t1 := hM.1
    simp (disch := omega) only [f_X10_leastTarget, ↓zl_eq, ↓zb_eq, ↓zb2_eq, ↓zc_some, ↓zc_none, ↓zb_pre, ↓zb2_pre, ↓zc_pre, ↓zex_eq, ↓reduceIte, Option.isSome_some, Option.isSome_none, Option.getD_some, n32_lit, i64_lit, hc, t1.1, t1.2.1, t1.2.2.2.2.2.1, t1.2.2.2.2.2.2.2.2.2.1, n32_ix, n32_toNat, e1, n32_lt]
    by_cases hc : s_nat g 3 ≤ 900000
    · rw [if_neg (by omega), decide_eq_true hc]; rfl
    · rw [if_pos (by omega), decide_eq_false hc]; rfl
  by_cases hx : ((0 : Nat) : Int) ≤ x.toInt ∧ x.toInt ≤ ((100 : Nat) : Int)
  · have W := fun σ => c_win1 σ (by omega) (by omega) hx
    have WM := fun σ => m_win1 σ (by omega) (by omega) hx
    by_cases ht : s_nat g 3 ≤ 900000
    · rw [decide_eq_true ht] at late r26
      obtain ⟨vis, hvis, rfl⟩ := n32_of2 (x := x) (k := 100) (by omega) (by omega) (by omega)
      obtain ⟨st, st0, H⟩ := c_targets h.1 (s_I_low hI ht) hV hvis 20
      obtain ⟨J1, J2, J3, J4⟩ := s_fst_p (s_lr g vis) 20 0
      generalize s_fst (s_lr g vis) 20 0 = J at J1 J2 J3 J4
      have oj : ∀ i, i ≤ 20 → z_ob (st i) b 8 = true := fun i hi => (H i hi).2.1.1.1
      have LP : f_X9_leastTarget_43 b (n32 vis) σ (n32 20) = some (.inr (if J = 20 then nn else n32 (20 * (J + 1))), st (if J = 20 then 20 else J + 1)) := by
        unfold f_X9_leastTarget_43
        have e0 : (σ, n32 20) = ((fun i => (st i, n32 (20 * (i + 1)))) 0 : zSt × Int32) := by rw [← st0]
        rw [e0]
        refine zloop_go (N := zN) (fun i => (st i, n32 (20 * (i + 1)))) _ J (fun i hi => ?_) ?_ (by unfold zN; omega)
        · show b_X9_leastTarget_43 b (n32 vis) (st i) (n32 (20 * (i + 1))) = some (.inl (st (i + 1), n32 (20 * (i + 1 + 1))))
          have S := ((H i (by omega)).2.2 (by omega)).1
          rw [J4 i (by omega) hi] at S
          have ea : 20 * (i + 1) + 20 = 20 * (i + 1 + 1) := by omega
          simp (disch := omega) only [b_X9_leastTarget_43, ↓zl_eq, ↓zb_eq, ↓zb2_eq, ↓zc_some, ↓zc_none, ↓zb_pre, ↓zb2_pre, ↓zc_pre, ↓zex_eq, ↓reduceIte, Option.isSome_some, Option.isSome_none, Option.getD_some, n32_lit, n32_lt, oj, S, bf0', n32_add, ea]
          rw [if_neg (by omega)]
        · show b_X9_leastTarget_43 b (n32 vis) (st J) (n32 (20 * (J + 1))) = _
          by_cases h20 : J = 20
          · subst h20
            rw [if_pos rfl, if_pos rfl]
            simp (disch := omega) only [b_X9_leastTarget_43, ↓zl_eq, ↓zb_eq, ↓zb2_eq, ↓zc_some, ↓zc_none, ↓zb_pre, ↓zb2_pre, ↓zc_pre, ↓zex_eq, ↓reduceIte, Option.isSome_some, Option.isSome_none, Option.getD_some, n32_lit, n32_nn2, n32_lt]
            rw [if_pos (by omega)]
          · have hc : s_lr g vis J = true := by
              rcases J3 with h | h
              · omega
              · exact h
            have S := ((H J (by omega)).2.2 (by omega)).1
            rw [hc] at S
            have oJ := oj J (by omega)
            rw [if_neg h20, if_neg h20]
            simp (disch := omega) only [b_X9_leastTarget_43, ↓zl_eq, ↓zb_eq, ↓zb2_eq, ↓zc_some, ↓zc_none, ↓zb_pre, ↓zb2_pre, ↓zc_pre, ↓zex_eq, ↓reduceIte, Option.isSome_some, Option.isSome_none, Option.getD_some, n32_lit, n32_lt, oJ, S, bt0']
            rw [if_neg (by omega)]
      generalize hJF : (if J = 20 then 20 else J + 1) = JF at LP
      have hJF2 : JF ≤ 20 := by
        rw [← hJF]
        by_cases h20 : J = 20
        · rw [if_pos h20]; exact Nat.le_refl _
        · rw [if_neg h20]; omega
      have eq := s_lg_eq g vis JF
      obtain ⟨FJ, CJ, _⟩ := H JF hJF2
      refine ⟨0, if J = 20 then nn else n32 (20 * (J + 1)), s_lg g vis JF, k, gs, tl, tx, w_leastTarget O o8 ⟨st JF, ?_, CJ, zEq_fw (zFw_of FJ) (by omega), by rw [FJ.1]; exact Nat.le_refl _⟩, fun σ1 hM => ?_, s_I_w (s_I_eq eq hI) (Nat.le_refl _) (by omega), fun i hi => s_I_w (h.2.2.2.1 i hi) (Nat.le_refl _) (by omega), h.2.2.2.2.1, h.2.2.2.2.2.1, h.2.2.2.2.2.2.1⟩
      · simp only [f_X9_leastTarget, ↓zl_eq, ↓zb_eq, ↓zb2_eq, ↓zc_some, ↓zc_none, ↓zb_pre, ↓zb2_pre, ↓zc_pre, ↓zex_eq, ↓reduceIte, Option.isSome_some, Option.isSome_none, Option.getD_some, n32_lit, W, bt0', bf0', Bool.not_true, o8, r0, o2, late, LP]
      · have T := zM_thr hM (n32 0)
        obtain ⟨A, EL, ML, FL, tL⟩ := zM_lays T.1
        generalize hσ3 : z_sA (z_sA σ1 (b + 118) (gu (z_I σ1 (b + 118)) 4 (n32 0))) (b + 121) (s_cp g A 942) = σ3 at EL ML FL tL
        have a3 : z_I σ3 (b + 121) = s_cp g A 942 := by rw [← hσ3, z_I_sA]
        have mg : z_I σ3 (b + 118 + 1) = g := ML.2.1
        have G := m_gs hM.1 true true true (show bi true = bi true from rfl) (show bi true = bi true from rfl) (show n32 1 = bi true from rfl)
        have sg : s_goes true true true = n32 0 := rfl
        rw [sg] at G
        have oo : z_ob (z_sA σ1 (b + 118) (gu (z_I σ1 (b + 118)) 4 (n32 0))) (b + 118) 9 = true := hM.1.1
        have LM : f_X10_leastTarget_42 (b + 118) (n32 vis) σ3 (n32 20) = some (if J = 20 then nn else n32 (20 * (J + 1)), z_sA σ3 (b + 119) (s_lg g vis JF)) := by
          unfold f_X10_leastTarget_42
          have e0 : (σ3, n32 20) = ((fun i => (z_sA σ3 (b + 119) (s_lg g vis i), n32 (20 * (i + 1)))) 0 : zSt × Int32) := by
            have : z_sA σ3 (b + 119) (s_lg g vis 0) = σ3 := by
              show z_sA σ3 (b + 119) g = σ3
              rw [← mg]; exact z_sA_id σ3 (b + 119)
            simp only [this]
          rw [e0]
          have m1 := ML.1
          have f1 : b + 118 + 1 = b + 119 := rfl
          unfold zMs at m1
          rw [f1] at m1
          refine zloop_go (N := zN) (fun i => (z_sA σ3 (b + 119) (s_lg g vis i), n32 (20 * (i + 1)))) _ J (fun i hi => ?_) ?_ (by unfold zN; omega)
          · show b_X10_leastTarget_42 (b + 118) (n32 vis) (z_sA σ3 (b + 119) (s_lg g vis i)) (n32 (20 * (i + 1))) = some (.inl (z_sA σ3 (b + 119) (s_lg g vis (i + 1)), n32 (20 * (i + 1 + 1))))
            have TG := m_target (b := b) ML.1 a3 (gi := s_lg g vis i) (t := 20 * (i + 1)) hvis ((H i (by omega)).2.2 (by omega)).2
            have hr := J4 i (by omega) hi
            have hr2 : decide (0 < s_wtn (s_lx vis (20 * (i + 1)) (s_lg g vis i)) 32) = true := by
              unfold s_lr at hr
              simpa using hr
            rw [hr2, if_pos rfl] at TG
            have ea : 20 * (i + 1) + 20 = 20 * (i + 1 + 1) := by omega
            rw [n32_add, ea] at TG
            simp (disch := omega) only [b_X10_leastTarget_42, ↓zl_eq, ↓zb_eq, ↓zb2_eq, ↓zc_some, ↓zc_none, ↓zb_pre, ↓zb2_pre, ↓zc_pre, ↓zex_eq, ↓reduceIte, Option.isSome_some, Option.isSome_none, Option.getD_some, n32_lit, n32_lt, z_ob_sA, z_R_sA, z_ar_sA, z_ln_sA, m1.1, m1.2.1, m1.2.2.2.2.2.1, m1.2.2.2.2.2.2.2.2.2.1, n32_ix, n32_toNat, z_pI_eq, z_I_sA, z_sA_sA, TG]
            rw [if_neg (by omega)]
            rfl
          · show b_X10_leastTarget_42 (b + 118) (n32 vis) (z_sA σ3 (b + 119) (s_lg g vis J)) (n32 (20 * (J + 1))) = _
            by_cases h20 : J = 20
            · subst h20
              rw [if_pos rfl] at hJF
              subst hJF
              rw [if_pos rfl]
              simp (disch := omega) only [b_X10_leastTarget_42, ↓zl_eq, ↓zb_eq, ↓zb2_eq, ↓zc_some, ↓zc_none, ↓zb_pre, ↓zb2_pre, ↓zc_pre, ↓zex_eq, ↓reduceIte, Option.isSome_some, Option.isSome_none, Option.getD_some, n32_lit, n32_nn2, n32_lt]
              rw [if_pos (by omega)]
            · rw [if_neg h20] at hJF
              subst hJF
              rw [if_neg h20]
              have hc : s_lr g vis J = true := by
                rcases J3 with h | h
                · omega
                · exact h
              have TG := m_target (b := b) ML.1 a3 (gi := s_lg g vis J) (t := 20 * (J + 1)) hvis ((H J (by omega)).2.2 (by omega)).2
              have hr2 : decide (0 < s_wtn (s_lx vis (20 * (J + 1)) (s_lg g vis J)) 32) = false := by
                unfold s_lr at hc
                simpa using hc
              rw [hr2, if_neg (by decide)] at TG
              simp (disch := omega) only [b_X10_leastTarget_42, ↓zl_eq, ↓zb_eq, ↓zb2_eq, ↓zc_some, ↓zc_none, ↓zb_pre, ↓zb2_pre, ↓zc_pre, ↓zex_eq, ↓reduceIte, Option.isSome_some, Option.isSome_none, Option.getD_some, n32_lit, n32_lt, z_ob_sA, z_R_sA, z_ar_sA, z_ln_sA, m1.1, m1.2.1, m1.2.2.2.2.2.1, m1.2.2.2.2.2.2.2.2.2.1, n32_ix, n32_toNat, z_pI_eq, z_I_sA, z_sA_sA, TG]
              rw [if_neg (by omega)]
              rfl
        have N := zM_new ML (s_lg g vis JF)
        refine ⟨_, ?_, N.1, zFM_t T.2.1 (zFM_t FL N.2.1), by rw [N.2.2, tL]; exact T.2.2⟩
        show f_X10_leastTarget σ1 (b + 118) (n32 vis) = _
        rw [r26 σ1 hM true (WM σ1)]
        simp only [f_X10_leastTarget_26, ↓zl_eq, ↓zb_eq, ↓zb2_eq, ↓zc_some, ↓zc_none, ↓zb_pre, ↓zb2_pre, ↓zc_pre, ↓zex_eq, ↓reduceIte, Option.isSome_some, Option.isSome_none, Option.getD_some, n32_lit, hM.1.1, G, Bool.and_self, bt0', oo, EL, LM]
    · rw [decide_eq_false ht] at late r26
      refine zP_q h (r := 2) (v := 0) (x_leastTarget1 _ O o8 (zA9_x h.1 ?_)) (fun σ1 hM => zAM_q hM ?_)
      · simp only [f_X9_leastTarget, ↓zl_eq, ↓zb_eq, ↓zb2_eq, ↓zc_some, ↓zc_none, ↓zb_pre, ↓zb2_pre, ↓zc_pre, ↓zex_eq, ↓reduceIte, Option.isSome_some, Option.isSome_none, Option.getD_some, n32_lit, W, bt0', Bool.not_false, o8, r0, o2, late]
      · have G := m_gs hM.1 true false true (show bi true = bi true from rfl) (show bi false = bi false from rfl) (show n32 1 = bi true from rfl)
        show f_X10_leastTarget σ1 (b + 118) x = _
        rw [r26 σ1 hM true (WM σ1)]
        simp only [f_X10_leastTarget_26, ↓zl_eq, ↓zb_eq, ↓zb2_eq, ↓zc_some, ↓zc_none, ↓zb_pre, ↓zb2_pre, ↓zc_pre, ↓zex_eq, ↓reduceIte, Option.isSome_some, Option.isSome_none, Option.getD_some, n32_lit, hM.1.1, G, Bool.and_false, Bool.false_and, bf0']
        rfl
  · have W := fun σ => c_win0 σ (by omega) (by omega) hx
    have WM := fun σ => m_win0 σ (by omega) (by omega) hx
    refine zP_q h (r := 1) (v := 0) (x_leastTarget0 _ O o8 (zA9_x h.1 ?_)) (fun σ1 hM => zAM_q hM ?_)
    · simp only [f_X9_leastTarget, ↓zl_eq, ↓zb_eq, ↓zb2_eq, ↓zc_some, ↓zc_none, ↓zb_pre, ↓zb2_pre, ↓zc_pre, ↓zex_eq, ↓reduceIte, Option.isSome_some, Option.isSome_none, Option.getD_some, n32_lit, W, bf0']
    · have G := m_gs hM.1 false (decide (s_nat g 3 ≤ 900000)) true (show bi false = bi false from rfl) rfl (show n32 1 = bi true from rfl)
      show f_X10_leastTarget σ1 (b + 118) x = _
      rw [r26 σ1 hM false (WM σ1)]
      simp only [f_X10_leastTarget_26, ↓zl_eq, ↓zb_eq, ↓zb2_eq, ↓zc_some, ↓zc_none, ↓zb_pre, ↓zb2_pre, ↓zc_pre, ↓zex_eq, ↓reduceIte, Option.isSome_some, Option.isSome_none, Option.getD_some, n32_lit, hM.1.1, G, Bool.false_and, bf0']
      rfl
end TOP
end
section
/-! TEXT, UNDO, AND CALLS WITHOUT EXCEPTIONS -/
theorem nar_byte : ∀ c, c < 128 → vp_nar .byte (n32 c).toInt8.toInt32 = n32 c := by decide +kernel
section TOP
variable {σ : zSt} {b k tl : Nat} {g g' : zG} {gs : Nat → zG} {tx : Nat → Int32} {B V : Nat}
/-- only the text has changed -/
theorem zC_text {σ1 : zSt} {tl' : Nat} {tx' : Nat → Int32} (h : zC σ b g k gs tl tx) (hs : z_sh σ1 = z_sh σ) (hR : z_R σ1 = z_R σ) (hJ : z_J σ1 = z_J σ) (hI : ∀ q, q ≠ b → q ≠ b + 117 → z_I σ1 q = z_I σ q) (h4 : z_I σ1 b 4 = n32 tl') (ht : ∀ j, j < tl' → z_I σ1 (b + 117) j = tx' j) : zC σ1 b g k gs tl' tx' := by
  obtain ⟨⟨t1, t2, t3, t4, t5, t6, t7⟩, hl, hb, ⟨hl', hsv, hr⟩, _, _⟩ := h
  have E : zEq (b + 1) (b + 117) σ σ1 := fun q a1 a2 => ⟨by rw [hs], hI q (by omega) (by omega), by rw [hJ], by rw [hR]⟩
  exact ⟨⟨by rw [z_ob_eq hs]; exact t1, by rw [hR]; exact t2, by rw [hR]; exact t3, by rw [hR]; exact t4, by rw [hR]; exact t5, by rw [z_ar_eq hs]; exact t6, by rw [z_ln_eq hs]; exact t7⟩, zLn_reg (zEq_s E (by omega) (by omega)) hl, zBl_reg (zEq_s E (by omega) (by omega)) hb, ⟨hl', zSv_reg (zEq_s E (by omega) (by omega)) (fun i hi => zEq_s E (by have := hr i hi; omega) (by have := hr i hi; omega)) hsv, hr⟩, h4, ht⟩
theorem p_append (h : zW σ b g k gs tl tx B V) (hB : B = 1740000) (hV : V ≤ 1000000) (x : Int32) : zP σ b g k gs tl tx B V (f_L_append σ b x (b + 123)) (fun σ1 => f_X10_append σ1 (b + 118) x) := by
  have O := h.2.2.2.2.2.2.2
  have htl := h.2.2.2.2.2.1
  have htx := h.2.2.2.2.2.2.1
  obtain ⟨o8, t2, t3, t4, t5, t6, t7⟩ := h.1.1
  have e4 := h.1.2.2.2.2.1
  have etx := h.1.2.2.2.2.2
  have mfull : ∀ σ1, zM σ1 b g k gs tl tx → ∀ c : Bool, f_X10_in σ1 x.toInt64 (Int64.ofNat 0) (Int64.ofNat 127) = some (bi c) → f_X10_append σ1 (b + 118) x = f_X10_append_24 σ1 (b + 118) x (bi (decide (tl < 120))) (bi c) (some (b + 118)) := by
    intro σ1 hM c hc
    have e6 := hM.2.2.2.2.1
    simp (disch := omega) only [f_X10_append, ↓zl_eq, ↓zb_eq, ↓zb2_eq, ↓zc_some, ↓zc_none, ↓zb_pre, ↓zb2_pre, ↓zc_pre, ↓zex_eq, ↓reduceIte, Option.isSome_some, Option.isSome_none, Option.getD_some, n32_lit, i64_lit, hc, hM.1.1, e6, n32_le]
    by_cases hc : tl < 120
    · rw [if_neg (by omega), decide_eq_true hc]; rfl
    · rw [if_pos (by omega), decide_eq_false hc]; rfl
  by_cases hx : ((0 : Nat) : Int) ≤ x.toInt ∧ x.toInt ≤ ((127 : Nat) : Int)
  · have W := fun σ => c_win1 σ (by omega) (by omega) hx
    have WM := fun σ => m_win1 σ (by omega) (by omega) hx
    have WT : f_X9_isWithin σ (n32 tl) (n32 0) (n32 120 - n32 1) = some (bi (decide (tl < 120))) := by
      have hd : decide (0 ≤ ((tl : Nat) : Int) ∧ ((tl : Nat) : Int) < ((120 : Nat) : Int)) = decide (tl < 120) := by
        apply decide_eq_decide.2
        omega
      rw [c_winm σ (n := 120) (by omega), n32_toInt (by omega), hd]
    by_cases hf : tl < 120
    · rw [decide_eq_true hf] at WT mfull
      obtain ⟨c, hc, rfl⟩ := n32_of2 (x := x) (k := 127) (by omega) (by omega) (by omega)
      have nb := nar_byte c (by omega)
      have tx1 : ∀ j, j < tl + 1 → (if j = tl then n32 c else tx j) = (fun j => if j = tl then n32 c else tx j) j := fun _ _ => rfl
      refine ⟨0, n32 (tl + 1), g, k, gs, tl + 1, fun j => if j = tl then n32 c else tx j, w_append O o8 ⟨z_pI (z_pI σ (b + 117) tl (n32 c)) b 4 (n32 (tl + 1)), ?_, ?_, fun q h1 h2 => ⟨rfl, ?_, rfl, rfl⟩, Nat.le_refl _⟩, fun σ1 hM => ?_, s_I_w h.2.2.1 (Nat.le_refl _) (by omega), fun i hi => s_I_w (h.2.2.2.1 i hi) (Nat.le_refl _) (by omega), h.2.2.2.2.1, by omega, fun j hj => ?_⟩
      · have e9 : z_I (z_pI σ (b + 117) tl (n32 c)) b 4 = n32 tl := by rw [z_I_pI, if_neg (by omega)]; exact e4
        have e9' : z_I (z_pI (z_pI σ (b + 117) tl (n32 c)) b 4 (n32 (tl + 1))) b 4 = n32 (tl + 1) := by rw [z_I_pI, if_pos ⟨rfl, rfl⟩]
        simp (disch := omega) only [f_X9_append, ↓zl_eq, ↓zb_eq, ↓zb2_eq, ↓zc_some, ↓zc_none, ↓zb_pre, ↓zb2_pre, ↓zc_pre, ↓zex_eq, ↓reduceIte, Option.isSome_some, Option.isSome_none, Option.getD_some, n32_lit, W, bt0', o8, t5, t6, t7, e4, ofN_n32, WT, n32_ix, n32_toNat, nb, z_ob_pI, e9, n32_add, e9']
      · refine zC_text (σ := σ) h.1 rfl rfl rfl (fun q h1 h2 => ?_) (by rw [z_I_pI, if_pos ⟨rfl, rfl⟩]) (fun j hj => ?_)
        · funext j; rw [z_I_pI, if_neg (by omega), z_I_pI, if_neg (by omega)]
        · rw [z_I_pI, if_neg (by omega), z_I_pI]
          by_cases hjt : j = tl
          · rw [if_pos ⟨rfl, hjt⟩, if_pos hjt]
          · rw [if_neg (by omega), if_neg hjt]; exact etx j (by omega)
      · funext j; rw [z_I_pI, if_neg (by omega), z_I_pI, if_neg (by omega)]
      · have T := zM_thr hM (n32 0)
        have G := m_gs hM.1 true true true (show bi true = bi true from rfl) (show bi true = bi true from rfl) (show n32 1 = bi true from rfl)
        have sg : s_goes true true true = n32 0 := rfl
        rw [sg] at G
        generalize hσ2 : z_sA σ1 (b + 118) (gu (z_I σ1 (b + 118)) 4 (n32 0)) = σ2 at G T
        obtain ⟨TM, TF, Tt⟩ := T
        obtain ⟨tm, tg, ts, tsv, tlg, ttx⟩ := TM
        have f4 : b + 118 + 4 = b + 122 := rfl
        have m1 := tm
        unfold zMs at m1
        rw [f4] at m1
        have e6' : z_I (z_pI σ2 (b + 122) tl (n32 c)) (b + 118) 6 = n32 tl := by rw [z_I_pI, if_neg (by omega)]; exact tlg
        have e6'' : z_I (z_pI (z_pI σ2 (b + 122) tl (n32 c)) (b + 118) 6 (n32 (tl + 1))) (b + 118) 6 = n32 (tl + 1) := by rw [z_I_pI, if_pos ⟨rfl, rfl⟩]
        have iq : ∀ q, q ≠ b + 118 → q ≠ b + 122 → z_I (z_pI (z_pI σ2 (b + 122) tl (n32 c)) (b + 118) 6 (n32 (tl + 1))) q = z_I σ2 q := fun q h1 h2 => by
          funext j; rw [z_I_pI, if_neg (by omega), z_I_pI, if_neg (by omega)]
        refine ⟨z_pI (z_pI σ2 (b + 122) tl (n32 c)) (b + 118) 6 (n32 (tl + 1)), ?_, ⟨tm, ?_, ?_, fun i j hi hj => ?_, e6'', fun j hj => ?_⟩, zFM_t TF ⟨rfl, rfl, rfl, rfl, fun q hq => iq q (by omega) (by omega)⟩, ?_⟩
        · show f_X10_append σ1 (b + 118) (n32 c) = _
          rw [mfull σ1 hM true (WM σ1)]
          simp (disch := omega) only [f_X10_append_24, ↓zl_eq, ↓zb_eq, ↓zb2_eq, ↓zc_some, ↓zc_none, ↓zb_pre, ↓zb2_pre, ↓zc_pre, ↓zex_eq, ↓reduceIte, Option.isSome_some, Option.isSome_none, Option.getD_some, n32_lit, hM.1.1, G, Bool.and_self, bt0', m1.1, m1.2.2.2.2.1, m1.2.2.2.2.2.2.2.2.1, m1.2.2.2.2.2.2.2.2.2.2.2.2, tlg, n32_ix, n32_toNat, z_ob_pI, e6', n32_add, e6'']
        · rw [iq _ (by omega) (by omega)]; exact tg
        · rw [z_I_pI, if_neg (by omega), z_I_pI, if_neg (by omega)]; exact ts
        · rw [iq _ (by omega) (by omega)]; exact tsv i j hi hj
        · rw [z_I_pI, if_neg (by omega), z_I_pI]
          show _ = if j = tl then n32 c else tx j
          by_cases hjt : j = tl
          · rw [if_pos ⟨rfl, hjt⟩, if_pos hjt]
          · rw [if_neg (by omega), if_neg hjt]; exact ttx j (by omega)
        · rw [z_I_pI, if_neg (by omega), z_I_pI, if_neg (by omega)]; exact Tt
      · by_cases hjt : j = tl
        · exact ⟨c, by omega, if_pos hjt⟩
        · obtain ⟨c', h1, h2⟩ := htx j (by omega)
          exact ⟨c', h1, by show (if j = tl then n32 c else tx j) = _; rw [if_neg hjt]; exact h2⟩
    · rw [decide_eq_false hf] at WT mfull
      refine zP_q h (r := 2) (v := 0) (x_append1 _ O o8 (zA9_x h.1 ?_)) (fun σ1 hM => zAM_q hM ?_)
      · simp only [f_X9_append, ↓zl_eq, ↓zb_eq, ↓zb2_eq, ↓zc_some, ↓zc_none, ↓zb_pre, ↓zb2_pre, ↓zc_pre, ↓zex_eq, ↓reduceIte, Option.isSome_some, Option.isSome_none, Option.getD_some, n32_lit, W, bt0', bf0', o8, t5, t6, t7, e4, ofN_n32, WT]
      · have G := m_gs hM.1 true false true (show bi true = bi true from rfl) (show bi false = bi false from rfl) (show n32 1 = bi true from rfl)
        show f_X10_append σ1 (b + 118) x = _
        rw [mfull σ1 hM true (WM σ1)]
        simp only [f_X10_append_24, ↓zl_eq, ↓zb_eq, ↓zb2_eq, ↓zc_some, ↓zc_none, ↓zb_pre, ↓zb2_pre, ↓zc_pre, ↓zex_eq, ↓reduceIte, Option.isSome_some, Option.isSome_none, Option.getD_some, n32_lit, hM.1.1, G, Bool.and_false, Bool.false_and, bf0']
        rfl
  · have W := fun σ => c_win0 σ (by omega) (by omega) hx
    have WM := fun σ => m_win0 σ (by omega) (by omega) hx
    refine zP_q h (r := 1) (v := 0) (x_append0 _ O o8 (zA9_x h.1 ?_)) (fun σ1 hM => zAM_q hM ?_)
    · simp only [f_X9_append, ↓zl_eq, ↓zb_eq, ↓zb2_eq, ↓zc_some, ↓zc_none, ↓zb_pre, ↓zb2_pre, ↓zc_pre, ↓zex_eq, ↓reduceIte, Option.isSome_some, Option.isSome_none, Option.getD_some, n32_lit, W, bf0']
    · have G := m_gs hM.1 false (decide (tl < 120)) true (show bi false = bi false from rfl) rfl (show n32 1 = bi true from rfl)
      show f_X10_append σ1 (b + 118) x = _
      rw [mfull σ1 hM false (WM σ1)]
      simp only [f_X10_append_24, ↓zl_eq, ↓zb_eq, ↓zb2_eq, ↓zc_some, ↓zc_none, ↓zb_pre, ↓zb2_pre, ↓zc_pre, ↓zex_eq, ↓reduceIte, Option.isSome_some, Option.isSome_none, Option.getD_some, n32_lit, hM.1.1, G, Bool.false_and, bf0']
      rfl
theorem zC_k4 (h : zC σ b g k gs tl tx) : z_I σ (b + 39) 1 = n32 k ∧ k ≤ 4 := by
  obtain ⟨hl, hsv, _⟩ := h.2.2.2.1
  exact ⟨hsv.2.1, hsv.2.2.1⟩
theorem p_undo (h : zW σ b g k gs tl tx B V) (hB : B = 1740000) (hV : V ≤ 1000000) : zP σ b g k gs tl tx B V (f_L_undo σ b (b + 123)) (fun σ1 => f_X10_undo σ1 (b + 118)) := by
  have hI := h.2.2.1
  have O := h.2.2.2.2.2.2.2
  obtain ⟨o8, r0, o2, _⟩ := zC_open h.1 hI
  obtain ⟨r2, oh⟩ := zC_hs h.1
  obtain ⟨e1, hk4⟩ := zC_k4 h.1
  rcases k with _ | k
  · refine zP_q h (r := 1) (v := 0) (x_undo1 _ O o8 (zA9_x h.1 ?_)) (fun σ1 hM => zAM_q hM ?_)
    · simp only [f_X9_undo, ↓zl_eq, ↓zb_eq, ↓zb2_eq, ↓zc_some, ↓zc_none, ↓zb_pre, ↓zb2_pre, ↓zc_pre, ↓zex_eq, ↓reduceIte, Option.isSome_some, Option.isSome_none, Option.getD_some, n32_lit, o8, r2, oh, e1]
    · have G := m_gs hM.1 false true true (show n32 0 = bi false from rfl) (show n32 1 = bi true from rfl) (show n32 1 = bi true from rfl)
      have e3 := hM.2.2.1
      simp (disch := omega) only [f_X10_undo, f_X10_undo_13, ↓zl_eq, ↓zb_eq, ↓zb2_eq, ↓zc_some, ↓zc_none, ↓zb_pre, ↓zb2_pre, ↓zc_pre, ↓zex_eq, ↓reduceIte, Option.isSome_some, Option.isSome_none, Option.getD_some, n32_lit, hM.1.1, e3, n32_le, Nat.le_refl, G, Bool.false_and, bf0']
      rfl
  · obtain ⟨⟨_, t2, t3, t4, t5, t6, t7⟩, hl, hb, ⟨hl', hsv, hr⟩, h4, htx⟩ := h.1
    obtain ⟨σ1, ER, S1, L1, n1, s1, R1, I1⟩ := c_restore hsv (zLn_bl hl) (fun i hi => by have := hr i hi; omega) (by omega)
    have Ig := h.2.2.2.1 k (by omega)
    have eq : s_eq (gs k) (s_cp (gs k) g 942) := s_cp_eq (gs k) g
    have i1 : z_I σ1 (b + 39) 1 = n32 k := S1.2.1
    refine ⟨0, n32 k, s_cp (gs k) g 942, k, gs, tl, tx, w_undo O o8 ⟨σ1, ?_, ⟨⟨by rw [z_ob_eq s1]; exact o8, by rw [R1]; exact t2, by rw [R1]; exact t3, by rw [R1]; exact t4, by rw [R1]; exact t5, by rw [z_ar_eq s1]; exact t6, by rw [z_ln_eq s1]; exact t7⟩, zLn_eq eq (s_I_num Ig) L1, zBl_reg (fun q h1 h2 => ?_) hb, ⟨hl', S1, hr⟩, by rw [(I1 b (by omega) (by omega)).1]; exact h4, fun j hj => by rw [(I1 (b + 117) (by omega) (by omega)).1]; exact htx j hj⟩, fun q h1 h2 => ?_, by rw [n1]; exact Nat.le_refl _⟩, fun σ2 hM => ?_, s_I_w (s_I_eq eq Ig) (Nat.le_refl _) (by omega), fun i hi => s_I_w (h.2.2.2.1 i (by omega)) (Nat.le_refl _) (by omega), by omega, h.2.2.2.2.2.1, h.2.2.2.2.2.2.1⟩
    · have nz : (n32 (k + 1) = n32 0) = False := eq_false (by rw [n32_eq (by omega) (by omega)]; omega)
      have oo : z_ob σ1 = z_ob σ := z_ob_eq s1
      simp only [f_X9_undo, ↓zl_eq, ↓zb_eq, ↓zb2_eq, ↓zc_some, ↓zc_none, ↓zb_pre, ↓zb2_pre, ↓zc_pre, ↓zex_eq, ↓reduceIte, Option.isSome_some, Option.isSome_none, Option.getD_some, n32_lit, o8, r2, oh, e1, nz, r0, ER, oo, R1, i1]
    · have := I1 q (by omega) (by omega)
      exact ⟨by rw [s1], this.1, this.2, by rw [R1]⟩
    · have := I1 q (by omega) (by omega)
      exact ⟨by rw [s1], this.1, this.2, by rw [R1]⟩
    · have G := m_gs hM.1 true true true (show n32 1 = bi true from rfl) (show n32 1 = bi true from rfl) (show n32 1 = bi true from rfl)
      have sg : s_goes true true true = n32 0 := rfl
      rw [sg] at G
      have e3 := hM.2.2.1
      have T := zM_thr hM (n32 0)
      generalize hσ3 : z_sA σ2 (b + 118) (gu (z_I σ2 (b + 118)) 4 (n32 0)) = σ3 at G T
      obtain ⟨⟨tm, tg, ts, tsv, tlg, ttx⟩, TF, Tt⟩ := T
      have mk : n32 (k + 1) - n32 1 = n32 k := n32_sub (by omega)
      generalize hσ4 : z_sA σ3 (b + 118) (gu (z_I σ3 (b + 118)) 3 (n32 k)) = σ4
      have tm4 : zMs σ4 (b + 118) := by rw [← hσ4]; exact tm
      have q4 : ∀ q, q ≠ b + 118 → z_I σ4 q = z_I σ3 q := fun q hq => by rw [← hσ4]; exact z_I_sAn _ _ _ hq
      have q40 : z_I σ4 (b + 118) = gu (z_I σ3 (b + 118)) 3 (n32 k) := by rw [← hσ4, z_I_sA]
      have F4 : zFM b σ3 σ4 := by rw [← hσ4]; exact zFM_sA _ (by omega) (by omega) _
      have p34 : z_pI σ3 (b + 118) 3 (n32 k) = σ4 := by rw [z_pI_eq]; exact hσ4
      have m1 := tm4
      have f1 : b + 118 + 1 = b + 119 := rfl
      have f2 : b + 118 + 2 = b + 120 := rfl
      unfold zMs at m1
      rw [f1, f2] at m1
      have LP : f_X10_undo_35 (b + 118) σ4 (n32 0) = some (n32 k, z_sA σ4 (b + 119) (s_cp (gs k) g 942)) := by
        unfold f_X10_undo_35
        have g4 : z_I σ4 (b + 119) = g := by rw [q4 _ (by omega)]; exact tg
        have e0 : (σ4, n32 0) = ((fun j => (z_sA σ4 (b + 119) (s_cp (gs k) g j), n32 j)) 0 : zSt × Int32) := by
          simp only [s_cp0, ← g4, z_sA_id]
        rw [e0]
        refine zloop_go (N := zN) (fun j => (z_sA σ4 (b + 119) (s_cp (gs k) g j), n32 j)) _ 942 (fun j hj => ?_) ?_ (by unfold zN; omega)
        · show b_X10_undo_35 (b + 118) (z_sA σ4 (b + 119) (s_cp (gs k) g j)) (n32 j) = some (.inl (z_sA σ4 (b + 119) (s_cp (gs k) g (j + 1)), n32 (j + 1)))
          have i3 : z_I (z_sA σ4 (b + 119) (s_cp (gs k) g j)) (b + 118) 3 = n32 k := by rw [z_I_sAn _ _ _ (by omega), q40, gu_same]
          have i2 : z_I (z_sA σ4 (b + 119) (s_cp (gs k) g j)) (b + 120) (942 * k + j) = gs k j := by rw [z_I_sAn _ _ _ (by omega), q4 _ (by omega)]; exact tsv k j (by omega) hj
          have hkk : 942 * k + j < 3768 := by omega
          rw [← s_cp_step]
          simp (disch := omega) only [b_X10_undo_35, ↓zl_eq, ↓zb_eq, ↓zb2_eq, ↓zc_some, ↓zc_none, ↓zb_pre, ↓zb2_pre, ↓zc_pre, ↓zex_eq, ↓reduceIte, Option.isSome_some, Option.isSome_none, Option.getD_some, n32_lit, n32_le, z_ob_sA, z_R_sA, z_ar_sA, z_ln_sA, m1.1, m1.2.1, m1.2.2.1, m1.2.2.2.2.2.1, m1.2.2.2.2.2.2.1, m1.2.2.2.2.2.2.2.2.2.1, m1.2.2.2.2.2.2.2.2.2.2.1, i3, n32_mul, n32_add, n32_ix, n32_toNat, i2, z_pI_eq, z_I_sA, z_sA_sA]
          rw [if_neg (by omega)]
        · show b_X10_undo_35 (b + 118) (z_sA σ4 (b + 119) (s_cp (gs k) g 942)) (n32 942) = _
          have i3 : z_I (z_sA σ4 (b + 119) (s_cp (gs k) g 942)) (b + 118) 3 = n32 k := by rw [z_I_sAn _ _ _ (by omega), q40, gu_same]
          simp (disch := omega) only [b_X10_undo_35, ↓zl_eq, ↓zb_eq, ↓zb2_eq, ↓zc_some, ↓zc_none, ↓zb_pre, ↓zb2_pre, ↓zc_pre, ↓zex_eq, ↓reduceIte, Option.isSome_some, Option.isSome_none, Option.getD_some, n32_lit, n32_le, Nat.le_refl, z_ob_sA, m1.1, i3]
      have e33 : z_I σ3 (b + 118) 3 = n32 (k + 1) := ts
      refine ⟨z_sA σ4 (b + 119) (s_cp (gs k) g 942), ?_, ⟨tm4, z_I_sA _ _ _, ?_, fun i j hi hj => ?_, ?_, fun j hj => ?_⟩, zFM_t TF (zFM_t F4 (zFM_sA _ (by omega) (by omega) _)), ?_⟩
      · have nl : ¬ (k + 1 ≤ 0) := by omega
        simp (disch := omega) only [f_X10_undo, f_X10_undo_13, ↓zl_eq, ↓zb_eq, ↓zb2_eq, ↓zc_some, ↓zc_none, ↓zb_pre, ↓zb2_pre, ↓zc_pre, ↓zex_eq, ↓reduceIte, Option.isSome_some, Option.isSome_none, Option.getD_some, n32_lit, hM.1.1, e3, n32_le, if_neg nl, G, Bool.and_self, bt0', tm.1, e33, mk, p34, LP]
      · rw [z_I_sAn _ _ _ (by omega), q40, gu_same]
      · rw [z_I_sAn _ _ _ (by omega), q4 _ (by omega)]; exact tsv i j (by omega) hj
      · rw [z_I_sAn _ _ _ (by omega), q40, gu_ne _ _ (by omega)]; exact tlg
      · rw [z_I_sAn _ _ _ (by omega), q4 _ (by omega)]; exact ttx j hj
      · rw [z_I_sAn _ _ _ (by omega), q40, gu_ne _ _ (by omega)]; exact Tt
end TOP
end
section
/-! THE DIGEST -/
def s_hs (F : Nat → Int64) (h : Int64) : Nat → Int64
  | 0 => h
  | k + 1 => 31 * s_hs F h k + F k
def s_hst (g : zG) (qu : Nat → Nat → Nat) (x : Nat) (h : Int64) : Int64 := s_hs (fun j => (n32 (qu x j)).toInt64) (s_hs (fun w => (s_stv g x w (s_nat g 5)).toInt64) (31 * h + (n32 x).toInt64) 7) (s_len g x)
def s_hlog (g : zG) (h : Int64) : Int64 := s_hs (fun k => (g (782 + k)).toInt64) (31 * h + (g 7).toInt64) (4 * s_nat g 7)
def s_hcnt (g : zG) (h : Int64) : Int64 := s_hlog g (31 * s_hs (fun w => (g (9 + w)).toInt64) h 7 + (g 8).toInt64)
def s_hmes (g : zG) (h : Int64) : Int64 := s_hcnt g (s_hs (fun k => (g (242 + k)).toInt64) h (5 * s_nat g 5))
def s_hall (g : zG) (qu : Nat → Nat → Nat) (h : Int64) : Int64 := s_hmes g (s_fA (s_is g) (s_hst g qu) (s_hs (fun w => (s_set g w).toInt64) h 9) 32)
section CLASS
variable {σ : zSt} {a n : Nat} {pl ad : Nat → Nat} {qu : Nat → Nat → Nat} {g : zG}
theorem c_withLog (h : zC0 σ a pl ad qu n g) (hG : qG σ a g) {mv : Nat} (hmv : mv ≤ 2000000000) (h9 : g 9 = n32 mv) (h7 : g 7 = n32 (min mv 40)) (H : Int64) : f_X2_withLog σ a H = some (s_hlog g H) := by
  have o1 := h.1.1
  have LL := c_logLength h (by omega) h9 h7
  have n7 : s_nat g 7 = min mv 40 := s_nat_n32 h7 (by omega)
  unfold s_hlog
  rw [n7]
  simp only [f_X2_withLog, f_X9_mixed, ↓zl_eq, ↓zb_eq, ↓zb2_eq, ↓zc_some, ↓zc_none, ↓zb_pre, ↓zb2_pre, ↓zc_pre, ↓zex_eq, ↓reduceIte, Option.isSome_some, Option.isSome_none, Option.getD_some, o1, LL]
  rw [h7]
  generalize (31 * H + (n32 (min mv 40)).toInt64) = H1
  unfold f_X2_withLog_16
  refine zloop_go (N := zN) (fun i => (s_hs (fun k => (g (782 + k)).toInt64) H1 (4 * i), n32 i)) _ (min mv 40) (fun i hi => ?_) ?_ (by unfold zN; omega)
  · show b_X2_withLog_16 σ a (n32 (min mv 40)) (s_hs (fun k => (g (782 + k)).toInt64) H1 (4 * i)) (n32 i) = some (.inl (s_hs (fun k => (g (782 + k)).toInt64) H1 (4 * (i + 1)), n32 (i + 1)))
    unfold b_X2_withLog_16
    rw [if_neg (by rw [n32_le (by omega) (by omega)]; omega)]
    unfold f_X2_withLog_25
    refine zloop_go (N := zN) (fun w => (s_hs (fun k => (g (782 + k)).toInt64) H1 (4 * i + w), n32 w)) _ 4 (fun w hw => ?_) ?_ (by unfold zN; omega)
    · show b_X2_withLog_25 σ a (n32 (min mv 40)) (n32 i) (s_hs (fun k => (g (782 + k)).toInt64) H1 (4 * i + w)) (n32 w) = some (.inl (31 * s_hs (fun k => (g (782 + k)).toInt64) H1 (4 * i + w) + (g (782 + (4 * i + w))).toInt64, n32 (w + 1)))
      have V := c_logValue h hG hmv h9 h7 hi hw
      rw [← Nat.add_assoc]
      simp (disch := omega) only [b_X2_withLog_25, f_X9_mixed, ↓zl_eq, ↓zb_eq, ↓zb2_eq, ↓zc_some, ↓zc_none, ↓zb_pre, ↓zb2_pre, ↓zc_pre, ↓zex_eq, ↓reduceIte, Option.isSome_some, Option.isSome_none, Option.getD_some, n32_lit, n32_le, o1, V, n32_add]
      rw [if_neg (by omega)]
    · show b_X2_withLog_25 σ a (n32 (min mv 40)) (n32 i) (s_hs (fun k => (g (782 + k)).toInt64) H1 (4 * i + 4)) (n32 4) = _
      simp (disch := omega) only [b_X2_withLog_25, ↓zl_eq, ↓zb_eq, ↓zb2_eq, ↓zc_some, ↓zc_none, ↓zb_pre, ↓zb2_pre, ↓zc_pre, ↓zex_eq, ↓reduceIte, Option.isSome_some, Option.isSome_none, Option.getD_some, n32_lit, n32_le, Nat.le_refl, n32_add, Nat.mul_succ]
  · show b_X2_withLog_16 σ a (n32 (min mv 40)) (s_hs (fun k => (g (782 + k)).toInt64) H1 (4 * min mv 40)) (n32 (min mv 40)) = _
    unfold b_X2_withLog_16
    rw [if_pos (by rw [n32_le (by omega) (by omega)]; omega)]
    rfl
theorem c_h116 (h : zC0 σ a pl ad qu n g) (hG : qG σ a g) {mv : Nat} (hmv : mv ≤ 2000000000) (h9 : g 9 = n32 mv) (h7 : g 7 = n32 (min mv 40)) (H : Int64) : f_X2_hashed_116 σ a H (n32 0) = some (s_hcnt g H) := by
  have o1 := h.1.1
  have r3 := h.1.2.2.2.2.1
  have o8 := h.1.2.2.2.2.2.2.2.2.2.2.2.2.2.2.2.2.2.2.2.2.2.1
  have c7 : z_I σ (a + 8) 7 = g 8 := h.2.2.2.2.2.2.1.2.1
  unfold s_hcnt
  have WL := c_withLog h hG hmv h9 h7 (31 * s_hs (fun w => (g (9 + w)).toInt64) H 7 + (g 8).toInt64)
  unfold f_X2_hashed_116
  refine zloop_go (N := zN) (fun w => (s_hs (fun w => (g (9 + w)).toInt64) H w, n32 w)) _ 7 (fun w hw => ?_) ?_ (by unfold zN; omega)
  · show b_X2_hashed_116 σ a (s_hs (fun w => (g (9 + w)).toInt64) H w) (n32 w) = some (.inl (31 * s_hs (fun w => (g (9 + w)).toInt64) H w + (g (9 + w)).toInt64, n32 (w + 1)))
    have V := c_value0 h hw
    simp (disch := omega) only [b_X2_hashed_116, f_X9_mixed, ↓zl_eq, ↓zb_eq, ↓zb2_eq, ↓zc_some, ↓zc_none, ↓zb_pre, ↓zb2_pre, ↓zc_pre, ↓zex_eq, ↓reduceIte, Option.isSome_some, Option.isSome_none, Option.getD_some, n32_lit, n32_lt, o1, r3, o8, V, n32_add]
    rw [if_neg (by omega)]
  · show b_X2_hashed_116 σ a (s_hs (fun w => (g (9 + w)).toInt64) H 7) (n32 7) = _
    simp (disch := omega) only [b_X2_hashed_116, f_X9_mixed, ↓zl_eq, ↓zb_eq, ↓zb2_eq, ↓zc_some, ↓zc_none, ↓zb_pre, ↓zb2_pre, ↓zc_pre, ↓zex_eq, ↓reduceIte, Option.isSome_some, Option.isSome_none, Option.getD_some, n32_lit, n32_lt, o1, r3, o8, c7, WL]
    rw [if_pos (by omega)]
theorem c_h63 (h : zC0 σ a pl ad qu n g) (hG : qG σ a g) (h5 : s_nat g 5 ≤ 100) (h52 : g 5 = n32 (s_nat g 5)) {mv : Nat} (hmv : mv ≤ 2000000000) (h9 : g 9 = n32 mv) (h7 : g 7 = n32 (min mv 40)) (H : Int64) : f_X2_hashed_63 σ a H (n32 0) = some (s_hmes g H) := by
  have o1 := h.1.1
  have r1 := h.1.2.2.1
  have o3 := h.1.2.2.2.2.2.2.2.2.1
  have eM : z_I σ (a + 2) 1 = n32 (s_nat g 5) := h.2.2.2.2.1.1.trans h52
  unfold s_hmes
  have W := c_h116 h hG hmv h9 h7 (s_hs (fun k => (g (242 + k)).toInt64) H (5 * s_nat g 5))
  unfold f_X2_hashed_63
  refine zloop_go (N := zN) (fun m => (s_hs (fun k => (g (242 + k)).toInt64) H (5 * m), n32 m)) _ (s_nat g 5) (fun m hm => ?_) ?_ (by unfold zN; omega)
  · show b_X2_hashed_63 σ a (s_hs (fun k => (g (242 + k)).toInt64) H (5 * m)) (n32 m) = some (.inl (s_hs (fun k => (g (242 + k)).toInt64) H (5 * (m + 1)), n32 (m + 1)))
    have I : f_X2_hashed_78 σ a (n32 m) (s_hs (fun k => (g (242 + k)).toInt64) H (5 * m)) (n32 0) = some (.inl (s_hs (fun k => (g (242 + k)).toInt64) H (5 * (m + 1)), n32 (m + 1))) := by
      unfold f_X2_hashed_78
      refine zloop_go (N := zN) (fun w => (s_hs (fun k => (g (242 + k)).toInt64) H (5 * m + w), n32 w)) _ 5 (fun w hw => ?_) ?_ (by unfold zN; omega)
      · show b_X2_hashed_78 σ a (n32 m) (s_hs (fun k => (g (242 + k)).toInt64) H (5 * m + w)) (n32 w) = some (.inl (31 * s_hs (fun k => (g (242 + k)).toInt64) H (5 * m + w) + (g (242 + (5 * m + w))).toInt64, n32 (w + 1)))
        have V := c_value h.1 h.2.2.2.1.1 (m := m) (w := w) (by omega) (by omega)
        rw [h.2.2.2.2.1.2 m w hm hw] at V
        rw [← Nat.add_assoc]
        simp (disch := omega) only [b_X2_hashed_78, f_X9_mixed, ↓zl_eq, ↓zb_eq, ↓zb2_eq, ↓zc_some, ↓zc_none, ↓zb_pre, ↓zb2_pre, ↓zc_pre, ↓zex_eq, ↓reduceIte, Option.isSome_some, Option.isSome_none, Option.getD_some, n32_lit, n32_lt, o1, r1, o3, V, n32_add]
        rw [if_neg (by omega)]
      · show b_X2_hashed_78 σ a (n32 m) (s_hs (fun k => (g (242 + k)).toInt64) H (5 * m + 5)) (n32 5) = _
        simp (disch := omega) only [b_X2_hashed_78, ↓zl_eq, ↓zb_eq, ↓zb2_eq, ↓zc_some, ↓zc_none, ↓zb_pre, ↓zb2_pre, ↓zc_pre, ↓zex_eq, ↓reduceIte, Option.isSome_some, Option.isSome_none, Option.getD_some, n32_lit, n32_lt, n32_add, Nat.mul_succ]
        rw [if_pos (by omega)]
    simp (disch := omega) only [b_X2_hashed_63, f_X3_number, ↓zl_eq, ↓zb_eq, ↓zb2_eq, ↓zc_some, ↓zc_none, ↓zb_pre, ↓zb2_pre, ↓zc_pre, ↓zex_eq, ↓reduceIte, Option.isSome_some, Option.isSome_none, Option.getD_some, n32_lit, n32_le, o1, r1, o3, eM, I]
    rw [if_neg (by omega)]
  · show b_X2_hashed_63 σ a (s_hs (fun k => (g (242 + k)).toInt64) H (5 * s_nat g 5)) (n32 (s_nat g 5)) = _
    simp (disch := omega) only [b_X2_hashed_63, f_X3_number, ↓zl_eq, ↓zb_eq, ↓zb2_eq, ↓zc_some, ↓zc_none, ↓zb_pre, ↓zb2_pre, ↓zc_pre, ↓zex_eq, ↓reduceIte, Option.isSome_some, Option.isSome_none, Option.getD_some, n32_lit, n32_le, Nat.le_refl, o1, r1, o3, eM, W]
theorem c_withStation (h : zCs σ a pl ad qu n g) (h5 : s_nat g 5 ≤ 100) {i : Nat} (hi : i < n) (H : Int64) : f_X2_withStation σ a H (some (pl i)) = some (s_hst g qu (ad i) H) := by
  have h0 := zC0_of h
  have ob := c_ob h0 hi
  have e0 := (c_S h0 hi).1
  obtain ⟨q6, q5, q3, qk⟩ := c_Q h0 hi
  have o1 := h.1.1
  have r1 := h.1.2.2.1
  have o3 := h.1.2.2.2.2.2.2.2.2.1
  have hlen := s_len_le g (ad i)
  have hai := (c_ad h0 hi).1
  have L56 : ∀ H1, f_X2_withStation_56 σ a (pl i) H1 (s_fol (qu (ad i)) (s_len g (ad i)) 0) (n32 0) = some (s_hs (fun j => (n32 (qu (ad i) j)).toInt64) H1 (s_len g (ad i))) := by
    intro H1
    unfold f_X2_withStation_56
    refine zloop_go (N := zN) (fun j => (s_hs (fun j => (n32 (qu (ad i) j)).toInt64) H1 j, s_fol (qu (ad i)) (s_len g (ad i)) j, n32 j)) _ (s_len g (ad i)) (fun j hj => ?_) ?_ (by unfold zN; omega)
    · show b_X2_withStation_56 σ a (pl i) (s_hs (fun j => (n32 (qu (ad i) j)).toInt64) H1 j) (s_fol (qu (ad i)) (s_len g (ad i)) j) (n32 j) = some (.inl (31 * s_hs (fun j => (n32 (qu (ad i) j)).toInt64) H1 j + (n32 (qu (ad i) j)).toInt64, s_fol (qu (ad i)) (s_len g (ad i)) (j + 1), n32 (j + 1)))
      have ef : s_fol (qu (ad i)) (s_len g (ad i)) j = n32 (qu (ad i) j) := if_pos hj
      have hq := (qk.1 j hj).1
      have Fo := c_follower h.1 h0.2.2.2.1.1 (m := qu (ad i) j) (by omega)
      rw [q3 j hj] at Fo
      have Fo2 : f_X3_follower σ (a + 2) (n32 (qu (ad i) j)) = some (s_fol (qu (ad i)) (s_len g (ad i)) (j + 1)) := Fo
      rw [ef]
      simp (disch := omega) only [b_X2_withStation_56, f_X9_mixed, ↓zl_eq, ↓zb_eq, ↓zb2_eq, ↓zc_some, ↓zc_none, ↓zb_pre, ↓zb2_pre, ↓zc_pre, ↓zex_eq, ↓reduceIte, Option.isSome_some, Option.isSome_none, Option.getD_some, n32_lit, n32_le, ob, q6, o1, r1, o3, Fo2, n32_add]
      rw [if_neg (by omega)]
    · show b_X2_withStation_56 σ a (pl i) (s_hs (fun j => (n32 (qu (ad i) j)).toInt64) H1 (s_len g (ad i))) (s_fol (qu (ad i)) (s_len g (ad i)) (s_len g (ad i))) (n32 (s_len g (ad i))) = _
      simp (disch := omega) only [b_X2_withStation_56, ↓zl_eq, ↓zb_eq, ↓zb2_eq, ↓zc_some, ↓zc_none, ↓zb_pre, ↓zb2_pre, ↓zc_pre, ↓zex_eq, ↓reduceIte, Option.isSome_some, Option.isSome_none, Option.getD_some, n32_le, Nat.le_refl, ob, q6]
  have L20 : ∀ H1, f_X2_withStation_20 σ a (pl i) H1 (n32 0) = some (s_hs (fun j => (n32 (qu (ad i) j)).toInt64) (s_hs (fun w => (s_stv g (ad i) w (s_nat g 5)).toInt64) H1 7) (s_len g (ad i))) := by
    intro H1
    unfold f_X2_withStation_20
    refine zloop_go (N := zN) (fun w => (s_hs (fun w => (s_stv g (ad i) w (s_nat g 5)).toInt64) H1 w, n32 w)) _ 7 (fun w hw => ?_) ?_ (by unfold zN; omega)
    · show b_X2_withStation_20 σ a (pl i) (s_hs (fun w => (s_stv g (ad i) w (s_nat g 5)).toInt64) H1 w) (n32 w) = some (.inl (31 * s_hs (fun w => (s_stv g (ad i) w (s_nat g 5)).toInt64) H1 w + (s_stv g (ad i) w (s_nat g 5)).toInt64, n32 (w + 1)))
      have V := c_value6 h hi hw
      simp (disch := omega) only [b_X2_withStation_20, f_X9_mixed, ↓zl_eq, ↓zb_eq, ↓zb2_eq, ↓zc_some, ↓zc_none, ↓zb_pre, ↓zb2_pre, ↓zc_pre, ↓zex_eq, ↓reduceIte, Option.isSome_some, Option.isSome_none, Option.getD_some, n32_lit, n32_lt, ob, V, n32_add]
      rw [if_neg (by omega)]
    · show b_X2_withStation_20 σ a (pl i) (s_hs (fun w => (s_stv g (ad i) w (s_nat g 5)).toInt64) H1 7) (n32 7) = _
      have q5' : z_I σ (pl i) 5 = s_fol (qu (ad i)) (s_len g (ad i)) 0 := q5
      simp (disch := omega) only [b_X2_withStation_20, ↓zl_eq, ↓zb_eq, ↓zb2_eq, ↓zc_some, ↓zc_none, ↓zb_pre, ↓zb2_pre, ↓zc_pre, ↓zex_eq, ↓reduceIte, Option.isSome_some, Option.isSome_none, Option.getD_some, n32_lit, n32_lt, ob, q5', L56]
      rw [if_pos (by omega)]
  unfold s_hst
  simp only [f_X2_withStation, f_X9_mixed, ↓zl_eq, ↓zb_eq, ↓zb2_eq, ↓zc_some, ↓zc_none, ↓zb_pre, ↓zb2_pre, ↓zc_pre, ↓zex_eq, ↓reduceIte, Option.isSome_some, Option.isSome_none, Option.getD_some, n32_lit, ob, e0, L20]
theorem c_hashed (h : zCs σ a pl ad qu n g) (hG : qG σ a g) (h5 : s_nat g 5 ≤ 100) (h52 : g 5 = n32 (s_nat g 5)) {mv : Nat} (hmv : mv ≤ 2000000000) (h9 : g 9 = n32 mv) (h7 : g 7 = n32 (min mv 40)) (H : Int64) : f_X2_hashed σ a H = some (s_hall g qu H) := by
  have h0 := zC0_of h
  have hn := c_n8 h0
  have o1 := h.1.1
  have e5 := (c_L h0).1
  unfold s_hall
  rw [s_fold_A (c_qA h0)]
  have L33 : ∀ H1, f_X2_hashed_33 σ a H1 (n32 0) = some (s_hmes g (s_fI ad (s_hst g qu) H1 n)) := by
    intro H1
    have W := c_h63 h0 hG h5 h52 hmv h9 h7 (s_fI ad (s_hst g qu) H1 n)
    unfold f_X2_hashed_33
    refine zloop_go (N := zN) (fun i => (s_fI ad (s_hst g qu) H1 i, n32 i)) _ n (fun i hi => ?_) ?_ (by unfold zN; omega)
    · show b_X2_hashed_33 σ a (s_fI ad (s_hst g qu) H1 i) (n32 i) = some (.inl (s_hst g qu (ad i) (s_fI ad (s_hst g qu) H1 i), n32 (i + 1)))
      have F := c_in h0 hi
      have V := c_withStation h h5 hi (s_fI ad (s_hst g qu) H1 i)
      simp (disch := omega) only [b_X2_hashed_33, ↓zl_eq, ↓zb_eq, ↓zb2_eq, ↓zc_some, ↓zc_none, ↓zb_pre, ↓zb2_pre, ↓zc_pre, ↓zex_eq, ↓reduceIte, Option.isSome_some, Option.isSome_none, Option.getD_some, n32_lit, n32_le, o1, e5, F, V, n32_add]
      rw [if_neg (by omega)]
    · show b_X2_hashed_33 σ a (s_fI ad (s_hst g qu) H1 n) (n32 n) = _
      simp (disch := omega) only [b_X2_hashed_33, ↓zl_eq, ↓zb_eq, ↓zb2_eq, ↓zc_some, ↓zc_none, ↓zb_pre, ↓zb2_pre, ↓zc_pre, ↓zex_eq, ↓reduceIte, Option.isSome_some, Option.isSome_none, Option.getD_some, n32_lit, n32_le, Nat.le_refl, o1, e5, W]
  unfold f_X2_hashed f_X2_hashed_5
  refine zloop_go (N := zN) (fun w => (s_hs (fun w => (s_set g w).toInt64) H w, n32 w)) _ 9 (fun w hw => ?_) ?_ (by unfold zN; omega)
  · show b_X2_hashed_5 σ a (s_hs (fun w => (s_set g w).toInt64) H w) (n32 w) = some (.inl (31 * s_hs (fun w => (s_set g w).toInt64) H w + (s_set g w).toInt64, n32 (w + 1)))
    have V := c_settingValue h hw
    simp (disch := omega) only [b_X2_hashed_5, f_X9_mixed, ↓zl_eq, ↓zb_eq, ↓zb2_eq, ↓zc_some, ↓zc_none, ↓zb_pre, ↓zb2_pre, ↓zc_pre, ↓zex_eq, ↓reduceIte, Option.isSome_some, Option.isSome_none, Option.getD_some, n32_lit, n32_lt, o1, V, n32_add]
    rw [if_neg (by omega)]
  · show b_X2_hashed_5 σ a (s_hs (fun w => (s_set g w).toInt64) H 9) (n32 9) = _
    simp (disch := omega) only [b_X2_hashed_5, ↓zl_eq, ↓zb_eq, ↓zb2_eq, ↓zc_some, ↓zc_none, ↓zb_pre, ↓zb2_pre, ↓zc_pre, ↓zex_eq, ↓reduceIte, Option.isSome_some, Option.isSome_none, Option.getD_some, n32_lit, n32_lt, L33]
    rw [if_pos (by omega)]
end CLASS
section MODEL
variable {σ : zSt} {M : Nat} {g : zG} {qu : Nat → Nat → Nat}
theorem m_h168 (hM : zMs σ M) (hg : z_I σ (M + 1) = g) {lg : Nat} (h7 : g 7 = n32 lg) (hlg : lg ≤ 40) {k : Nat} (h3 : z_I σ M 3 = n32 k) (H : Int64) : f_X10_digest_168 σ M H (n32 0) = some (31 * s_hs (fun k => (g (782 + k)).toInt64) H (4 * lg) + (n32 k).toInt64, σ) := by
  unfold f_X10_digest_168
  refine zloop_go (N := zN) (fun i => (s_hs (fun k => (g (782 + k)).toInt64) H i, n32 i)) _ (4 * lg) (fun i hi => ?_) ?_ (by unfold zN; omega)
  · show b_X10_digest_168 σ M (s_hs (fun k => (g (782 + k)).toInt64) H i) (n32 i) = some (.inl (31 * s_hs (fun k => (g (782 + k)).toInt64) H i + (g (782 + i)).toInt64, n32 (i + 1)))
    simp (disch := omega) only [b_X10_digest_168, f_X10_sums, ↓zl_eq, ↓zb_eq, ↓zb2_eq, ↓zc_some, ↓zc_none, ↓zb_pre, ↓zb2_pre, ↓zc_pre, ↓zex_eq, ↓reduceIte, Option.isSome_some, Option.isSome_none, Option.getD_some, n32_lit, hM.1, hM.2.1, hM.2.2.1, hM.2.2.2.1, hM.2.2.2.2.1, hM.2.2.2.2.2.1, hM.2.2.2.2.2.2.1, hM.2.2.2.2.2.2.2.1, hM.2.2.2.2.2.2.2.2.1, hM.2.2.2.2.2.2.2.2.2.1, hM.2.2.2.2.2.2.2.2.2.2.1, hM.2.2.2.2.2.2.2.2.2.2.2.1, hM.2.2.2.2.2.2.2.2.2.2.2.2, n32_add, n32_mul, n32_toNat, n32_ix, n32_le, hg, h7]
    rw [if_neg (by omega)]
  · show b_X10_digest_168 σ M (s_hs (fun k => (g (782 + k)).toInt64) H (4 * lg)) (n32 (4 * lg)) = _
    simp (disch := omega) only [b_X10_digest_168, f_X10_sums, ↓zl_eq, ↓zb_eq, ↓zb2_eq, ↓zc_some, ↓zc_none, ↓zb_pre, ↓zb2_pre, ↓zc_pre, ↓zex_eq, ↓reduceIte, Option.isSome_some, Option.isSome_none, Option.getD_some, n32_lit, hM.1, hM.2.1, hM.2.2.1, hM.2.2.2.1, hM.2.2.2.2.1, hM.2.2.2.2.2.1, hM.2.2.2.2.2.2.1, hM.2.2.2.2.2.2.2.1, hM.2.2.2.2.2.2.2.2.1, hM.2.2.2.2.2.2.2.2.2.1, hM.2.2.2.2.2.2.2.2.2.2.1, hM.2.2.2.2.2.2.2.2.2.2.2.1, hM.2.2.2.2.2.2.2.2.2.2.2.2, n32_mul, n32_toNat, n32_ix, n32_le, Nat.le_refl, hg, h7, h3]
theorem m_h115 (hM : zMs σ M) (hg : z_I σ (M + 1) = g) {lg : Nat} (h7 : g 7 = n32 lg) (hlg : lg ≤ 40) {k : Nat} (h3 : z_I σ M 3 = n32 k) (H : Int64) : f_X10_digest_115 σ M H (n32 0) = some (31 * s_hcnt g H + (n32 k).toInt64, σ) := by
  have n7 : s_nat g 7 = lg := s_nat_n32 h7 (by omega)
  have W := m_h168 hM hg h7 hlg h3 (31 * (31 * s_hs (fun w => (g (9 + w)).toInt64) H 7 + (g 8).toInt64) + (g 7).toInt64)
  unfold s_hcnt s_hlog
  rw [n7]
  unfold f_X10_digest_115
  refine zloop_go (N := zN) (fun w => (s_hs (fun w => (g (9 + w)).toInt64) H w, n32 w)) _ 7 (fun w hw => ?_) ?_ (by unfold zN; omega)
  · show b_X10_digest_115 σ M (s_hs (fun w => (g (9 + w)).toInt64) H w) (n32 w) = some (.inl (31 * s_hs (fun w => (g (9 + w)).toInt64) H w + (g (9 + w)).toInt64, n32 (w + 1)))
    simp (disch := omega) only [b_X10_digest_115, f_X10_sums, ↓zl_eq, ↓zb_eq, ↓zb2_eq, ↓zc_some, ↓zc_none, ↓zb_pre, ↓zb2_pre, ↓zc_pre, ↓zex_eq, ↓reduceIte, Option.isSome_some, Option.isSome_none, Option.getD_some, n32_lit, hM.1, hM.2.1, hM.2.2.1, hM.2.2.2.1, hM.2.2.2.2.1, hM.2.2.2.2.2.1, hM.2.2.2.2.2.2.1, hM.2.2.2.2.2.2.2.1, hM.2.2.2.2.2.2.2.2.1, hM.2.2.2.2.2.2.2.2.2.1, hM.2.2.2.2.2.2.2.2.2.2.1, hM.2.2.2.2.2.2.2.2.2.2.2.1, hM.2.2.2.2.2.2.2.2.2.2.2.2, n32_add, n32_toNat, n32_ix, n32_le, hg]
    rw [if_neg (by omega)]
  · show b_X10_digest_115 σ M (s_hs (fun w => (g (9 + w)).toInt64) H 7) (n32 7) = _
    simp (disch := omega) only [b_X10_digest_115, f_X10_sums, ↓zl_eq, ↓zb_eq, ↓zb2_eq, ↓zc_some, ↓zc_none, ↓zb_pre, ↓zb2_pre, ↓zc_pre, ↓zex_eq, ↓reduceIte, Option.isSome_some, Option.isSome_none, Option.getD_some, n32_lit, hM.1, hM.2.1, hM.2.2.1, hM.2.2.2.1, hM.2.2.2.2.1, hM.2.2.2.2.2.1, hM.2.2.2.2.2.2.1, hM.2.2.2.2.2.2.2.1, hM.2.2.2.2.2.2.2.2.1, hM.2.2.2.2.2.2.2.2.2.1, hM.2.2.2.2.2.2.2.2.2.2.1, hM.2.2.2.2.2.2.2.2.2.2.2.1, hM.2.2.2.2.2.2.2.2.2.2.2.2, n32_toNat, n32_ix, n32_le, Nat.le_refl, hg, W]
theorem m_h79 (hM : zMs σ M) (hg : z_I σ (M + 1) = g) (h5 : s_nat g 5 ≤ 100) (h52 : g 5 = n32 (s_nat g 5)) {lg : Nat} (h7 : g 7 = n32 lg) (hlg : lg ≤ 40) {k : Nat} (h3 : z_I σ M 3 = n32 k) (H : Int64) : f_X10_digest_79 σ M H (n32 0) = some (31 * s_hmes g H + (n32 k).toInt64, σ) := by
  unfold s_hmes
  have W := m_h115 hM hg h7 hlg h3 (s_hs (fun k => (g (242 + k)).toInt64) H (5 * s_nat g 5))
  unfold f_X10_digest_79
  have e52 : z_I σ (M + 1) 5 = n32 (s_nat g 5) := by rw [hg]; exact h52
  refine zloop_go (N := zN) (fun i => (s_hs (fun k => (g (242 + k)).toInt64) H i, n32 i)) _ (5 * s_nat g 5) (fun i hi => ?_) ?_ (by unfold zN; omega)
  · show b_X10_digest_79 σ M (s_hs (fun k => (g (242 + k)).toInt64) H i) (n32 i) = some (.inl (31 * s_hs (fun k => (g (242 + k)).toInt64) H i + (g (242 + i)).toInt64, n32 (i + 1)))
    simp (disch := omega) only [b_X10_digest_79, f_X10_sums, ↓zl_eq, ↓zb_eq, ↓zb2_eq, ↓zc_some, ↓zc_none, ↓zb_pre, ↓zb2_pre, ↓zc_pre, ↓zex_eq, ↓reduceIte, Option.isSome_some, Option.isSome_none, Option.getD_some, n32_lit, hM.1, hM.2.1, hM.2.2.1, hM.2.2.2.1, hM.2.2.2.2.1, hM.2.2.2.2.2.1, hM.2.2.2.2.2.2.1, hM.2.2.2.2.2.2.2.1, hM.2.2.2.2.2.2.2.2.1, hM.2.2.2.2.2.2.2.2.2.1, hM.2.2.2.2.2.2.2.2.2.2.1, hM.2.2.2.2.2.2.2.2.2.2.2.1, hM.2.2.2.2.2.2.2.2.2.2.2.2, n32_add, n32_mul, n32_toNat, n32_ix, n32_le, e52, hg]
    rw [if_neg (by omega)]
  · show b_X10_digest_79 σ M (s_hs (fun k => (g (242 + k)).toInt64) H (5 * s_nat g 5)) (n32 (5 * s_nat g 5)) = _
    simp (disch := omega) only [b_X10_digest_79, ↓zl_eq, ↓zb_eq, ↓zb2_eq, ↓zc_some, ↓zc_none, ↓zb_pre, ↓zb2_pre, ↓zc_pre, ↓zex_eq, ↓reduceIte, Option.isSome_some, Option.isSome_none, Option.getD_some, n32_lit, hM.1, hM.2.1, hM.2.2.1, hM.2.2.2.1, hM.2.2.2.2.1, hM.2.2.2.2.2.1, hM.2.2.2.2.2.2.1, hM.2.2.2.2.2.2.2.1, hM.2.2.2.2.2.2.2.2.1, hM.2.2.2.2.2.2.2.2.2.1, hM.2.2.2.2.2.2.2.2.2.2.1, hM.2.2.2.2.2.2.2.2.2.2.2.1, hM.2.2.2.2.2.2.2.2.2.2.2.2, n32_mul, n32_toNat, n32_ix, n32_le, Nat.le_refl, e52, W]
theorem m_withStation (hM : zMs σ M) (hg : z_I σ (M + 1) = g) (h5 : s_nat g 5 ≤ 100) (h52 : g 5 = n32 (s_nat g 5)) {x : Nat} (hx : x < 32) (qk : s_qok g x (qu x)) (H : Int64) : f_X10_withStation σ M H (n32 x) = some (s_hst g qu x H) := by
  have hlen := s_len_le g x
  have N0 := m_nextOf hM (n := s_nat g 5) (by rw [hg]; exact h52) h5 (n32 x) (b := nn) (Or.inl rfl)
  rw [hg, s_next0 qk h5] at N0
  have N0' : f_X10_nextOf σ M (n32 x) nn = some (s_fol (qu x) (s_len g x) 0) := N0
  have L47 : ∀ H1, f_X10_withStation_47 σ M (n32 x) H1 (s_fol (qu x) (s_len g x) 0) = some (s_hs (fun j => (n32 (qu x j)).toInt64) H1 (s_len g x)) := by
    intro H1
    unfold f_X10_withStation_47
    refine zloop_go (N := zN) (fun j => (s_hs (fun j => (n32 (qu x j)).toInt64) H1 j, s_fol (qu x) (s_len g x) j)) _ (s_len g x) (fun j hj => ?_) ?_ (by unfold zN; omega)
    · show b_X10_withStation_47 σ M (n32 x) (s_hs (fun j => (n32 (qu x j)).toInt64) H1 j) (s_fol (qu x) (s_len g x) j) = some (.inl (31 * s_hs (fun j => (n32 (qu x j)).toInt64) H1 j + (n32 (qu x j)).toInt64, s_fol (qu x) (s_len g x) (j + 1)))
      have ef : s_fol (qu x) (s_len g x) j = n32 (qu x j) := if_pos hj
      have hq := (qk.1 j hj).1
      have N1 := m_nextOf hM (n := s_nat g 5) (by rw [hg]; exact h52) h5 (n32 x) (b := n32 (qu x j)) (Or.inr ⟨_, by omega, rfl⟩)
      rw [hg, s_next1 qk h5 hj] at N1
      have N1' : f_X10_nextOf σ M (n32 x) (n32 (qu x j)) = some (s_fol (qu x) (s_len g x) (j + 1)) := N1
      have nq : (n32 (qu x j) = nn) = False := eq_false (s_nn_ne (by omega))
      rw [ef]
      simp only [b_X10_withStation_47, f_X10_sums, ↓zl_eq, ↓zb_eq, ↓zb2_eq, ↓zc_some, ↓zc_none, ↓zb_pre, ↓zb2_pre, ↓zc_pre, ↓zex_eq, ↓reduceIte, Option.isSome_some, Option.isSome_none, Option.getD_some, n32_lit, n32_nn2, nq, hM.1, N1']
    · show b_X10_withStation_47 σ M (n32 x) (s_hs (fun j => (n32 (qu x j)).toInt64) H1 (s_len g x)) (s_fol (qu x) (s_len g x) (s_len g x)) = _
      have ef : s_fol (qu x) (s_len g x) (s_len g x) = nn := if_neg (Nat.lt_irrefl _)
      rw [ef]
      simp only [b_X10_withStation_47, ↓zl_eq, ↓zb_eq, ↓zb2_eq, ↓zc_some, ↓zc_none, ↓zb_pre, ↓zb2_pre, ↓zc_pre, ↓zex_eq, ↓reduceIte, Option.isSome_some, Option.isSome_none, Option.getD_some, n32_lit, n32_nn2]
  have L11 : ∀ H1, f_X10_withStation_11 σ M (n32 x) H1 (n32 0) = some (s_hs (fun j => (n32 (qu x j)).toInt64) (s_hs (fun w => (s_stv g x w (s_nat g 5)).toInt64) H1 7) (s_len g x)) := by
    intro H1
    unfold f_X10_withStation_11
    refine zloop_go (N := zN) (fun w => (s_hs (fun w => (s_stv g x w (s_nat g 5)).toInt64) H1 w, n32 w)) _ 7 (fun w hw => ?_) ?_ (by unfold zN; omega)
    · show b_X10_withStation_11 σ M (n32 x) (s_hs (fun w => (s_stv g x w (s_nat g 5)).toInt64) H1 w) (n32 w) = some (.inl (31 * s_hs (fun w => (s_stv g x w (s_nat g 5)).toInt64) H1 w + (s_stv g x w (s_nat g 5)).toInt64, n32 (w + 1)))
      have V := m_stationOf hM (q := s_nat g 5) (by rw [hg]; exact h52) h5 hx hw
      rw [hg] at V
      simp (disch := omega) only [b_X10_withStation_11, f_X10_sums, ↓zl_eq, ↓zb_eq, ↓zb2_eq, ↓zc_some, ↓zc_none, ↓zb_pre, ↓zb2_pre, ↓zc_pre, ↓zex_eq, ↓reduceIte, Option.isSome_some, Option.isSome_none, Option.getD_some, n32_lit, n32_le, hM.1, V, n32_add]
      rw [if_neg (by omega)]
    · show b_X10_withStation_11 σ M (n32 x) (s_hs (fun w => (s_stv g x w (s_nat g 5)).toInt64) H1 7) (n32 7) = _
      simp (disch := omega) only [b_X10_withStation_11, ↓zl_eq, ↓zb_eq, ↓zb2_eq, ↓zc_some, ↓zc_none, ↓zb_pre, ↓zb2_pre, ↓zc_pre, ↓zex_eq, ↓reduceIte, Option.isSome_some, Option.isSome_none, Option.getD_some, n32_lit, n32_nn2, n32_le, Nat.le_refl, hM.1, N0', L47]
  unfold s_hst
  simp only [f_X10_withStation, f_X10_sums, ↓zl_eq, ↓zb_eq, ↓zb2_eq, ↓zc_some, ↓zc_none, ↓zb_pre, ↓zb2_pre, ↓zc_pre, ↓zex_eq, ↓reduceIte, Option.isSome_some, Option.isSome_none, Option.getD_some, n32_lit, L11]
theorem m_digest19 (hM : zMs σ M) (hg : z_I σ (M + 1) = g) (h5 : s_nat g 5 ≤ 100) (h52 : g 5 = n32 (s_nat g 5)) {lg : Nat} (h7 : g 7 = n32 lg) (hlg : lg ≤ 40) {k : Nat} (h3 : z_I σ M 3 = n32 k) (hq : ∀ x, x < 32 → s_is g x = true → s_qok g x (qu x)) (H : Int64) : f_X10_digest_19 σ M H (n32 0) = some (31 * s_hall g qu H + (n32 k).toInt64, σ) := by
  unfold s_hall
  have L44 : ∀ H1, f_X10_digest_44 σ M H1 (n32 0) = some (31 * s_hmes g (s_fA (s_is g) (s_hst g qu) H1 32) + (n32 k).toInt64, σ) := by
    intro H1
    have W := m_h79 hM hg h5 h52 h7 hlg h3 (s_fA (s_is g) (s_hst g qu) H1 32)
    unfold f_X10_digest_44
    refine zloop_go (N := zN) (fun x => (s_fA (s_is g) (s_hst g qu) H1 x, n32 x)) _ 32 (fun x hx => ?_) ?_ (by unfold zN; omega)
    · show b_X10_digest_44 σ M (s_fA (s_is g) (s_hst g qu) H1 x) (n32 x) = some (.inl (if s_is g x = true then s_hst g qu x (s_fA (s_is g) (s_hst g qu) H1 x) else s_fA (s_is g) (s_hst g qu) H1 x, n32 (x + 1)))
      have OF := m_of hM (x := x) (w := 0) hx (by decide)
      rw [hg] at OF
      by_cases hz : g (18 + 7 * x + 0) = n32 1
      · have his : s_is g x = true := by unfold s_is; rw [hz]; rfl
        have V := m_withStation (qu := qu) hM hg h5 h52 hx (hq x hx his) (s_fA (s_is g) (s_hst g qu) H1 x)
        rw [hz] at OF
        simp (disch := omega) only [b_X10_digest_44, f_X10_digest_70, ↓zl_eq, ↓zb_eq, ↓zb2_eq, ↓zc_some, ↓zc_none, ↓zb_pre, ↓zb2_pre, ↓zc_pre, ↓zex_eq, ↓reduceIte, Option.isSome_some, Option.isSome_none, Option.getD_some, n32_lit, n32_le, hM.1, OF, V, n32_add, his]
        rw [if_neg (by omega)]
      · have his : s_is g x = false := by unfold s_is; rw [decide_eq_false hz]
        simp (disch := omega) only [b_X10_digest_44, f_X10_digest_70, ↓zl_eq, ↓zb_eq, ↓zb2_eq, ↓zc_some, ↓zc_none, ↓zb_pre, ↓zb2_pre, ↓zc_pre, ↓zex_eq, ↓reduceIte, Option.isSome_some, Option.isSome_none, Option.getD_some, n32_lit, n32_le, hM.1, OF, if_neg hz, n32_add, his, Bool.false_eq_true]
        rw [if_neg (by omega)]
    · show b_X10_digest_44 σ M (s_fA (s_is g) (s_hst g qu) H1 32) (n32 32) = _
      simp (disch := omega) only [b_X10_digest_44, ↓zl_eq, ↓zb_eq, ↓zb2_eq, ↓zc_some, ↓zc_none, ↓zb_pre, ↓zb2_pre, ↓zc_pre, ↓zex_eq, ↓reduceIte, Option.isSome_some, Option.isSome_none, Option.getD_some, n32_lit, n32_le, Nat.le_refl, W]
  unfold f_X10_digest_19
  refine zloop_go (N := zN) (fun w => (s_hs (fun w => (s_set g w).toInt64) H w, n32 w)) _ 9 (fun w hw => ?_) ?_ (by unfold zN; omega)
  · show b_X10_digest_19 σ M (s_hs (fun w => (s_set g w).toInt64) H w) (n32 w) = some (.inl (31 * s_hs (fun w => (s_set g w).toInt64) H w + (s_set g w).toInt64, n32 (w + 1)))
    have V := m_settingOf hM hw
    rw [hg] at V
    simp (disch := omega) only [b_X10_digest_19, f_X10_sums, ↓zl_eq, ↓zb_eq, ↓zb2_eq, ↓zc_some, ↓zc_none, ↓zb_pre, ↓zb2_pre, ↓zc_pre, ↓zex_eq, ↓reduceIte, Option.isSome_some, Option.isSome_none, Option.getD_some, n32_lit, n32_le, hM.1, V, n32_add]
    rw [if_neg (by omega)]
  · show b_X10_digest_19 σ M (s_hs (fun w => (s_set g w).toInt64) H 9) (n32 9) = _
    simp (disch := omega) only [b_X10_digest_19, ↓zl_eq, ↓zb_eq, ↓zb2_eq, ↓zc_some, ↓zc_none, ↓zb_pre, ↓zb2_pre, ↓zc_pre, ↓zex_eq, ↓reduceIte, Option.isSome_some, Option.isSome_none, Option.getD_some, n32_lit, n32_le, Nat.le_refl, L44]
end MODEL
end
