/-! PHASE 2: numbers -/
def n32 (k : Nat) : Int32 := Int32.ofNat k
theorem n32_toInt {k : Nat} (h : k < 2147483648) : (n32 k).toInt = k := by
  unfold n32
  exact Int32.toInt_ofNat_of_lt (by simpa using h)
theorem n32_toNat {k : Nat} (h : k < 2147483648) : (n32 k).toNatClampNeg = k := by
  have := n32_toInt h
  unfold Int32.toNatClampNeg
  rw [this]
  rfl
theorem n32_add (a b : Nat) : n32 a + n32 b = n32 (a + b) := (Int32.ofNat_add a b).symm
theorem n32_mul (a b : Nat) : n32 a * n32 b = n32 (a * b) := (Int32.ofNat_mul a b).symm
theorem n32_lt {a b : Nat} (ha : a < 2147483648) (hb : b < 2147483648) : (n32 a < n32 b) ↔ a < b := by
  rw [Int32.lt_iff_toInt_lt, n32_toInt ha, n32_toInt hb]; omega
theorem n32_le {a b : Nat} (ha : a < 2147483648) (hb : b < 2147483648) : (n32 a ≤ n32 b) ↔ a ≤ b := by
  rw [Int32.le_iff_toInt_le, n32_toInt ha, n32_toInt hb]; omega
theorem n32_eq {a b : Nat} (ha : a < 2147483648) (hb : b < 2147483648) : (n32 a = n32 b) ↔ a = b := by
  rw [← Int32.toInt_inj, n32_toInt ha, n32_toInt hb]; omega
theorem n32_ix {k n : Nat} (h : k < n) (hk : k < 2147483648) : z_ix (n32 k) n = true := by
  unfold z_ix
  have e0 : (0 : Int32) = n32 0 := rfl
  have h1 : ¬ n32 k < 0 := by rw [e0, n32_lt hk (by omega)]; omega
  rw [n32_toNat hk]
  simp [h, h1]
theorem n32_sub {a b : Nat} (h : b ≤ a) : n32 a - n32 b = n32 (a - b) := by
  have e : n32 (a - b) + n32 b = n32 a := by rw [n32_add]; congr 1; omega
  rw [← e, Int32.add_sub_cancel]
/-- a number that is none below zero is one of ours -/
theorem n32_of {x : Int32} (h : ¬ x < 0) : x = n32 x.toNatClampNeg ∧ x.toNatClampNeg < 2147483648 := by
  have h1 : 0 ≤ x.toInt := by
    rw [Int32.lt_iff_toInt_lt] at h
    have e : (0 : Int32).toInt = 0 := rfl
    omega
  have h2 := Int32.toInt_lt x
  have h3 : x.toNatClampNeg < 2147483648 := by
    unfold Int32.toNatClampNeg; omega
  refine ⟨?_, h3⟩
  rw [← Int32.toInt_inj, n32_toInt h3]
  unfold Int32.toNatClampNeg
  omega
def bi (b : Bool) : Int32 := if b then 1 else 0
theorem bi_bl (b : Bool) : z_bl (bi b) = true := by cases b <;> rfl
theorem bi_0 (b : Bool) : (bi b = 0) ↔ b = false := by cases b <;> decide
/-! loops -/
section ZLOOP
variable {S R : Type}
/-- a loop that goes on while it holds an invariant that counts -/
theorem zloop_inv {body : S → Option (S ⊕ R)} {Inv : Nat → S → Prop} {Post : R → Prop} (n : Nat)
    (h : ∀ k s, k ≤ n → Inv k s → (∃ r, body s = some (.inr r) ∧ Post r) ∨ (k < n ∧ ∃ t, body s = some (.inl t) ∧ Inv (k + 1) t))
    {N : Nat} (hN : n < N) {s : S} (h0 : Inv 0 s) : ∃ r, zloop body N s = some r ∧ Post r := by
  have H : ∀ d k N s, d = n - k → k ≤ n → n - k < N → Inv k s → ∃ r, zloop body N s = some r ∧ Post r := by
    intro d
    induction d with
    | zero =>
      intro k N s hd hk hN hi
      obtain ⟨M, rfl⟩ : ∃ M, N = M + 1 := ⟨N - 1, by omega⟩
      rcases h k s hk hi with ⟨r, hr, hp⟩ | ⟨hlt, _⟩
      · exact ⟨r, by unfold zloop; rw [hr], hp⟩
      · omega
    | succ d ih =>
      intro k N s hd hk hN hi
      obtain ⟨M, rfl⟩ : ∃ M, N = M + 1 := ⟨N - 1, by omega⟩
      rcases h k s hk hi with ⟨r, hr, hp⟩ | ⟨hlt, t, ht, hi2⟩
      · exact ⟨r, by unfold zloop; rw [hr], hp⟩
      · obtain ⟨r, hr, hp⟩ := ih (k + 1) M t (by omega) hlt (by omega) hi2
        exact ⟨r, by unfold zloop; rw [ht]; exact hr, hp⟩
  exact H _ 0 N s rfl (by omega) (by omega) h0
/-- a loop that runs through known states -/
theorem zloop_go {body : S → Option (S ⊕ R)} (f : Nat → S) (r : R) (n : Nat)
    (h : ∀ k, k < n → body (f k) = some (.inl (f (k + 1)))) (hr : body (f n) = some (.inr r))
    {N : Nat} (hN : n < N) : zloop body N (f 0) = some r := by
  obtain ⟨r', h1, h2⟩ := zloop_inv (body := body) (Inv := fun k s => s = f k) (Post := fun x => x = r) n
    (fun k s hk hi => by
      subst hi
      by_cases hkn : k = n
      · subst hkn; exact Or.inl ⟨r, hr, rfl⟩
      · exact Or.inr ⟨by omega, f (k + 1), h k (by omega), rfl⟩) hN rfl
  rw [h1, h2]
end ZLOOP
/-! shapes behind writes -/
section ZS2
variable (σ : zSt) (q j : Nat)
theorem z_ob_pI (x : Int32) : z_ob (z_pI σ q j x) = z_ob σ := rfl
theorem z_ob_pJ (x : Int64) : z_ob (z_pJ σ q j x) = z_ob σ := rfl
theorem z_ob_pR (x : Option Nat) : z_ob (z_pR σ q j x) = z_ob σ := rfl
theorem z_ar_pI (x : Int32) : z_ar (z_pI σ q j x) = z_ar σ := rfl
theorem z_ar_pJ (x : Int64) : z_ar (z_pJ σ q j x) = z_ar σ := rfl
theorem z_ar_pR (x : Option Nat) : z_ar (z_pR σ q j x) = z_ar σ := rfl
theorem z_ln_pI (x : Int32) : z_ln (z_pI σ q j x) = z_ln σ := rfl
theorem z_ln_pJ (x : Int64) : z_ln (z_pJ σ q j x) = z_ln σ := rfl
theorem z_ln_pR (x : Option Nat) : z_ln (z_pR σ q j x) = z_ln σ := rfl
end ZS2
theorem zl_eq {α β : Type} (x : α) (k : α → Option β) : zl x k = k x := rfl
theorem zb_eq {α β : Type} (v : α) (k : α → Option β) : zb (some v) k = k v := rfl
theorem zb2_eq {α β : Type} (v : α) (s : zSt) (k : α → zSt → Option β) : zb2 (some (v, s)) k = k v s := rfl
theorem zc_some {β : Type} (v : Nat) (A : Option β) (B : Nat → Option β) : zc (some v) A B = B v := rfl
theorem zc_none {β : Type} (A : Option β) (B : Nat → Option β) : zc none A B = A := rfl
theorem zex_eq {α β : Type} (x : β) : (zex (some x) : Option (α ⊕ β)) = some (.inr x) := rfl
theorem zb_pre {α β : Type} [Inhabited α] (x : Option α) (k : α → Option β) : zb x k = if x.isSome = true then k (x.getD default) else none := by
  cases x <;> rfl
theorem zb2_pre {α β : Type} [Inhabited α] (x : Option (α × zSt)) (k : α → zSt → Option β) : zb2 x k = if x.isSome = true then k (x.getD default).1 (x.getD default).2 else none := by
  cases x <;> rfl
theorem zc_pre {β : Type} (x : Option Nat) (A : Option β) (B : Nat → Option β) : zc x A B = if x.isSome = true then B (x.getD 0) else A := by
  cases x <;> rfl
/-! the array of the reference as a whole -/
abbrev zG : Type := Nat → Int32
def gu (g : zG) (k : Nat) (v : Int32) : zG := fun j => if j = k then v else g j
def z_sA (σ : zSt) (A : Nat) (g : zG) : zSt := (σ.1, σ.2.1, fun a j => if a = A then g j else σ.2.2.1 a j, σ.2.2.2.1, σ.2.2.2.2)
theorem z_sA_id (σ : zSt) (A : Nat) : z_sA σ A (z_I σ A) = σ := by
  unfold z_sA z_I
  obtain ⟨a, b, c, d, e⟩ := σ
  congr 1; congr 1; congr 1
  funext x j
  show (if x = A then c A j else c x j) = c x j
  by_cases h : x = A
  · rw [if_pos h, h]
  · rw [if_neg h]
theorem z_sA_sA (σ : zSt) (A : Nat) (g g' : zG) : z_sA (z_sA σ A g) A g' = z_sA σ A g' := by
  unfold z_sA
  congr 1; congr 1; congr 1
  funext x j
  by_cases h : x = A
  · simp [h]
  · simp [h]
theorem z_pI_sA (σ : zSt) (A : Nat) (g : zG) (k : Nat) (v : Int32) : z_pI (z_sA σ A g) A k v = z_sA σ A (gu g k v) := by
  unfold z_sA z_pI z_u gu
  congr 1; congr 1; congr 1
  funext x j
  by_cases h : x = A
  · by_cases h2 : j = k <;> simp [h, h2]
  · simp [h]
section ZSA
variable (σ : zSt) (A : Nat) (g : zG)
theorem z_I_sA : z_I (z_sA σ A g) A = g := by funext j; simp [z_I, z_sA]
theorem z_I_sAn {q : Nat} (h : q ≠ A) : z_I (z_sA σ A g) q = z_I σ q := by funext j; simp [z_I, z_sA, h]
theorem z_J_sA : z_J (z_sA σ A g) = z_J σ := rfl
theorem z_R_sA : z_R (z_sA σ A g) = z_R σ := rfl
theorem z_sh_sA : z_sh (z_sA σ A g) = z_sh σ := rfl
theorem z_nx_sA : z_nx (z_sA σ A g) = z_nx σ := rfl
theorem z_ob_sA : z_ob (z_sA σ A g) = z_ob σ := rfl
theorem z_ar_sA : z_ar (z_sA σ A g) = z_ar σ := rfl
theorem z_ln_sA : z_ln (z_sA σ A g) = z_ln σ := rfl
theorem z_pI_eq (k : Nat) (v : Int32) : z_pI σ A k v = z_sA σ A (gu (z_I σ A) k v) := by
  rw [← z_pI_sA, z_sA_id]
end ZSA
theorem gu_same (g : zG) (k : Nat) (v : Int32) : gu g k v k = v := by simp [gu]
theorem gu_ne (g : zG) {k j : Nat} (v : Int32) (h : j ≠ k) : gu g k v j = g j := by simp [gu, h]
