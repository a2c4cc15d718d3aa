/-! WHAT THE REFERENCE COMPUTES, as functions of its array -/
def s_any (P : Nat → Bool) : Nat → Bool
  | 0 => false
  | k + 1 => s_any P k || P k
def s_cnt (P : Nat → Bool) : Nat → Nat
  | 0 => 0
  | k + 1 => s_cnt P k + (if P k = true then 1 else 0)
theorem s_cnt_le (P : Nat → Bool) (k : Nat) : s_cnt P k ≤ k := by
  induction k with
  | zero => exact Nat.le_refl _
  | succ k ih => unfold s_cnt; split <;> omega
def s_loud (g : zG) (f t : Int32) : Bool := s_any (fun k => decide (g (742 + 2 * k) ≤ t) && decide (f ≤ g (742 + 2 * k + 1))) (g 6).toNatClampNeg
def s_ring (g : zG) (x : Nat) : Bool := decide (g (18 + 7 * x + 0) = n32 1) && decide (g (18 + 7 * x + 1) = n32 1) && decide (g (18 + 7 * x + 2) = n32 1)
def s_wt (g : zG) (x : Int32) (m : Nat) : Bool := decide (g (242 + 5 * m + 2) = x) && decide (g (242 + 5 * m + 4) = nn)
def s_bh (g : zG) (b : Int32) (m : Nat) : Bool := decide (b = nn) || decide (g (242 + 5 * m + 1) < g (242 + 5 * b.toNatClampNeg + 1)) || (decide (g (242 + 5 * m + 1) = g (242 + 5 * b.toNatClampNeg + 1)) && decide (b < n32 m))
def s_nx (g : zG) (x b : Int32) : Nat → Int32
  | 0 => nn
  | k + 1 => if (s_wt g x k && s_bh g b k && (decide (s_nx g x b k = nn) || decide (g (242 + 5 * (s_nx g x b k).toNatClampNeg + 1) < g (242 + 5 * k + 1)))) = true then n32 k else s_nx g x b k
theorem s_nx_rng (g : zG) (x b : Int32) (k : Nat) : s_nx g x b k = nn ∨ ∃ j, j < k ∧ s_nx g x b k = n32 j := by
  induction k with
  | zero => exact Or.inl rfl
  | succ k ih =>
    unfold s_nx
    split
    · exact Or.inr ⟨k, by omega, rfl⟩
    · rcases ih with h | ⟨j, h1, h2⟩
      · exact Or.inl h
      · exact Or.inr ⟨j, by omega, h2⟩
def s_next (g : zG) (x b : Int32) : Int32 := s_nx g x b (g 5).toNatClampNeg
def s_takes (g : zG) (t : Int32) : zG := gu (gu g 3 (g 3 + t)) 11 (g 11 + bi (s_loud g (g 3) (g 3 + t - n32 1)))
