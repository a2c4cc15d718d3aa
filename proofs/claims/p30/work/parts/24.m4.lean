/-! a made token -/
def s_low (P : Nat → Bool) (h0 : Int32) : Nat → Int32
  | 0 => h0
  | k + 1 => if P (31 - k) = true then n32 (31 - k) else s_low P h0 k
def s_isOn (g : zG) (x : Nat) : Bool := decide (g (18 + 7 * x + 0) = n32 1) && decide (g (18 + 7 * x + 1) = n32 1)
def s_h1 (g : zG) : Int32 := s_low (s_isOn g) nn 32
def s_h2 (g : zG) : Int32 := s_low (s_ring g) (s_h1 g) 32
def s_dn (k : Nat) : Int32 := if k < 32 then n32 (31 - k) else n32 31 - n32 k
theorem s_low_rng (P : Nat → Bool) (h0 : Int32) (h : h0 = nn ∨ ∃ x, x < 32 ∧ h0 = n32 x) (k : Nat) : s_low P h0 k = nn ∨ ∃ x, x < 32 ∧ s_low P h0 k = n32 x := by
  induction k with
  | zero => exact h
  | succ k ih =>
    unfold s_low
    split
    · exact Or.inr ⟨31 - k, by omega, rfl⟩
    · exact ih
def s_tok (g : zG) (h : Nat) : zG :=
  let g1 := gu g 3 (g 3 + g 1 * n32 (6 + 2 * h))
  let g2 := if s_ring g h = true then g1 else gu (gu g1 (18 + 7 * h + 2) (n32 1)) (18 + 7 * h + 3) (n32 h)
  gu (gu g2 4 (n32 h)) 12 (g 12 + n32 1)
section MODEL
variable {σ : zSt} {M : Nat}
theorem n32_dn {k : Nat} (h : k < 32) : n32 (31 - k) + nn = s_dn (k + 1) := by
  unfold s_dn
  have e0 : nn = n32 0 - n32 1 := rfl
  by_cases h1 : k + 1 < 32
  · rw [if_pos h1]
    have e : n32 (31 - (k + 1)) + n32 1 = n32 (31 - k) := by rw [n32_add]; congr 1; omega
    rw [← e, Int32.add_assoc]
    have e2 : n32 1 + nn = n32 0 := rfl
    rw [e2, n32_add]; rfl
  · have : k = 31 := by omega
    subst this
    rfl
end MODEL
