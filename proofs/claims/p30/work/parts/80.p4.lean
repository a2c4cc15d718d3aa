/-! WHAT THE CALLS ANSWER: changes of the line -/
section TOP
variable {σ : zSt} {b k tl : Nat} {g : zG} {gs : Nat → zG} {tx : Nat → Int32} {B V : Nat}
theorem zLn_of {σ1 : zSt} {a n : Nat} {pl ad : Nat → Nat} {qu : Nat → Nat → Nat} (h : zC0 σ1 a pl ad qu n g) (hG : qG σ1 a g) : zLn σ1 a g := ⟨pl, ad, qu, n, h.1, h.2.1, h.2.2, hG⟩
theorem s_pk4 (hk : k ≤ 4) : s_pk k ≤ 4 := by unfold s_pk; split <;> omega
end TOP
