/-! THE REFERENCE'S QUESTIONS: in, goes -/
section MODEL
variable {σ : zSt} {M : Nat}
/-- the row of what `goes` notes -/
def s_goes (a b c : Bool) : Int32 := if a = false then n32 1 else if b = false then n32 2 else if c = false then n32 3 else n32 0
end MODEL
