/-! WHAT THE CALLS ANSWER: tools -/
theorem i64_lit (k : Nat) : (OfNat.ofNat k : Int64) = Int64.ofNat (OfNat.ofNat k) := rfl
theorem c_win1 (σ : zSt) {lo hi : Nat} {x : Int32} (h1 : lo < 2147483648) (h2 : hi < 2147483648) (h : (lo : Int) ≤ x.toInt ∧ x.toInt ≤ hi) : f_X9_isWithin σ x (n32 lo) (n32 hi) = some (bi true) := by
  rw [c_isWithin, n32_toInt h1, n32_toInt h2, decide_eq_true h]
theorem c_win0 (σ : zSt) {lo hi : Nat} {x : Int32} (h1 : lo < 2147483648) (h2 : hi < 2147483648) (h : ¬ ((lo : Int) ≤ x.toInt ∧ x.toInt ≤ hi)) : f_X9_isWithin σ x (n32 lo) (n32 hi) = some (bi false) := by
  rw [c_isWithin, n32_toInt h1, n32_toInt h2, decide_eq_false h]
theorem n32_m1 {n : Nat} (h : n < 2147483648) : (n32 n - n32 1).toInt = (n : Int) - 1 := by
  rcases n with _ | n
  · decide
  · rw [n32_sub (by omega), n32_toInt (by omega)]; omega
theorem c_winm (σ : zSt) {n : Nat} {x : Int32} (h : n < 2147483648) : f_X9_isWithin σ x (n32 0) (n32 n - n32 1) = some (bi (decide (0 ≤ x.toInt ∧ x.toInt < n))) := by
  rw [c_isWithin, n32_toInt (by omega), n32_m1 h]
  congr 2
  apply decide_eq_decide.2
  omega
section TOP
variable {σ : zSt} {b k tl : Nat} {g : zG} {gs : Nat → zG} {tx : Nat → Int32} {B V : Nat}
theorem zC_open (h : zC σ b g k gs tl tx) (hI : s_I g B V) : z_ob σ b 8 = true ∧ z_R σ b 0 = some (b + 1) ∧ z_ob σ (b + 1) 2 = true ∧ ∃ pl ad qu n, zCs σ (b + 1) pl ad qu n g ∧ qG σ (b + 1) g := by
  obtain ⟨t, ⟨pl, ad, qu, n, h1, h2, h3, h4⟩, _⟩ := h
  exact ⟨t.1, t.2.1, h1.1, pl, ad, qu, n, ⟨h1, h2, h3, s_I_6 hI, s_I_sta hI⟩, h4⟩
theorem c_findx {a n : Nat} {pl ad : Nat → Nat} {qu : Nat → Nat → Nat} (h : zCs σ a pl ad qu n g) {x : Int32} (hx : ¬ (0 ≤ x.toInt ∧ x.toInt ≤ 31)) : f_X2_stationWith σ a x = some none := by
  obtain ⟨hL, hP, ⟨hRL, hRW, hRM, hRN, hRC, hRA, hRS, hRQ⟩, _, _⟩ := h
  refine c_stationWith0 hL hP hRA.1 hRL.1 _ (fun i hi he => ?_)
  have h32 := (hRA.2.1 i hi).1
  rw [(hRS i hi).1] at he
  rw [← he, n32_toInt (by omega)] at hx
  omega
end TOP
