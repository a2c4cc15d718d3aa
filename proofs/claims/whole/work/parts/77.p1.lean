/-! WHAT THE CALLS ANSWER: tools -/
def zP (σ : zSt) (b : Nat) (g : zG) (k : Nat) (gs : Nat → zG) (tl : Nat) (tx : Nat → Int32) (B V : Nat) (fc : Option (Int32 × zSt)) (fm : zSt → Option (Int32 × zSt)) : Prop :=
  ∃ r v g' k' gs' tl' tx', zAC σ b fc r v g' k' gs' tl' tx' ∧ (∀ σ1, zM σ1 b g k gs tl tx → zAM σ1 b (fm σ1) r v g' k' gs' tl' tx') ∧ s_I g' B (V + 300) ∧ (∀ i, i < k' → s_I (gs' i) B (V + 300)) ∧ k' ≤ 4 ∧ tl' ≤ 120 ∧ ∀ j, j < tl' → ∃ c, c < 128 ∧ tx' j = n32 c
theorem i64_lit (k : Nat) : (OfNat.ofNat k : Int64) = Int64.ofNat (OfNat.ofNat k) := rfl
theorem c_win1 (σ : zSt) {lo hi : Nat} {x : Int32} (h1 : lo < 2147483648) (h2 : hi < 2147483648) (h : (lo : Int) ≤ x.toInt ∧ x.toInt ≤ hi) : f_X9_isWithin σ x (n32 lo) (n32 hi) = some (bi true) := by
  rw [c_isWithin, n32_toInt h1, n32_toInt h2, decide_eq_true h]
theorem c_win0 (σ : zSt) {lo hi : Nat} {x : Int32} (h1 : lo < 2147483648) (h2 : hi < 2147483648) (h : ¬ ((lo : Int) ≤ x.toInt ∧ x.toInt ≤ hi)) : f_X9_isWithin σ x (n32 lo) (n32 hi) = some (bi false) := by
  rw [c_isWithin, n32_toInt h1, n32_toInt h2, decide_eq_false h]
theorem m_win1 (σ : zSt) {lo hi : Nat} {x : Int32} (h1 : lo < 2147483648) (h2 : hi < 2147483648) (h : (lo : Int) ≤ x.toInt ∧ x.toInt ≤ hi) : f_X10_in σ x.toInt64 (Int64.ofNat lo) (Int64.ofNat hi) = some (bi true) := by
  rw [m_inN σ x h1 h2, decide_eq_true h]
theorem m_win0 (σ : zSt) {lo hi : Nat} {x : Int32} (h1 : lo < 2147483648) (h2 : hi < 2147483648) (h : ¬ ((lo : Int) ≤ x.toInt ∧ x.toInt ≤ hi)) : f_X10_in σ x.toInt64 (Int64.ofNat lo) (Int64.ofNat hi) = some (bi false) := by
  rw [m_inN σ x h1 h2, decide_eq_false h]
theorem n32_m1 {n : Nat} (h : n < 2147483648) : (n32 n - n32 1).toInt = (n : Int) - 1 := by
  rcases n with _ | n
  · decide
  · rw [n32_sub (by omega), n32_toInt (by omega)]; omega
theorem c_winm (σ : zSt) {n : Nat} {x : Int32} (h : n < 2147483648) : f_X9_isWithin σ x (n32 0) (n32 n - n32 1) = some (bi (decide (0 ≤ x.toInt ∧ x.toInt < n))) := by
  rw [c_isWithin, n32_toInt (by omega), n32_m1 h]
  congr 2
  apply decide_eq_decide.2
  omega
theorem m_winm (σ : zSt) {n : Nat} {x : Int32} (h : n < 2147483648) : f_X10_in σ x.toInt64 (Int64.ofNat 0) ((n32 n).toInt64 - Int64.ofNat 1) = some (bi (decide (0 ≤ x.toInt ∧ x.toInt < n))) := by
  have e : ((n32 n).toInt64 - Int64.ofNat 1).toInt = (n : Int) - 1 := by
    rw [Int64.toInt_sub, Int32.toInt_toInt64, n32_toInt h, Int64.toInt_ofNat_of_lt (by omega)]
    apply Int.bmod_eq_of_le <;> omega
  rw [m_in64]
  congr 2
  rw [← Bool.decide_and]
  apply decide_eq_decide.2
  rw [i64_ge (by omega), Int64.le_iff_toInt_le, e, Int32.toInt_toInt64]
  omega
section TOP
variable {σ : zSt} {b k tl : Nat} {g : zG} {gs : Nat → zG} {tx : Nat → Int32} {B V : Nat}
theorem zP_q (h : zW σ b g k gs tl tx B V) {fc : Option (Int32 × zSt)} {fm : zSt → Option (Int32 × zSt)} {r v : Int32} (hc : zAC σ b fc r v g k gs tl tx) (hm : ∀ σ1, zM σ1 b g k gs tl tx → zAM σ1 b (fm σ1) r v g k gs tl tx) : zP σ b g k gs tl tx B V fc fm :=
  ⟨r, v, g, k, gs, tl, tx, hc, hm, s_I_w h.2.2.1 (Nat.le_refl _) (by omega), fun i hi => s_I_w (h.2.2.2.1 i hi) (Nat.le_refl _) (by omega), h.2.2.2.2.1, h.2.2.2.2.2.1, h.2.2.2.2.2.2.1⟩
theorem zAM_q (h : zM σ b g k gs tl tx) {out : Option (Int32 × zSt)} {r v : Int32} (E : out = some (v, z_sA σ (b + 118) (gu (z_I σ (b + 118)) 4 r))) : zAM σ b out r v g k gs tl tx := by
  have := zM_thr h r
  exact ⟨_, E, this.1, this.2.1, this.2.2⟩
theorem zC_open (h : zC σ b g k gs tl tx) (hI : s_I g B V) : z_ob σ b 8 = true ∧ z_R σ b 0 = some (b + 1) ∧ z_ob σ (b + 1) 2 = true ∧ ∃ pl ad qu n, zCs σ (b + 1) pl ad qu n g ∧ qG σ (b + 1) g := by
  obtain ⟨t, ⟨pl, ad, qu, n, h1, h2, h3, h4⟩, _⟩ := h
  exact ⟨t.1, t.2.1, h1.1, pl, ad, qu, n, ⟨h1, h2, h3, s_I_6 hI, s_I_sta hI⟩, h4⟩
theorem m_gs (hM : zMs σ (b + 118)) {x y z : Int32} (a c d : Bool) (hx : x = bi a) (hy : y = bi c) (hz : z = bi d) : f_X10_goes σ (b + 118) x y z = some (bi (a && c && d), z_sA σ (b + 118) (gu (z_I σ (b + 118)) 4 (s_goes a c d))) := by
  rw [hx, hy, hz]; exact m_goes hM a c d
theorem c_findx {a n : Nat} {pl ad : Nat → Nat} {qu : Nat → Nat → Nat} (h : zCs σ a pl ad qu n g) {x : Int32} (hx : ¬ (0 ≤ x.toInt ∧ x.toInt ≤ 31)) : f_X2_stationWith σ a x = some none := by
  obtain ⟨hL, hP, ⟨hRL, hRW, hRM, hRN, hRC, hRA, hRS, hRQ⟩, _, _⟩ := h
  refine c_stationWith0 hL hP hRA.1 hRL.1 _ (fun i hi he => ?_)
  have h32 := (hRA.2.1 i hi).1
  rw [(hRS i hi).1] at he
  rw [← he, n32_toInt (by omega)] at hx
  omega
/-- the station that an address names, on both sides -/
theorem p_find {a n : Nat} {pl ad : Nat → Nat} {qu : Nat → Nat → Nat} (h : zCs σ a pl ad qu n g) (x : Int32) : (∃ i, i < n ∧ x = n32 (ad i) ∧ f_X2_stationWith σ a x = some (some (pl i)) ∧ ∀ σ1, zM σ1 b g k gs tl tx → f_X10_isStation σ1 (b + 118) x = some (bi true)) ∨ (f_X2_stationWith σ a x = some none ∧ (∀ σ1, zM σ1 b g k gs tl tx → f_X10_isStation σ1 (b + 118) x = some (bi false)) ∧ ∀ y, y < 32 → x = n32 y → ¬ g (18 + 7 * y + 0) = n32 1) := by
  by_cases hx : 0 ≤ x.toInt ∧ x.toInt ≤ 31
  · obtain ⟨y, hy, rfl⟩ := n32_of2 hx.1 (k := 31) hx.2 (by omega)
    have S := fun σ1 (hM : zM σ1 b g k gs tl tx) => m_isSt1 hM.1 (show y < 32 by omega)
    rcases c_is h (show y < 32 by omega) with h0 | ⟨h0, i, hi, rfl⟩
    · right
      refine ⟨c_find0 h (by omega) (by rw [h0]; decide), fun σ1 hM => ?_, fun y' hy' he => ?_⟩
      · rw [S σ1 hM]
        have e : z_I σ1 (b + 118 + 1) = g := hM.2.1
        rw [e, h0]; rfl
      · rw [n32_eq (by omega) (by omega)] at he
        rw [← he, h0]; decide
    · left
      refine ⟨i, hi, rfl, c_find1 h hi, fun σ1 hM => ?_⟩
      rw [S σ1 hM]
      have e : z_I σ1 (b + 118 + 1) = g := hM.2.1
      rw [e, h0]; rfl
  · right
    refine ⟨c_findx h hx, fun σ1 hM => m_isSt0 x hx, fun y hy he => ?_⟩
    rw [he, n32_toInt (by omega)] at hx
    omega
end TOP
