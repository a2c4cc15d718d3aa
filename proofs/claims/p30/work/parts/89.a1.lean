section LAW
variable {σ : zSt} {b k tl : Nat} {g : zG} {gs : Nat → zG} {tx : Nat → Int32} {B V : Nat} {xs : Nat → Int32} {L : Nat} {l4 : Int32}
/-- equal numbers are equal -/
theorem dd_same {β : Type} (D : UInt64) (X Y : Option β) : (if Op.cmpValue (FP.dcmp D D) .l = 0 then X else if Op.cmpValue (FP.dcmp D D) .l = 0 then Y else if Op.cmpValue (FP.dcmp D D) .l = 0 then Y else X) = X := by
  by_cases hc : Op.cmpValue (FP.dcmp D D) .l = 0
  · rw [if_pos hc]
  · rw [if_neg hc, if_neg hc, if_neg hc]
def s_wm (g : zG) (w : Bool) : UInt64 := if g 10 = n32 0 then FP.dconst0 else if w = true then FP.i2d (s_most g (s_nat g 5)) else FP.ddiv (FP.l2d (s_sumw g (s_nat g 5))) (FP.i2d (g 10))
theorem toI_ne {x : Int32} (h : ¬ x = n32 0) : x.toInt ≠ 0 := fun he => h (Int32.toInt_inj.1 (by rw [he]; rfl))
theorem s_most_0 {g : zG} : ∀ k, (∀ m, m < k → g (242 + 5 * m + 4) = nn) → s_most g k = n32 0
  | 0, _ => rfl
  | k + 1, h => by
    unfold s_most
    rw [s_most_0 k (fun m hm => h m (by omega)), h k (by omega), if_pos (by decide)]
theorem s_ds_0 {g : zG} (H : s_ds g) (h5 : s_nat g 5 ≤ 100) (h : g 10 = n32 0) : s_most g (s_nat g 5) = n32 0 := by
  unfold s_ds at H
  have hle := s_cnt_le (s_done g) (s_nat g 5)
  rw [h, n32_eq (by omega) (by omega)] at H
  refine s_most_0 _ (fun m hm => ?_)
  by_cases hd : g (242 + 5 * m + 4) = nn
  · exact hd
  · have hp : s_done g m = true := by unfold s_done; rw [decide_eq_false hd]; rfl
    have pos : ∀ k, m < k → 0 < s_cnt (s_done g) k := by
      intro k
      induction k with
      | zero => intro hk; omega
      | succ k ih =>
        intro hk
        unfold s_cnt
        by_cases hmk : m = k
        · rw [← hmk, hp, if_pos rfl]; omega
        · have := ih (by omega); omega
    have := pos _ hm
    omega
theorem n_divL (x : Int64) {n : Int32} (h : ¬ n = n32 0) : vf_n64b (FP.ddiv (FP.l2d x) (FP.i2d n)) = true := by
  unfold vf_n64b
  exact decide_eq_true (fp_divL x (toI_ne h))
theorem n_divI (x : Int32) {n : Int32} (h : ¬ n = n32 0) : vf_n64b (FP.ddiv (FP.i2d x) (FP.i2d n)) = true := by
  unfold vf_n64b
  exact decide_eq_true (fp_divI x (toI_ne h))
def s_us (g : zG) : UInt64 := if g 3 = n32 0 then FP.dconst0 else FP.ddiv (FP.i2d (g 15)) (FP.i2d (g 3))
end LAW
