/-! AN OBJECT IS SOUND -/
theorem fq_neg {a b m : UInt64} {x : Int} {n y : Nat} (ha : FP.Core.DInt x a) (hb : FP.Core.DInt n b) (hm : FP.Core.DInt y m) (hn : 0 < n) (h : x < 0) :
    FP.dcmp (FP.ddiv a b) m = some .lt ∨ FP.dcmp (FP.ddiv a b) m = some .eq := by
  have e1 : FP.dcmp (FP.ddiv a b) m = FP.Core.dcmp (FP.Core.ddiv a b) m := rfl
  rw [e1, FP.Core.dcmp_le, FP.Core.val64_ddiv]
  unfold FP.Core.DInt at ha hb hm
  generalize FP.Core.val64 a = da at *
  generalize FP.Core.val64 b = db at *
  generalize FP.Core.val64 m = dm at *
  cases da with
  | nan => exact ha.elim
  | inf s => exact ha.elim
  | fin s c q =>
  cases db with
  | nan => exact hb.elim
  | inf s => exact hb.elim
  | fin t d r =>
  cases dm with
  | nan => exact hm.elim
  | inf s => exact hm.elim
  | fin u c' q' =>
  have ha' : FP.Core.signed s (c * 2 ^ q.toNat) = x * ((2 ^ (-q).toNat : Nat) : Int) := ha
  have hb' : FP.Core.signed t (d * 2 ^ r.toNat) = ((n * 2 ^ (-r).toNat : Nat) : Int) := by rw [Int.natCast_mul]; exact hb
  have hm' : FP.Core.signed u (c' * 2 ^ q'.toNat) = ((y * 2 ^ (-q').toNat : Nat) : Int) := by rw [Int.natCast_mul]; exact hm
  have sg : ∀ (v : Bool) (i k : Nat), FP.Core.signed v i = (k : Int) → i = k ∧ (v = true → i = 0) := by
    intro v i k hv
    cases v with
    | false => exact ⟨by have : ((i : Nat) : Int) = k := hv; omega, fun hh => by cases hh⟩
    | true =>
      have : -((i : Nat) : Int) = k := hv
      exact ⟨by omega, fun _ => by omega⟩
  obtain ⟨b1, b2⟩ := sg _ _ _ hb'
  obtain ⟨m1, m2⟩ := sg _ _ _ hm'
  have dpos : 0 < d := by
    rcases Nat.eq_zero_or_pos d with h0 | h0
    · rw [h0, Nat.zero_mul] at b1
      have : 0 < n * 2 ^ (-r).toNat := Nat.mul_pos hn (Nat.two_pow_pos _)
      omega
    · exact h0
  have tf : t = false := by
    cases t with
    | false => rfl
    | true =>
      have := b2 rfl
      have : 0 < d * 2 ^ r.toNat := Nat.mul_pos dpos (Nat.two_pow_pos _)
      omega
  subst tf
  have st : s = true := by
    cases s with
    | true => rfl
    | false =>
      exfalso
      have hp : x * ((2 ^ (-q).toNat : Nat) : Int) < 0 := Int.mul_neg_of_neg_of_pos h (by have := Nat.two_pow_pos (-q).toNat; omega)
      have : (((c * 2 ^ q.toNat : Nat)) : Int) = x * ((2 ^ (-q).toNat : Nat) : Int) := ha'
      omega
  subst st
  have quo : FP.Core.quotient FP.Core.b64 (.fin true c q) (.fin false d r) = FP.Core.roundRatio FP.Core.b64 (true != false) c d (q - r) := by
    show (if d = 0 then _ else _) = _
    rw [if_neg (by omega)]
  rw [quo]
  refine ⟨FP.Core.roundRatio_ne_nan _ _ _ _ _, (fun hh => by cases hh), ?_⟩
  unfold FP.Core.zval
  rw [FP.Core.sgn_roundRatio]
  have mz : FP.Core.signed u (FP.Core.zmag FP.Core.b64 (.fin u c' q')) = ((FP.Core.zmag FP.Core.b64 (.fin u c' q') : Nat) : Int) := by
    cases u with
    | false => rfl
    | true =>
      have : c' = 0 := by
        rcases Nat.mul_eq_zero.mp (m2 rfl) with h0 | h0
        · exact h0
        · have := Nat.two_pow_pos q'.toNat; omega
      subst this
      show -(((0 * 2 ^ _ : Nat)) : Int) = ((0 * 2 ^ _ : Nat) : Int)
      rw [Nat.zero_mul]; rfl
  show _ ≤ FP.Core.signed u _
  rw [mz]
  generalize FP.Core.zmag FP.Core.b64 (FP.Core.roundRatio FP.Core.b64 (true != false) c d (q - r)) = zr at *
  show -((zr : Nat) : Int) ≤ _
  omega
theorem fq_any {a b m : UInt64} {x : Int} {n y : Nat} (ha : FP.Core.DInt x a) (hb : FP.Core.DInt n b) (hm : FP.Core.DInt y m) (hn : 0 < n) (h : x ≤ ((y * n : Nat) : Int)) :
    FP.dcmp (FP.ddiv a b) m = some .lt ∨ FP.dcmp (FP.ddiv a b) m = some .eq := by
  rcases Int.lt_or_le x 0 with h0 | h0
  · exact fq_neg ha hb hm hn h0
  · have e : x = ((x.toNat : Nat) : Int) := by omega
    rw [e] at ha
    exact fq_le ha hb hm hn (by omega)
/-! the sum of the waits -/
theorem w_sumw (g : zG) : ∀ k : Nat, k ≤ 100 → -(2147483648 * (k : Int)) ≤ (s_sumw g k).toInt ∧ (s_sumw g k).toInt ≤ 2147483648 * (k : Int) ∧ 0 ≤ (s_most g k).toInt ∧ (s_sumw g k).toInt ≤ (s_most g k).toInt * (s_cnt (s_done g) k : Int)
  | 0, _ => by
    have e : (s_sumw g 0).toInt = 0 := rfl
    have e2 : (s_most g 0).toInt = 0 := rfl
    have e3 : s_cnt (s_done g) 0 = 0 := rfl
    rw [e, e2, e3]
    omega
  | k + 1, hk => by
    obtain ⟨a, b, c, d⟩ := w_sumw g k (by omega)
    have hcl := s_cnt_le (s_done g) k
    unfold s_sumw s_most s_cnt
    have wl := Int32.le_toInt (g (242 + 5 * k + 4))
    have wu := Int32.toInt_lt (g (242 + 5 * k + 4))
    generalize hw : g (242 + 5 * k + 4) = w at wl wu
    have sd : s_done g k = !decide (w = nn) := by unfold s_done; rw [hw]
    rw [sd]
    generalize hS : s_sumw g k = S at a b d
    generalize hM : s_most g k = M at c d
    generalize s_cnt (s_done g) k = q at d hcl
    have mono : ∀ M' : Int, M.toInt ≤ M' → S.toInt ≤ M' * (q : Int) := fun M' h => Int.le_trans d (Int.mul_le_mul_of_nonneg_right h (by omega))
    have wl' : -2147483648 ≤ w.toInt := by have : (-2 ^ 31 : Int) = -2147483648 := by decide
                                           omega
    have wu' : w.toInt < 2147483648 := by have : (2 ^ 31 : Int) = 2147483648 := by decide
                                          omega
    have hmx : M.toInt ≤ (if w ≤ M then M else w).toInt ∧ w.toInt ≤ (if w ≤ M then M else w).toInt := by
      by_cases hc : w ≤ M
      · rw [if_pos hc]
        rw [Int32.le_iff_toInt_le] at hc
        omega
      · rw [if_neg hc]
        rw [Int32.le_iff_toInt_le] at hc
        omega
    generalize (if w ≤ M then M else w).toInt = M' at hmx
    have m1 := mono M' hmx.1
    by_cases hn : w = nn
    · rw [if_pos hn, decide_eq_true hn]
      have e0 : S + 0 = S := Int64.add_zero S
      rw [e0]
      show _ ∧ _ ∧ _ ∧ S.toInt ≤ M' * ((q + 0 : Nat) : Int)
      rw [Nat.add_zero]
      refine ⟨by omega, by omega, by omega, m1⟩
    · rw [if_neg hn, decide_eq_false hn]
      have e0 : (S + w.toInt64).toInt = S.toInt + w.toInt := by
        rw [Int64.toInt_add, Int32.toInt_toInt64]
        apply Int.bmod_eq_of_le <;> omega
      rw [e0]
      show _ ∧ _ ∧ _ ∧ S.toInt + w.toInt ≤ M' * ((q + 1 : Nat) : Int)
      have e1 : M' * ((q + 1 : Nat) : Int) = M' * (q : Int) + M' := by
        rw [Int.natCast_add, Int.mul_add]
        show _ + M' * 1 = _
        rw [Int.mul_one]
      rw [e1]
      refine ⟨by omega, by omega, by omega, by omega⟩
/-! sums over the stations -/
def w_S (P : Nat → Bool) (F : Nat → Nat) : Nat → Nat
  | 0 => 0
  | k + 1 => w_S P F k + (if P k = true then F k else 0)
theorem w_S_fA (P : Nat → Bool) (F : Nat → Nat) : ∀ k, s_fA P (fun x c => c + F x) 0 k = w_S P F k
  | 0 => rfl
  | k + 1 => by
    unfold s_fA w_S
    rw [w_S_fA P F k]
    split
    · rfl
    · rw [Nat.add_zero]
theorem w_S_add (P : Nat → Bool) (F G : Nat → Nat) : ∀ k, w_S P (fun x => F x + G x) k = w_S P F k + w_S P G k
  | 0 => rfl
  | k + 1 => by
    unfold w_S
    rw [w_S_add P F G k]
    split <;> omega
theorem w_S_one {P : Nat → Bool} {y d : Nat} (h : P y = true) : ∀ k, w_S P (fun x => if x = y then d else 0) k = if y < k then d else 0
  | 0 => rfl
  | k + 1 => by
    unfold w_S
    rw [w_S_one h k]
    by_cases hk : k = y
    · subst hk
      rw [if_neg (by omega), h, if_pos rfl, if_pos rfl, if_pos (by omega), Nat.zero_add]
    · rw [if_neg hk]
      have : (if P k = true then 0 else 0) = 0 := by split <;> rfl
      rw [this, Nat.add_zero]
      by_cases hy : y < k
      · rw [if_pos hy, if_pos (by omega)]
      · rw [if_neg hy, if_neg (by omega)]
theorem w_S_congr {P : Nat → Bool} {F G : Nat → Nat} : ∀ k, (∀ x, x < k → F x = G x) → w_S P F k = w_S P G k
  | 0, _ => rfl
  | k + 1, h => by
    unfold w_S
    rw [w_S_congr k (fun x hx => h x (by omega)), h k (by omega)]
theorem w_S_kS (g : zG) : ∀ k, w_S (s_is g) (fun x => s_nat g (18 + 7 * x + 5)) k = k_S g k
  | 0 => rfl
  | k + 1 => by
    unfold w_S k_S
    rw [w_S_kS g k]
    unfold s_is
    simp only [decide_eq_true_eq]
theorem w_given {g : zG} (H : s_own g) (h5 : s_nat g 5 ≤ 100) : ∀ q, q ≤ s_nat g 5 → w_S (s_is g) (fun x => s_cnt (s_wt g (n32 x)) q) 32 + s_cnt (s_done g) q = q
  | 0, _ => by
    have key : ∀ k, w_S (s_is g) (fun x => s_cnt (s_wt g (n32 x)) 0) k = 0 := by
      intro k
      induction k with
      | zero => rfl
      | succ k ih =>
        unfold w_S
        rw [ih]
        split <;> rfl
    rw [key]; rfl
  | q + 1, hq => by
    have ih := w_given H h5 q (by omega)
    obtain ⟨y, hy, e, hz⟩ := H q (by omega)
    have isy : s_is g y = true := decide_eq_true hz
    have e1 : w_S (s_is g) (fun x => s_cnt (s_wt g (n32 x)) (q + 1)) 32 = w_S (s_is g) (fun x => s_cnt (s_wt g (n32 x)) q + (if x = y then (if g (242 + 5 * q + 4) = nn then 1 else 0) else 0)) 32 := by
      refine w_S_congr 32 (fun x hx => ?_)
      show s_cnt (s_wt g (n32 x)) q + (if s_wt g (n32 x) q = true then 1 else 0) = _
      congr 1
      unfold s_wt
      rw [e]
      by_cases hxy : x = y
      · subst hxy
        rw [if_pos rfl]
        by_cases hc : g (242 + 5 * q + 4) = nn
        · rw [if_pos hc, decide_eq_true hc, decide_eq_true rfl]; rfl
        · rw [if_neg hc, decide_eq_false hc, Bool.and_false]; rfl
      · rw [if_neg hxy, decide_eq_false (fun h => hxy ((n32_eq (by omega) (by omega)).1 h).symm), Bool.false_and]
        rfl
    rw [e1, w_S_add, w_S_one isy, if_pos hy]
    show _ + (s_cnt (s_done g) q + (if s_done g q = true then 1 else 0)) = _
    have ed : (if g (242 + 5 * q + 4) = nn then 1 else 0) + (if s_done g q = true then 1 else 0) = 1 := by
      unfold s_done
      by_cases hc : g (242 + 5 * q + 4) = nn
      · rw [if_pos hc, decide_eq_true hc]; rfl
      · rw [if_neg hc, decide_eq_false hc]; rfl
    omega
