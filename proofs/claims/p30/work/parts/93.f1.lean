/-! QUOTIENTS OF WHOLE NUMBERS AND THEIR BOUNDS -/
theorem fq_move {c : Nat} {x : Nat} {q : Int} (h : c * 2 ^ q.toNat = x * 2 ^ (-q).toNat) (h1 : -1100 ≤ q) : c * 2 ^ (q + 1100).toNat = x * 2 ^ 1100 := by
  rcases Int.lt_or_le q 0 with h0 | h0
  · have e1 : q.toNat = 0 := by omega
    rw [e1, Nat.pow_zero, Nat.mul_one] at h
    rw [h, Nat.mul_assoc, ← Nat.pow_add]
    congr 2
    omega
  · have e1 : (-q).toNat = 0 := by omega
    rw [e1, Nat.pow_zero, Nat.mul_one] at h
    rw [show (q + 1100).toNat = q.toNat + 1100 by omega, Nat.pow_add, ← Nat.mul_assoc, h]
theorem fq_le {a b m : UInt64} {x n y : Nat} (ha : FP.Core.DInt x a) (hb : FP.Core.DInt n b) (hm : FP.Core.DInt y m) (hn : 0 < n) (h : x ≤ y * n) :
    FP.dcmp (FP.ddiv a b) m = some .lt ∨ FP.dcmp (FP.ddiv a b) m = some .eq := by
  have e1 : FP.dcmp (FP.ddiv a b) m = FP.Core.dcmp (FP.Core.ddiv a b) m := rfl
  rw [e1, FP.Core.dcmp_le, FP.Core.val64_ddiv]
  have fa := FP.Core.val64_fits a
  have fb := FP.Core.val64_fits b
  have fm := FP.Core.val64_fits m
  unfold FP.Core.DInt at ha hb hm
  generalize FP.Core.val64 a = da at *
  generalize FP.Core.val64 b = db at *
  generalize FP.Core.val64 m = dm at *
  cases da with
  | nan => exact ha.elim
  | inf s => exact ha.elim
  | fin s c q =>
  cases db with
  | nan => exact hb.elim
  | inf s => exact hb.elim
  | fin t d r =>
  cases dm with
  | nan => exact hm.elim
  | inf s => exact hm.elim
  | fin u c' q' =>
  have ha' : FP.Core.signed s (c * 2 ^ q.toNat) = ((x * 2 ^ (-q).toNat : Nat) : Int) := by rw [Int.natCast_mul]; exact ha
  have hb' : FP.Core.signed t (d * 2 ^ r.toNat) = ((n * 2 ^ (-r).toNat : Nat) : Int) := by rw [Int.natCast_mul]; exact hb
  have hm' : FP.Core.signed u (c' * 2 ^ q'.toNat) = ((y * 2 ^ (-q').toNat : Nat) : Int) := by rw [Int.natCast_mul]; exact hm
  have sg : ∀ (v : Bool) (i k : Nat), FP.Core.signed v i = (k : Int) → i = k ∧ (v = true → i = 0) := by
    intro v i k hv
    cases v with
    | false => exact ⟨by have : ((i : Nat) : Int) = k := hv; omega, fun hh => by cases hh⟩
    | true =>
      have : -((i : Nat) : Int) = k := hv
      exact ⟨by omega, fun _ => by omega⟩
  obtain ⟨a1, a2⟩ := sg _ _ _ ha'
  obtain ⟨b1, b2⟩ := sg _ _ _ hb'
  obtain ⟨m1, m2⟩ := sg _ _ _ hm'
  have qmin : FP.Core.b64.qmin = -1074 := FP.Core.qmin_b64
  have qmax : FP.Core.b64.qmax = 971 := by decide
  have dpos : 0 < d := by
    rcases Nat.eq_zero_or_pos d with h0 | h0
    · rw [h0, Nat.zero_mul] at b1
      have : 0 < n * 2 ^ (-r).toNat := Nat.mul_pos hn (Nat.two_pow_pos _)
      omega
    · exact h0
  have tf : t = false := by
    cases t with
    | false => rfl
    | true =>
      have := b2 rfl
      have : 0 < d * 2 ^ r.toNat := Nat.mul_pos dpos (Nat.two_pow_pos _)
      omega
  subst tf
  have cz : ∀ (v : Bool) (i : Nat) (j : Int), (v = true → i * 2 ^ j.toNat = 0) → v = true → i = 0 := by
    intro v i j hv hh
    have := hv hh
    rcases Nat.mul_eq_zero.mp this with h0 | h0
    · exact h0
    · have := Nat.two_pow_pos j.toNat; omega
  have quo : FP.Core.quotient FP.Core.b64 (.fin s c q) (.fin false d r) = FP.Core.roundRatio FP.Core.b64 (s != false) c d (q - r) := by
    show (if d = 0 then _ else _) = _
    rw [if_neg (by omega)]
  rw [quo]
  refine ⟨FP.Core.roundRatio_ne_nan _ _ _ _ _, (fun hh => by cases hh), ?_⟩
  unfold FP.Core.zval
  rw [FP.Core.sgn_roundRatio]
  have key : FP.Core.zmag FP.Core.b64 (FP.Core.roundRatio FP.Core.b64 (s != false) c d (q - r)) ≤ FP.Core.zmag FP.Core.b64 (.fin u c' q') := by
    have hq1 := fa.2.1
    have hr1 := fb.2.1
    have hr2 := fb.2.2.1
    have hp1 := fm.2.1
    rw [qmin] at hq1 hr1 hp1
    rw [qmax] at hr2
    refine FP.Core.zmag_roundRatio_le FP.Core.good_b64 (e0 := -2200) dpos fm (fun hh => by cases hh) (by rw [qmin]; decide) (by omega) ?_
    have A := fq_move a1 (by omega)
    have B := fq_move b1 (by omega)
    have M := fq_move m1 (by omega)
    show c * 2 ^ (q - r - -2200).toNat ≤ c' * 2 ^ (q' - FP.Core.b64.qmin).toNat * 2 ^ (FP.Core.b64.qmin - -2200).toNat * d
    rw [qmin]
    refine Nat.le_of_mul_le_mul_right (c := 2 ^ (r + 1100).toNat) ?_ (Nat.two_pow_pos _)
    have L : c * 2 ^ (q - r - -2200).toNat * 2 ^ (r + 1100).toNat = x * 2 ^ 1100 * 2 ^ 2200 := by
      rw [Nat.mul_assoc, ← Nat.pow_add, ← A, Nat.mul_assoc, ← Nat.pow_add]
      congr 2
      omega
    have R : c' * 2 ^ (q' - -1074).toNat * 2 ^ (-1074 - -2200 : Int).toNat * d * 2 ^ (r + 1100).toNat = y * 2 ^ 1100 * (n * 2 ^ 1100) * 2 ^ 1100 := by
      rw [Nat.mul_assoc _ d, B, Nat.mul_assoc c', ← Nat.pow_add, ← M]
      rw [show (q' - -1074).toNat + (-1074 - -2200 : Int).toNat = (q' + 1100).toNat + 1100 by omega, Nat.pow_add, ← Nat.mul_assoc c']
      rw [Nat.mul_right_comm]
    rw [L, R]
    have e : y * 2 ^ 1100 * (n * 2 ^ 1100) * 2 ^ 1100 = y * n * 2 ^ 1100 * 2 ^ 2200 := by
      rw [show (2200 : Nat) = 1100 + 1100 from rfl, Nat.pow_add]
      simp only [Nat.mul_assoc, Nat.mul_left_comm, Nat.mul_comm]
    rw [e]
    exact Nat.mul_le_mul_right _ (Nat.mul_le_mul_right _ h)
  have mz : FP.Core.signed u (FP.Core.zmag FP.Core.b64 (.fin u c' q')) = ((FP.Core.zmag FP.Core.b64 (.fin u c' q') : Nat) : Int) := by
    cases u with
    | false => rfl
    | true =>
      have : c' = 0 := cz true c' q' m2 rfl
      subst this
      show -(((0 * 2 ^ _ : Nat)) : Int) = ((0 * 2 ^ _ : Nat) : Int)
      rw [Nat.zero_mul]; rfl
  show _ ≤ FP.Core.signed u _
  rw [mz]
  generalize FP.Core.zmag FP.Core.b64 (FP.Core.roundRatio FP.Core.b64 (s != false) c d (q - r)) = zr at *
  cases s with
  | false => show ((zr : Nat) : Int) ≤ _; omega
  | true => show -((zr : Nat) : Int) ≤ _; omega
theorem fq_n {k : Nat} (h : k < 2147483648) : FP.Core.DInt k (FP.i2d (n32 k)) := by
  have := FP.Core.i2d_int (n32 k)
  rw [n32_toInt h] at this
  exact this
theorem fq_l {k : Nat} (h : k < 2147483648) {x : Int64} (hx : x.toInt = k) : FP.Core.DInt k (FP.l2d x) := by
  have := FP.Core.l2d_int (a := x) (by omega)
  rw [hx] at this
  exact this
theorem fq_1 : FP.Core.DInt (1 : Nat) FP.dconst1 := by
  show FP.Core.Whole _ (FP.Core.val64 FP.Core.dconst1)
  rw [FP.Core.val64_dconst1]
  show FP.Core.signed false (2 ^ 52 * 2 ^ (-52 : Int).toNat) = ((1 : Nat) : Int) * ((2 ^ (52 : Int).toNat : Nat) : Int)
  decide +kernel
theorem fq_0 : FP.Core.DInt (0 : Nat) FP.dconst0 := by
  show FP.Core.Whole _ (FP.Core.val64 FP.Core.dconst0)
  rw [FP.Core.val64_dconst0]
  show FP.Core.signed false (0 * 2 ^ _) = ((0 : Nat) : Int) * _
  rw [Nat.zero_mul, Int.natCast_zero, Int.zero_mul]; rfl
theorem fq_cmp {i j : Nat} {a b : UInt64} (ha : FP.Core.DInt i a) (hb : FP.Core.DInt j b) (h : i ≤ j) : FP.dcmp a b = some .lt ∨ FP.dcmp a b = some .eq := by
  have e : FP.dcmp a b = some (compare (i : Int) (j : Int)) := FP.Core.dcmp_int ha hb
  rw [e]
  rcases Nat.lt_or_ge i j with h1 | h1
  · left; rw [Std.compare_eq_lt.2 (by omega)]
  · right; rw [show (i : Int) = j by omega, Std.compare_self]
theorem fq_g {a b : UInt64} (h : FP.dcmp a b = some .lt ∨ FP.dcmp a b = some .eq) : ¬ (0 < (Op.cmpValue (FP.dcmp a b) .g)) := by
  rcases h with h | h <;> rw [h] <;> decide
theorem fq_self {a : UInt64} (h : FP.Core.val64 a ≠ .nan) : Op.cmpValue (FP.dcmp a a) .l = 0 := by
  have e : FP.dcmp a a = some .eq := FP.Core.dcmp_self h
  rw [e]; rfl
theorem fq_ne {i : Int} {a : UInt64} (h : FP.Core.DInt i a) : FP.Core.val64 a ≠ .nan := by
  intro e
  unfold FP.Core.DInt at h
  rw [e] at h
  exact h
theorem fq_nb {a : UInt64} (h : vf_n64b a = true) : FP.Core.val64 a ≠ .nan := by
  have h1 : a &&& 0x7fffffffffffffff ≤ 0x7ff0000000000000 := of_decide_eq_true h
  rw [FP.Core.ne_nan]
  rw [UInt64.le_iff_toNat_le, UInt64.toNat_and] at h1
  have e : (0x7fffffffffffffff : UInt64).toNat = 2 ^ 63 - 1 := rfl
  rw [e, Nat.and_two_pow_sub_one_eq_mod] at h1
  have e2 : (0x7ff0000000000000 : UInt64).toNat = 9218868437227405312 := rfl
  omega
