/-! THE LAW'S NUMBERS -/
def w_b (x : Int32) (i : Nat) : Bool := x.toBitVec.getLsbD i
theorem w_b_and (x y : Int32) (i : Nat) : w_b (x &&& y) i = (w_b x i && w_b y i) := by unfold w_b; rw [Int32.toBitVec_and, BitVec.getLsbD_and]
theorem w_b_or (x y : Int32) (i : Nat) : w_b (x ||| y) i = (w_b x i || w_b y i) := by unfold w_b; rw [Int32.toBitVec_or, BitVec.getLsbD_or]
theorem w_b_m : ∀ n, n < 32 → ((n32 n &&& 31).toBitVec.smod 32).toNat = n := by decide +kernel
theorem w_b_1 : ∀ n, n < 32 → w_b ((1 : Int32) <<< (n32 n &&& 31)) n = true := by decide +kernel
theorem w_b_sh (n : Nat) (hn : n < 32) (x : Int32) : w_b (x >>> (n32 n &&& 31)) 0 = w_b x n := by
  unfold w_b
  rw [Int32.toBitVec_shiftRight]
  show (x.toBitVec.sshiftRight ((n32 n &&& 31).toBitVec.smod 32).toNat).getLsbD 0 = _
  rw [w_b_m n hn, BitVec.getLsbD_sshiftRight]
  simp [hn]
theorem w_b_clear {x : Int32} {n : Nat} (hn : n < 32) (h : ((x >>> (n32 n &&& 31)) &&& (1 : Int32)) = 0) : w_b x n = false := by
  have e : w_b ((x >>> (n32 n &&& 31)) &&& (1 : Int32)) 0 = w_b 0 0 := by rw [h]
  have e0 : w_b (0 : Int32) 0 = false := by decide
  have e1 : w_b (1 : Int32) 0 = true := by decide
  rw [w_b_and, w_b_sh n hn, e0, e1, Bool.and_true] at e
  exact e
theorem w_b_set {x : Int32} {n y : Nat} (hn : n < 32) (h : w_b (x ||| ((1 : Int32) <<< (n32 n &&& 31))) y = false) : w_b x y = false ∧ y ≠ n := by
  rw [w_b_or, Bool.or_eq_false_iff] at h
  refine ⟨h.1, fun e => ?_⟩
  subst e
  rw [w_b_1 y hn] at h
  cases h.2
theorem w_pos (v : Int32) : ¬ (v &&& (2147483647 : Int32)) < 0 := by
  rw [Int32.lt_iff_toInt_lt]
  have e : (v &&& (2147483647 : Int32)).toInt = (v &&& (2147483647 : Int32)).toBitVec.toInt := rfl
  have m : (v &&& (2147483647 : Int32)).toBitVec.msb = false := by
    rw [Int32.toBitVec_and, BitVec.msb_and]
    have : (2147483647 : Int32).toBitVec.msb = false := by decide
    rw [this, Bool.and_false]
  rw [e, BitVec.toInt_eq_msb_cond, m]
  have e0 : (0 : Int32).toInt = 0 := rfl
  rw [e0]
  simp
/-- a number up to n -/
def w_up (v : Int32) (n : Nat) : Nat := (v &&& (2147483647 : Int32)).toNatClampNeg % n
theorem w_up_lt (v : Int32) {n : Nat} (h : 0 < n) : w_up v n < n := Nat.mod_lt _ h
theorem w_L_up (σ : zSt) (v : Int32) {n : Nat} (h : 0 < n) (hn : n < 2147483648) : f_L_up σ v (n32 n) = some (n32 (w_up v n)) := by
  obtain ⟨e, hk⟩ := n32_of (w_pos v)
  unfold f_L_up
  rw [if_pos (fun e0 => by
    have : n32 n = n32 0 := e0
    rw [n32_eq hn (by omega)] at this
    omega)]
  unfold w_up
  generalize (v &&& (2147483647 : Int32)).toNatClampNeg = k at e hk ⊢
  rw [e, n32_mod hk hn]
/-- a place of the array -/
def w_cell (xs : Nat → Int32) (L : Nat) (k : Nat) : Int32 := if L ≤ k then (1759714724 : Int32) * (n32 k + (491 : Int32)) else xs k
theorem w_L_cell (xs : Nat → Int32) {L : Nat} (hL : L < 2147483648) (σ : zSt) {k : Nat} (hk : k < 2147483648) : f_L_cell xs L σ (n32 k) = some (w_cell xs L k) := by
  unfold f_L_cell f_L_cell_20 w_cell
  have e : (Int32.ofNat L ≤ n32 k) ↔ L ≤ k := n32_le hL hk
  by_cases h : L ≤ k
  · rw [if_pos (e.2 h), if_pos h]
  · rw [if_neg (fun h' => h (e.1 h')), if_pos (n32_ix (by omega) hk), if_neg h, n32_toNat hk]
