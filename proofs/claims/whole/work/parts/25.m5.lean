theorem s_takes_ne (g : zG) (t : Int32) {j : Nat} (h : j ≠ 3) (h2 : j ≠ 11) : s_takes g t j = g j := by
  unfold s_takes; rw [gu_ne _ _ h2, gu_ne _ _ h]
theorem s_takes_3 (g : zG) (t : Int32) : s_takes g t 3 = g 3 + t := by
  unfold s_takes; rw [gu_ne _ _ (by decide), gu_same]
theorem n32_div {a b : Nat} (ha : a < 2147483648) (hb : b < 2147483648) : n32 a / n32 b = n32 (a / b) := by
  have h1 : a / b ≤ a := Nat.div_le_self a b
  rw [← Int32.toInt_inj, Int32.toInt_div, n32_toInt ha, n32_toInt hb, n32_toInt (by omega)]
  have e : (a : Int).tdiv (b : Int) = ((a / b : Nat) : Int) := rfl
  rw [e]
  generalize a / b = c at h1 ⊢
  apply Int.bmod_eq_of_le <;> omega
theorem n32_mod {a b : Nat} (ha : a < 2147483648) (hb : b < 2147483648) : n32 a - n32 a / n32 b * n32 b = n32 (a % b) := by
  rw [n32_div ha hb, n32_mul, n32_sub (Nat.div_mul_le_self a b)]
  congr 1
  have := Nat.div_add_mod a b
  rw [Nat.mul_comm] at this
  omega
def s_bhd (h o : Nat) : Nat := if (o + 32 - h) % 32 = 0 then 32 else (o + 32 - h) % 32
def s_tick (g : zG) : zG := gu g 3 (g 3 + g 1)
theorem s_tick_ne (g : zG) {j : Nat} (h : j ≠ 3) : s_tick g j = g j := by unfold s_tick; rw [gu_ne _ _ h]
/-- the wait of the first message of a queue is set: the array behind an unspoilt sending -/
def s_sent (g g1 : zG) (m : Nat) : zG := gu (gu (gu g1 (242 + 5 * m + 4) (g 3 - g (242 + 5 * m + 3))) 10 (g 10 + n32 1)) 15 (g 15 + g (242 + 5 * m + 0))
def s_spoilt (g : zG) (m : Nat) : Bool := s_loud g (g 3) (g 3 + g (242 + 5 * m + 0) - n32 1)
def s_sends (g : zG) (m : Nat) : zG := if s_spoilt g m = true then s_takes g (g (242 + 5 * m + 0)) else s_sent g (s_takes g (g (242 + 5 * m + 0))) m
section MODEL
variable {σ : zSt} {M : Nat}
theorem m_behind {h o : Nat} (hh : h < 32) (ho : o < 32) : f_X10_behind σ (n32 h) (n32 o) = some (n32 (s_bhd h o)) := by
  have e : n32 o - n32 h + n32 32 = n32 (o + 32 - h) := by
    have e1 : n32 (o + 32 - h) + n32 h = n32 o + n32 32 := by rw [n32_add, n32_add]; congr 1; omega
    have e2 : n32 (o + 32 - h) = n32 o + n32 32 - n32 h := by rw [← e1, Int32.add_sub_cancel]
    rw [e2, Int32.sub_eq_add_neg, Int32.sub_eq_add_neg, Int32.add_assoc, Int32.add_assoc, Int32.add_comm (-n32 h)]
  have h1 : (o + 32 - h) % 32 < 32 := Nat.mod_lt _ (by decide)
  simp (disch := omega) only [f_X10_behind, f_X10_behind_20, ↓zl_eq, ↓zb_eq, ↓zb2_eq, ↓zc_some, ↓zc_none, ↓zb_pre, ↓zb2_pre, ↓zc_pre, ↓zex_eq, ↓reduceIte, Option.isSome_some, Option.isSome_none, Option.getD_some, n32_lit, e, n32_mod, n32_eq]
  unfold s_bhd
  split <;> rfl
theorem m_sends (hM : zMs σ M) {n q : Nat} (hn : z_I σ (M + 1) 6 = n32 n) (hn2 : n ≤ 20) (hq : z_I σ (M + 1) 5 = n32 q) (hq2 : q ≤ 100) (x : Int32) {m : Nat} (hm : m < 100) (hx : s_next (z_I σ (M + 1)) x nn = n32 m) :
    f_X10_sends σ M x = some (bi (s_spoilt (z_I σ (M + 1)) m), z_sA σ (M + 1) (s_sends (z_I σ (M + 1)) m)) := by
  simp (disch := omega) only [f_X10_sends, f_X10_inMessage, ↓zl_eq, ↓zb_eq, ↓zb2_eq, ↓zc_some, ↓zc_none, ↓zb_pre, ↓zb2_pre, ↓zc_pre, ↓zex_eq, ↓reduceIte, Option.isSome_some, Option.isSome_none, Option.getD_some, n32_lit, n32_nn, n32_nn2, n32_add, n32_mul, n32_toNat, n32_ix, hM.1, hM.2.1, hM.2.2.1, hM.2.2.2.1, hM.2.2.2.2.1, hM.2.2.2.2.2.1, hM.2.2.2.2.2.2.1, hM.2.2.2.2.2.2.2.1, hM.2.2.2.2.2.2.2.2.1, hM.2.2.2.2.2.2.2.2.2.1, hM.2.2.2.2.2.2.2.2.2.2.1, hM.2.2.2.2.2.2.2.2.2.2.2.1, hM.2.2.2.2.2.2.2.2.2.2.2.2, z_pI_eq, z_sA_sA, z_I_sA, z_J_sA, z_R_sA, z_ob_sA, z_ar_sA, z_ln_sA, z_nx_sA, m_nextOf hM hq hq2 x (Or.inl rfl), hx, m_ofM hM, m_takes hM hn hn2, m_ofM (zMs_sA hM _ _), bi_0n, gu_ne, gu_same, s_takes_ne]
  unfold s_sends s_spoilt s_sent
  cases s_loud (z_I σ (M + 1)) (z_I σ (M + 1) 3) (z_I σ (M + 1) 3 + z_I σ (M + 1) (242 + 5 * m + 0) - n32 1) <;> rfl
end MODEL
