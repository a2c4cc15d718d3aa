/-! AT REST: class and reference together -/
/-- the answer as the law takes it: row r, value v -/
def zAC (σ : zSt) (b : Nat) (out : Option (Int32 × zSt)) (r v : Int32) (g : zG) (k : Nat) (gs : Nat → zG) (tl : Nat) (tx : Nat → Int32) : Prop :=
  ∃ σ1, out = some (r, σ1) ∧ zC σ1 b g k gs tl tx ∧ zEq (b + 118) (b + 123) σ σ1 ∧ zOut σ1 b ∧ (r = 0 → z_J σ1 (b + 123) 0 = v.toInt64)
section TOP
variable {σ : zSt} {b k tl : Nat} {g : zG} {gs : Nat → zG} {tx : Nat → Int32} {B V : Nat}
theorem zOut_eq {σ1 : zSt} (O : zOut σ b) (E : zEq (b + 118) (b + 124) σ σ1) (hn : z_nx σ ≤ z_nx σ1) : zOut σ1 b := by
  have e := E (b + 123) (by omega) (by omega)
  exact ⟨by rw [z_ar_at e.1]; exact O.1, by rw [z_ln_at e.1]; exact O.2.1, by have := O.2.2; omega⟩
theorem zAC_x {σ1 : zSt} (O : zOut σ b) (h : zC σ1 b g k gs tl tx) (E : zEq (b + 118) (b + 124) σ σ1) (hn : z_nx σ ≤ z_nx σ1) {out : Option (Int32 × zSt)} {r v : Int32} (e : out = some (r, σ1)) (hr : ¬ r = 0) : zAC σ b out r v g k gs tl tx :=
  ⟨σ1, e, h, zEq_s E (Nat.le_refl _) (by omega), zOut_eq O E hn, fun h0 => absurd h0 hr⟩
theorem zAC_v {σ1 : zSt} (O : zOut σ b) (h : zC σ1 b g k gs tl tx) (E : zEq (b + 118) (b + 124) σ σ1) (hn : z_nx σ ≤ z_nx σ1) {out : Option (Int32 × zSt)} {v : Int32} (e : out = some (0, z_pJ σ1 (b + 123) 0 v.toInt64)) : zAC σ b out 0 v g k gs tl tx := by
  have O1 := zOut_eq O E hn
  have K : ∀ q, q ≠ b + 123 → z_J (z_pJ σ1 (b + 123) 0 v.toInt64) q = z_J σ1 q := fun q hq => by
    funext j
    rw [z_J_pJ, if_neg (by intro h; exact hq h.1)]
  refine ⟨_, e, zC_reg (σ := σ1) (fun q _ _ => ⟨rfl, rfl, K q (by omega), rfl⟩) h, fun q h1 h2 => ?_, O1, fun _ => ?_⟩
  · have := E q h1 (by omega)
    exact ⟨this.1, this.2.1, (K q (by omega)).trans this.2.2.1, this.2.2.2⟩
  · rw [z_J_pJ, if_pos ⟨rfl, rfl⟩]
theorem zOut_ix (O : zOut σ b) : z_ix (0 : Int32) (z_ln σ (b + 123)) = true := by rw [O.2.1]; rfl
end TOP
