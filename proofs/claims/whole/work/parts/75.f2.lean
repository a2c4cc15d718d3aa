/-! AT REST: class and reference together -/
def zW (σ : zSt) (b : Nat) (g : zG) (k : Nat) (gs : Nat → zG) (tl : Nat) (tx : Nat → Int32) (B V : Nat) : Prop :=
  zC σ b g k gs tl tx ∧ zM σ b g k gs tl tx ∧ s_I g B V ∧ (∀ i, i < k → s_I (gs i) B V) ∧ k ≤ 4 ∧ tl ≤ 120 ∧ (∀ j, j < tl → ∃ c, c < 128 ∧ tx j = n32 c) ∧ zOut σ b
/-- the reference's answer: v, and the row r of its exceptions -/
def zAM (σ : zSt) (b : Nat) (out : Option (Int32 × zSt)) (r v : Int32) (g : zG) (k : Nat) (gs : Nat → zG) (tl : Nat) (tx : Nat → Int32) : Prop :=
  ∃ σ1, out = some (v, σ1) ∧ zM σ1 b g k gs tl tx ∧ zFM b σ σ1 ∧ z_I σ1 (b + 118) 4 = r
/-- the class's answer: an exception, or a value -/
def zA9 (σ : zSt) (b : Nat) (out : Option ((Nat ⊕ Int32) × zSt)) (r : Nat ⊕ Int32) (g : zG) (k : Nat) (gs : Nat → zG) (tl : Nat) (tx : Nat → Int32) : Prop :=
  ∃ σ1, out = some (r, σ1) ∧ zC σ1 b g k gs tl tx ∧ zEq (b + 118) (b + 124) σ σ1 ∧ z_nx σ ≤ z_nx σ1
/-- the answer as the law takes it: row r, value v -/
def zAC (σ : zSt) (b : Nat) (out : Option (Int32 × zSt)) (r v : Int32) (g : zG) (k : Nat) (gs : Nat → zG) (tl : Nat) (tx : Nat → Int32) : Prop :=
  ∃ σ1, out = some (r, σ1) ∧ zC σ1 b g k gs tl tx ∧ zEq (b + 118) (b + 123) σ σ1 ∧ zOut σ1 b ∧ (r = 0 → z_J σ1 (b + 123) 0 = v.toInt64)
section TOP
variable {σ : zSt} {b k tl : Nat} {g : zG} {gs : Nat → zG} {tx : Nat → Int32} {B V : Nat}
theorem zM_ob (h : zM σ b g k gs tl tx) : z_ob σ (b + 118) 9 = true := h.1.1
theorem zM_thr (h : zM σ b g k gs tl tx) (v : Int32) : zM (z_sA σ (b + 118) (gu (z_I σ (b + 118)) 4 v)) b g k gs tl tx ∧ zFM b σ (z_sA σ (b + 118) (gu (z_I σ (b + 118)) 4 v)) ∧ z_I (z_sA σ (b + 118) (gu (z_I σ (b + 118)) 4 v)) (b + 118) 4 = v := by
  obtain ⟨hM, h1, h2, h3, h4, h5⟩ := h
  refine ⟨⟨hM, ?_, ?_, fun i j hi hj => ?_, ?_, fun j hj => ?_⟩, zFM_sA _ (by omega) (by omega) _, by rw [z_I_sA, gu_same]⟩
  · rw [z_I_sAn _ _ _ (by omega)]; exact h1
  · rw [z_I_sA, gu_ne _ _ (by omega)]; exact h2
  · rw [z_I_sAn _ _ _ (by omega)]; exact h3 i j hi hj
  · rw [z_I_sA, gu_ne _ _ (by omega)]; exact h4
  · rw [z_I_sAn _ _ _ (by omega)]; exact h5 j hj
theorem zM_new (h : zM σ b g k gs tl tx) (g' : zG) : zM (z_sA σ (b + 119) g') b g' k gs tl tx ∧ zFM b σ (z_sA σ (b + 119) g') ∧ z_I (z_sA σ (b + 119) g') (b + 118) = z_I σ (b + 118) := by
  obtain ⟨hM, h1, h2, h3, h4, h5⟩ := h
  refine ⟨⟨hM, ?_, ?_, fun i j hi hj => ?_, ?_, fun j hj => ?_⟩, zFM_sA _ (by omega) (by omega) _, z_I_sAn _ _ _ (by omega)⟩
  · rw [z_I_sA]
  · rw [z_I_sAn _ _ _ (by omega)]; exact h2
  · rw [z_I_sAn _ _ _ (by omega)]; exact h3 i j hi hj
  · rw [z_I_sAn _ _ _ (by omega)]; exact h4
  · rw [z_I_sAn _ _ _ (by omega)]; exact h5 j hj
theorem zA9_q (h : zC σ b g k gs tl tx) {out : Option ((Nat ⊕ Int32) × zSt)} {r : Nat ⊕ Int32} (E : out = some (r, σ)) : zA9 σ b out r g k gs tl tx := ⟨σ, E, h, zEq_r _ _ _, Nat.le_refl _⟩
theorem zA9_x (h : zC σ b g k gs tl tx) {out : Option ((Nat ⊕ Int32) × zSt)} {e : Nat} (E : out = some (.inl e, z_gr σ)) : zA9 σ b out (.inl e) g k gs tl tx :=
  ⟨z_gr σ, E, zC_reg (σ := σ) (fun q _ _ => ⟨rfl, rfl, rfl, rfl⟩) h, fun q _ _ => ⟨rfl, rfl, rfl, rfl⟩, Nat.le_succ _⟩
theorem zOut_eq {σ1 : zSt} (O : zOut σ b) (E : zEq (b + 118) (b + 124) σ σ1) (hn : z_nx σ ≤ z_nx σ1) : zOut σ1 b := by
  have e := E (b + 123) (by omega) (by omega)
  exact ⟨by rw [z_ar_at e.1]; exact O.1, by rw [z_ln_at e.1]; exact O.2.1, by have := O.2.2; omega⟩
theorem zAC_x {σ1 : zSt} (O : zOut σ b) (h : zC σ1 b g k gs tl tx) (E : zEq (b + 118) (b + 124) σ σ1) (hn : z_nx σ ≤ z_nx σ1) {out : Option (Int32 × zSt)} {r v : Int32} (e : out = some (r, σ1)) (hr : ¬ r = 0) : zAC σ b out r v g k gs tl tx :=
  ⟨σ1, e, h, zEq_s E (Nat.le_refl _) (by omega), zOut_eq O E hn, fun h0 => absurd h0 hr⟩
theorem zAC_v {σ1 : zSt} (O : zOut σ b) (h : zC σ1 b g k gs tl tx) (E : zEq (b + 118) (b + 124) σ σ1) (hn : z_nx σ ≤ z_nx σ1) {out : Option (Int32 × zSt)} {v : Int32} (e : out = some (0, z_pJ σ1 (b + 123) 0 v.toInt64)) : zAC σ b out 0 v g k gs tl tx := by
  have O1 := zOut_eq O E hn
  have K : ∀ q, q ≠ b + 123 → z_J (z_pJ σ1 (b + 123) 0 v.toInt64) q = z_J σ1 q := fun q hq => by
    funext j
    rw [z_J_pJ, if_neg (by intro h; exact hq h.1)]
  refine ⟨_, e, zC_reg (σ := σ1) (fun q _ _ => ⟨rfl, rfl, K q (by omega), rfl⟩) h, fun q h1 h2 => ?_, O1, fun _ => ?_⟩
  · have := E q h1 (by omega)
    exact ⟨this.1, this.2.1, (K q (by omega)).trans this.2.2.1, this.2.2.2⟩
  · rw [z_J_pJ, if_pos ⟨rfl, rfl⟩]
theorem zOut_ix (O : zOut σ b) : z_ix (0 : Int32) (z_ln σ (b + 123)) = true := by rw [O.2.1]; rfl
theorem zx_l {β : Type} (k : Nat) (A : Nat → Option β) (C : Int32 → Option β) : zx (.inl k) A C = A k := rfl
theorem zx_r {β : Type} (v : Int32) (A : Nat → Option β) (C : Int32 → Option β) : zx (.inr v) A C = C v := rfl
/-- the end of a case of the law: rows and answers agree -/
theorem L_fin {σ2 : zSt} {r v : Int32} {β : Type} {X Y : Option β} (o : z_ob σ2 (b + 118) 9 = true) (t : z_I σ2 (b + 118) 4 = r) (O : zOut σ2 b) (hJ : r = 0 → z_J σ2 (b + 123) 0 = v.toInt64) :
    (if z_ob σ2 (b + 118) 9 = true then zb (f_X10_thrown σ2 (b + 118)) (fun r12 => if r12 = r then (if r = 0 then (if z_ar σ2 (b + 123) 2 = true then (if z_ix (0 : Int32) (z_ln σ2 (b + 123)) = true then (if lg_cmp (z_J σ2 (b + 123) (0 : Int32).toNatClampNeg) v.toInt64 = 0 then X else Y) else none) else none) else X) else Y) else none) = X := by
  have e : f_X10_thrown σ2 (b + 118) = some (z_I σ2 (b + 118) 4) := by unfold f_X10_thrown; rw [if_pos o]
  rw [if_pos o, e, zb_eq, t, if_pos rfl]
  by_cases h0 : r = 0
  · rw [if_pos h0, if_pos O.1, if_pos (zOut_ix O), if_pos]
    rw [lg_cmp_eq]
    exact hJ h0
  · rw [if_neg h0]
/-- class and reference have answered: all is at rest again -/
theorem zW_fin {σ1 σ2 : zSt} {g' : zG} {k' tl' : Nat} {gs' : Nat → zG} {tx' : Nat → Int32} {B' V' : Nat} (hC : zC σ1 b g' k' gs' tl' tx') (O1 : zOut σ1 b) (hM : zM σ2 b g' k' gs' tl' tx') (F : zFM b σ1 σ2) (hI : s_I g' B' V') (hgs : ∀ i, i < k' → s_I (gs' i) B' V') (hk : k' ≤ 4) (ht : tl' ≤ 120) (htx : ∀ j, j < tl' → ∃ c, c < 128 ∧ tx' j = n32 c) : zW σ2 b g' k' gs' tl' tx' B' V' ∧ zOut σ2 b ∧ z_J σ2 = z_J σ1 := by
  have O2 : zOut σ2 b := ⟨by rw [z_ar_eq F.2.1]; exact O1.1, by rw [z_ln_eq F.2.1]; exact O1.2.1, by rw [F.1]; exact O1.2.2⟩
  exact ⟨⟨zC_reg (zEq_FM F (by omega)) hC, hM, hI, hgs, hk, ht, htx, O2⟩, O2, F.2.2.2.1⟩
end TOP
