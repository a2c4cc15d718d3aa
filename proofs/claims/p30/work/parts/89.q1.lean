/-! A NEW LINE -/
/-- what lies below n is as it was, but A's reference j -/
def zU (n A j : Nat) (σ σ' : zSt) : Prop :=
  (∀ q, q < n → z_ob σ' q = z_ob σ q) ∧ (∀ q, q < n → z_ar σ' q = z_ar σ q) ∧ (∀ q, q < n → z_ln σ' q = z_ln σ q) ∧ (∀ q, q < n → z_I σ' q = z_I σ q) ∧ (∀ q, q < n → z_J σ' q = z_J σ q) ∧ (∀ q i, q < n → (q ≠ A ∨ i ≠ j) → z_R σ' q i = z_R σ q i) ∧ ∀ q, q < n → z_sh σ' q = z_sh σ q
theorem zU_of {n A j : Nat} {σ σ' : zSt} (hs : ∀ q, q < n → z_sh σ' q = z_sh σ q) (hI : ∀ q, q < n → z_I σ' q = z_I σ q) (hJ : ∀ q, q < n → z_J σ' q = z_J σ q) (hR : ∀ q i, q < n → (q ≠ A ∨ i ≠ j) → z_R σ' q i = z_R σ q i) : zU n A j σ σ' :=
  ⟨fun q h => z_ob_at (hs q h), fun q h => z_ar_at (hs q h), fun q h => z_ln_at (hs q h), hI, hJ, hR, hs⟩
section NEW
variable {σ : zSt}
theorem z_ob_nwo (t : zSh) {q : Nat} (h : q < z_nx σ) : z_ob (z_nw σ t) q = z_ob σ q := z_ob_at (by rw [z_sh_nw, if_neg (by omega)])
theorem z_ar_nwo (t : zSh) {q : Nat} (h : q < z_nx σ) : z_ar (z_nw σ t) q = z_ar σ q := z_ar_at (by rw [z_sh_nw, if_neg (by omega)])
theorem z_ln_nwo (t : zSh) {q : Nat} (h : q < z_nx σ) : z_ln (z_nw σ t) q = z_ln σ q := z_ln_at (by rw [z_sh_nw, if_neg (by omega)])
theorem z_ob_nwn (c : Nat) : z_ob (z_nw σ (.inl c)) (z_nx σ) c = true := by
  unfold z_ob
  rw [z_sh_nw, if_pos rfl]
  exact beq_self_eq_true c
theorem sh_ob_of {q c : Nat} (h : z_sh σ q = some (.inl c)) : z_ob σ q c = true := by
  unfold z_ob
  rw [h]
  exact beq_self_eq_true c
theorem sh_ar_of {q c n : Nat} (h : z_sh σ q = some (.inr (c, n))) : z_ar σ q c = true := by
  unfold z_ar
  rw [h]
  exact beq_self_eq_true c
theorem sh_ln_of {q c n : Nat} (h : z_sh σ q = some (.inr (c, n))) : z_ln σ q = n := by
  unfold z_ln
  rw [h]
theorem I_nwo (t : zSh) {q : Nat} (h : q < z_nx σ) : z_I (z_nw σ t) q = z_I σ q := by funext j; rw [z_I_nw, if_neg (by omega)]
theorem J_nwo (t : zSh) {q : Nat} (h : q < z_nx σ) : z_J (z_nw σ t) q = z_J σ q := by funext j; rw [z_J_nw, if_neg (by omega)]
theorem R_nwo (t : zSh) {q : Nat} (h : q < z_nx σ) (j : Nat) : z_R (z_nw σ t) q j = z_R σ q j := by rw [z_R_nw, if_neg (by omega)]
/-- a cell is made, and named by A's reference j -/
theorem u_one {A j : Nat} (t : zSh) (hA : A < z_nx σ) : ∃ σ', z_pR (z_nw σ t) A j (some (z_nx σ)) = σ' ∧ zU (z_nx σ) A j σ σ' ∧ z_nx σ' = z_nx σ + 1 ∧ z_R σ' A j = some (z_nx σ) ∧ z_sh σ' (z_nx σ) = some t ∧ (∀ i, z_I σ' (z_nx σ) i = 0) ∧ ∀ i, z_J σ' (z_nx σ) i = 0 := by
  refine ⟨_, rfl, zU_of (fun q h => ?_) (fun q h => I_nwo t h) (fun q h => J_nwo t h) (fun q i h hd => ?_), rfl, ?_, ?_, fun i => ?_, fun i => ?_⟩
  · rw [z_sh_pR, z_sh_nw, if_neg (by omega)]
  · rw [z_R_pR, if_neg (by omega)]; exact R_nwo t h i
  · rw [z_R_pR, if_pos ⟨rfl, rfl⟩]
  · rw [z_sh_pR, z_sh_nw, if_pos rfl]
  · rw [z_I_pR, z_I_nw, if_pos rfl]
  · rw [z_J_pR, z_J_nw, if_pos rfl]
/-- a table is made, and named -/
theorem u_tab {A j : Nat} {n w k : Nat} (hA : A < z_nx σ) (hp : (0 : Int32) < n32 n * n32 w) (hc : z_nl (n32 n * n32 w) 600 = true) (hk : (n32 n * n32 w).toNatClampNeg = k) : ∃ σ1 σ', f_X7_init (z_nw σ (.inl 7)) (z_nx σ) (n32 n) (n32 w) = some σ1 ∧ (∀ q, q < z_nx σ → z_ob σ1 q = z_ob σ q) ∧ z_pR σ1 A j (some (z_nx σ)) = σ' ∧ zU (z_nx σ) A j σ σ' ∧ z_nx σ' = z_nx σ + 2 ∧ z_R σ' A j = some (z_nx σ) ∧ z_sh σ' (z_nx σ) = some (.inl 7) ∧ z_sh σ' (z_nx σ + 1) = some (.inr (0, k)) ∧ z_R σ' (z_nx σ) 1 = some (z_nx σ + 1) ∧ z_I σ' (z_nx σ) 0 = n32 w := by
  have e1 : z_nx (z_pI (z_nw σ (.inl 7)) (z_nx σ) 0 (n32 w)) = z_nx σ + 1 := rfl
  have o1 : z_ob (z_nw σ (.inl 7)) (z_nx σ) 7 = true := z_ob_nwn 7
  have o2 : z_ob (z_nw (z_pI (z_nw σ (.inl 7)) (z_nx σ) 0 (n32 w)) (.inr (0, k))) (z_nx σ) 7 = true := by
    rw [z_ob_nwo _ (by rw [e1]; omega), z_ob_pI]; exact o1
  refine ⟨z_pR (z_nw (z_pI (z_nw σ (.inl 7)) (z_nx σ) 0 (n32 w)) (.inr (0, k))) (z_nx σ) 1 (some (z_nx σ + 1)), _, ?_, fun q h => ?_, rfl, zU_of (fun q h => ?_) (fun q h => ?_) (fun q h => ?_) (fun q i h hd => ?_), rfl, ?_, ?_, ?_, ?_, ?_⟩
  · simp only [f_X7_init, if_pos hp, ↓zl_eq, ↓zb_eq, ↓zb2_eq, ↓zc_some, ↓zc_none, ↓zb_pre, ↓zb2_pre, ↓zc_pre, ↓zex_eq, ↓reduceIte, Option.isSome_some, Option.isSome_none, Option.getD_some, o1, hc, hk, o2, e1]
  · exact z_ob_at (by rw [z_sh_pR, z_sh_nw, if_neg (by rw [e1]; omega), z_sh_pI, z_sh_nw, if_neg (by omega)])
  · rw [z_sh_pR, z_sh_pR, z_sh_nw, if_neg (by rw [e1]; omega), z_sh_pI, z_sh_nw, if_neg (by omega)]
  · funext i; rw [z_I_pR, z_I_pR, I_nwo _ (by rw [e1]; omega), z_I_pI, if_neg (by omega), I_nwo _ h]
  · rw [z_J_pR, z_J_pR, J_nwo _ (by rw [e1]; omega), z_J_pI, J_nwo _ h]
  · rw [z_R_pR, if_neg (by omega), z_R_pR, if_neg (by omega), R_nwo _ (by rw [e1]; omega), z_R_pI, R_nwo _ h]
  · rw [z_R_pR, if_pos ⟨rfl, rfl⟩]
  · rw [z_sh_pR, z_sh_pR, z_sh_nw, if_neg (by rw [e1]; omega), z_sh_pI, z_sh_nw, if_pos rfl]
  · rw [z_sh_pR, z_sh_pR, z_sh_nw, if_pos (by rw [e1])]
  · rw [z_R_pR, if_neg (by omega), z_R_pR, if_pos ⟨rfl, rfl⟩]
  · rw [z_I_pR, z_I_pR, I_nwo _ (by rw [e1]; omega), z_I_pI, if_pos ⟨rfl, rfl⟩]
end NEW
