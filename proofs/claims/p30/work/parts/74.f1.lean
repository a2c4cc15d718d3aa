/-! THE WHOLE OF THE CLASS, at b, and of the reference, at b + 118 -/
def zEq (lo hi : Nat) (σ σ' : zSt) : Prop := ∀ q, lo ≤ q → q < hi → z_sh σ' q = z_sh σ q ∧ z_I σ' q = z_I σ q ∧ z_J σ' q = z_J σ q ∧ z_R σ' q = z_R σ q
theorem zEq_r (lo hi : Nat) (σ : zSt) : zEq lo hi σ σ := fun _ _ _ => ⟨rfl, rfl, rfl, rfl⟩
theorem zEq_t {lo hi : Nat} {σ σ' σ'' : zSt} (h : zEq lo hi σ σ') (h2 : zEq lo hi σ' σ'') : zEq lo hi σ σ'' := fun q a b =>
  ⟨(h2 q a b).1.trans (h q a b).1, (h2 q a b).2.1.trans (h q a b).2.1, (h2 q a b).2.2.1.trans (h q a b).2.2.1, (h2 q a b).2.2.2.trans (h q a b).2.2.2⟩
theorem zEq_s {lo hi lo' hi' : Nat} {σ σ' : zSt} (h : zEq lo hi σ σ') (h1 : lo ≤ lo') (h2 : hi' ≤ hi) : zEq lo' hi' σ σ' := fun q a b => h q (by omega) (by omega)
theorem zEq_fw {a lo hi : Nat} {σ σ' : zSt} (h : zFw a σ σ') (hd : hi ≤ a ∨ a + 19 ≤ lo) : zEq lo hi σ σ' := fun q h1 h2 => by
  have := h.2.2 q (by omega)
  exact ⟨by rw [h.2.1], this⟩
theorem z_ob_at {σ σ' : zSt} {q : Nat} (h : z_sh σ' q = z_sh σ q) : z_ob σ' q = z_ob σ q := by funext c; unfold z_ob; rw [h]
theorem z_ar_at {σ σ' : zSt} {q : Nat} (h : z_sh σ' q = z_sh σ q) : z_ar σ' q = z_ar σ q := by funext c; unfold z_ar; rw [h]
theorem z_ln_at {σ σ' : zSt} {q : Nat} (h : z_sh σ' q = z_sh σ q) : z_ln σ' q = z_ln σ q := by unfold z_ln; rw [h]
theorem zLs_reg {σ σ' : zSt} {a : Nat} (E : zEq a (a + 19) σ σ') (h : zLs σ a) : zLs σ' a := by
  have e : ∀ k, k < 19 → z_sh σ' (a + k) = z_sh σ (a + k) := fun k hk => (E _ (by omega) (by omega)).1
  have r : ∀ k, k < 19 → z_R σ' (a + k) = z_R σ (a + k) := fun k hk => (E _ (by omega) (by omega)).2.2.2
  have e0 : z_sh σ' a = z_sh σ a := e 0 (by omega)
  have r0 : z_R σ' a = z_R σ a := r 0 (by omega)
  unfold zLs
  rw [z_ob_at e0, r0, z_ar_at (e 1 (by omega)), z_ln_at (e 1 (by omega)), z_ob_at (e 2 (by omega)), r 2 (by omega), z_ob_at (e 3 (by omega)), r 3 (by omega), z_ar_at (e 4 (by omega)), z_ln_at (e 4 (by omega)), z_ob_at (e 5 (by omega)), r 5 (by omega), z_ar_at (e 6 (by omega)), z_ln_at (e 6 (by omega)), z_ar_at (e 7 (by omega)), z_ln_at (e 7 (by omega)), z_ob_at (e 8 (by omega)), z_ob_at (e 9 (by omega)), r 9 (by omega), z_ar_at (e 10 (by omega)), z_ln_at (e 10 (by omega))]
  exact h
theorem zPl_reg {σ σ' : zSt} {a : Nat} {pl : Nat → Nat} (E : zEq a (a + 19) σ σ') (h : zPl σ a pl) : zPl σ' a pl := by
  refine ⟨fun i hi => ?_, h.2⟩
  have := h.1 i hi
  rw [(E (a + 1) (by omega) (by omega)).2.2.2, z_ob_at (E (pl i) (by omega) (by omega)).1]
  exact this
theorem zC0_reg {σ σ' : zSt} {a n : Nat} {pl ad : Nat → Nat} {qu : Nat → Nat → Nat} {g : zG} (E : zEq a (a + 19) σ σ') (h : zC0 σ a pl ad qu n g) : zC0 σ' a pl ad qu n g := by
  obtain ⟨h1, h2, rL, rW, rM, rN, rC, rA, rS, rQ⟩ := h
  have I : ∀ k, k < 19 → z_I σ' (a + k) = z_I σ (a + k) := fun k hk => (E _ (by omega) (by omega)).2.1
  have I0 : z_I σ' a = z_I σ a := I 0 (by omega)
  have hp : ∀ i, i < n → z_I σ' (pl i) = z_I σ (pl i) := fun i hi => by
    have := (h2.1 i (by have := rA.1; omega)).2.2
    exact (E _ (by omega) (by omega)).2.1
  refine ⟨zLs_reg E h1, zPl_reg E h2, ?_, ?_, qM_congr (I 2 (by omega)) (I 4 (by omega)) (sMs_r g) rM, qN_congr (I 5 (by omega)) (I 6 (by omega)) (I 7 (by omega)) rfl (fun _ _ => rfl) rN, qC_congr (I 8 (by omega)) (by rw [(E (a + 8) (by omega) (by omega)).2.2.1]) (fun _ _ _ => rfl) (sMs_r g) rC, rA, ?_, qQ_congr (I 4 (by omega)) (fun i hi => by rw [hp i hi]; exact ⟨rfl, rfl⟩) (sMs_r g) rQ⟩
  · unfold qL; rw [I0]; exact rL
  · unfold qW; rw [I 3 (by omega), I 9 (by omega)]; exact rW
  · intro i hi; rw [hp i hi]; exact rS i hi
theorem qG_reg {σ σ' : zSt} {a : Nat} {g : zG} (E : zEq a (a + 19) σ σ') (h : qG σ a g) : qG σ' a g := qG_congr (E (a + 10) (by omega) (by omega)).2.1 rfl rfl (fun _ _ => rfl) h
theorem zLn_reg {σ σ' : zSt} {a : Nat} {g : zG} (E : zEq a (a + 19) σ σ') (h : zLn σ a g) : zLn σ' a g := by
  obtain ⟨pl, ad, qu, n, h1, h2, h3, h4⟩ := h
  have := zC0_reg E ⟨h1, h2, h3⟩
  exact ⟨pl, ad, qu, n, this.1, this.2.1, this.2.2, qG_reg E h4⟩
theorem zBl_reg {σ σ' : zSt} {a : Nat} (E : zEq a (a + 19) σ σ') (h : zBl σ a) : zBl σ' a := by
  obtain ⟨h1, ⟨pl, h2⟩, h3⟩ := h
  refine ⟨zLs_reg E h1, ⟨pl, zPl_reg E h2⟩, ?_⟩
  unfold qW; rw [(E (a + 3) (by omega) (by omega)).2.1, (E (a + 9) (by omega) (by omega)).2.1]; exact h3
theorem zSv_reg {σ σ' : zSt} {hs k : Nat} {hl : Nat → Nat} {gs : Nat → zG} (E : zEq hs (hs + 2) σ σ') (EL : ∀ i, i < 4 → zEq (hl i) (hl i + 19) σ σ') (h : zSv σ hs hl k gs) : zSv σ' hs hl k gs := by
  obtain ⟨⟨h1, h2, h3, h4, h5⟩, hk, hk4, hg, hb, hp⟩ := h
  have e0 := E hs (by omega) (by omega)
  have e1 := E (hs + 1) (by omega) (by omega)
  refine ⟨⟨by rw [z_ob_at e0.1]; exact h1, by rw [e0.2.2.2]; exact h2, by rw [z_ar_at e1.1]; exact h3, by rw [z_ln_at e1.1]; exact h4, fun i hi => by rw [e1.2.2.2, z_ob_at (EL i hi _ (by omega) (by omega)).1]; exact h5 i hi⟩, by rw [e0.2.1]; exact hk, hk4, fun i hi => ⟨zLn_reg (EL i (by omega)) (hg i hi).1, (hg i hi).2⟩, fun i hi => ⟨zBl_reg (EL i hi) (hb i hi).1, (hb i hi).2⟩, hp⟩
/-- the shapes of the class's own cells -/
def zTo (σ : zSt) (b : Nat) : Prop := z_ob σ b 8 = true ∧ z_R σ b 0 = some (b + 1) ∧ z_R σ b 1 = some (b + 20) ∧ z_R σ b 2 = some (b + 39) ∧ z_R σ b 3 = some (b + 117) ∧ z_ar σ (b + 117) 1 = true ∧ z_ln σ (b + 117) = 120
/-- the long that answers stand in -/
def zOut (σ : zSt) (b : Nat) : Prop := z_ar σ (b + 123) 2 = true ∧ z_ln σ (b + 123) = 1 ∧ b + 124 ≤ z_nx σ
/-- the class: its line is g, its saved states gs 0 .. gs (k - 1), its text tx 0 .. tx (tl - 1) -/
def zC (σ : zSt) (b : Nat) (g : zG) (k : Nat) (gs : Nat → zG) (tl : Nat) (tx : Nat → Int32) : Prop :=
  zTo σ b ∧ zLn σ (b + 1) g ∧ zBl σ (b + 20) ∧ (∃ hl, zSv σ (b + 39) hl k gs ∧ ∀ i, i < 4 → b + 41 ≤ hl i ∧ hl i + 19 ≤ b + 117) ∧ z_I σ b 4 = n32 tl ∧ ∀ j, j < tl → z_I σ (b + 117) j = tx j
theorem zC_reg {σ σ' : zSt} {b k tl : Nat} {g : zG} {gs : Nat → zG} {tx : Nat → Int32} (E : zEq b (b + 118) σ σ') (h : zC σ b g k gs tl tx) : zC σ' b g k gs tl tx := by
  obtain ⟨⟨t1, t2, t3, t4, t5, t6, t7⟩, hl, hb, ⟨hl', hs, hr⟩, h4, ht⟩ := h
  have e0 := E b (by omega) (by omega)
  have e1 := E (b + 117) (by omega) (by omega)
  refine ⟨⟨by rw [z_ob_at e0.1]; exact t1, by rw [e0.2.2.2]; exact t2, by rw [e0.2.2.2]; exact t3, by rw [e0.2.2.2]; exact t4, by rw [e0.2.2.2]; exact t5, by rw [z_ar_at e1.1]; exact t6, by rw [z_ln_at e1.1]; exact t7⟩, zLn_reg (zEq_s E (by omega) (by omega)) hl, zBl_reg (zEq_s E (by omega) (by omega)) hb, ⟨hl', zSv_reg (zEq_s E (by omega) (by omega)) (fun i hi => zEq_s E (by have := hr i hi; omega) (by have := hr i hi; omega)) hs, hr⟩, by rw [e0.2.1]; exact h4, fun j hj => by rw [e1.2.1]; exact ht j hj⟩
/-- the line is changed -/
theorem zC_line {σ σ' : zSt} {b k tl : Nat} {g g' : zG} {gs : Nat → zG} {tx : Nat → Int32} (F : zFw (b + 1) σ σ') (hl : zLn σ' (b + 1) g') (h : zC σ b g k gs tl tx) : zC σ' b g' k gs tl tx := by
  obtain ⟨⟨t1, t2, t3, t4, t5, t6, t7⟩, _, hb, ⟨hl', hs, hr⟩, h4, ht⟩ := h
  have e0 := F.2.2 b (by omega)
  have e1 := F.2.2 (b + 117) (by omega)
  have es := F.2.1
  refine ⟨⟨by rw [z_ob_eq es]; exact t1, by rw [e0.2.2]; exact t2, by rw [e0.2.2]; exact t3, by rw [e0.2.2]; exact t4, by rw [e0.2.2]; exact t5, by rw [z_ar_eq es]; exact t6, by rw [z_ln_eq es]; exact t7⟩, hl, zBl_reg (zEq_fw F (by omega)) hb, ⟨hl', zSv_reg (zEq_fw F (by omega)) (fun i hi => zEq_fw F (by have := hr i hi; omega)) hs, hr⟩, by rw [e0.1]; exact h4, fun j hj => by rw [e1.1]; exact ht j hj⟩
/-- the line for trials is changed -/
theorem zC_trial {σ σ' : zSt} {b k tl : Nat} {g : zG} {gs : Nat → zG} {tx : Nat → Int32} (F : zFw (b + 20) σ σ') (hl : zBl σ' (b + 20)) (h : zC σ b g k gs tl tx) : zC σ' b g k gs tl tx := by
  obtain ⟨⟨t1, t2, t3, t4, t5, t6, t7⟩, ha, _, ⟨hl', hs, hr⟩, h4, ht⟩ := h
  have e0 := F.2.2 b (by omega)
  have e1 := F.2.2 (b + 117) (by omega)
  have es := F.2.1
  refine ⟨⟨by rw [z_ob_eq es]; exact t1, by rw [e0.2.2]; exact t2, by rw [e0.2.2]; exact t3, by rw [e0.2.2]; exact t4, by rw [e0.2.2]; exact t5, by rw [z_ar_eq es]; exact t6, by rw [z_ln_eq es]; exact t7⟩, zLn_reg (zEq_fw F (by omega)) ha, hl, ⟨hl', zSv_reg (zEq_fw F (by omega)) (fun i hi => zEq_fw F (by have := hr i hi; omega)) hs, hr⟩, by rw [e0.1]; exact h4, fun j hj => by rw [e1.1]; exact ht j hj⟩
/-- the saved states with one more -/
def s_pk (k : Nat) : Nat := if k = 4 then 4 else k + 1
def s_pg (k : Nat) (gs : Nat → zG) (g : zG) : Nat → zG := if k = 4 then (fun i => if i = 3 then g else gs (i + 1)) else (fun i => if i = k then g else gs i)
/-- the class saves its state -/
theorem zC_save {σ : zSt} {b k tl : Nat} {g : zG} {gs : Nat → zG} {tx : Nat → Int32} (h : zC σ b g k gs tl tx) (hN : s_num g) :
    ∃ σ', f_X1_save σ (b + 39) (b + 1) = some σ' ∧ zC σ' b g (s_pk k) (s_pg k gs g) tl tx ∧ z_nx σ' = z_nx σ ∧ z_sh σ' = z_sh σ ∧ zEq b (b + 39) σ σ' ∧ ∀ hi, zEq (b + 117) hi σ σ' := by
  obtain ⟨ht, hl, hb, ⟨hl', hs, hr⟩, h4, htx⟩ := h
  have fin : ∀ (σ' : zSt) (hl2 : Nat → Nat) (k' : Nat) (gs' : Nat → zG), zSv σ' (b + 39) hl2 k' gs' → (∀ i, i < 4 → b + 41 ≤ hl2 i ∧ hl2 i + 19 ≤ b + 117) → zHo σ σ' (b + 39) hl' → zC σ' b g k' gs' tl tx ∧ z_nx σ' = z_nx σ ∧ z_sh σ' = z_sh σ ∧ zEq b (b + 39) σ σ' ∧ ∀ hi, zEq (b + 117) hi σ σ' := by
    intro σ' hl2 k' gs' hs' hr' ho
    have E1 : zEq b (b + 39) σ σ' := fun q h1 h2 => by
      have := ho.2.2.2 q (by omega) (fun i hi => by have := hr i hi; omega)
      exact ⟨by rw [ho.2.1], this.1, this.2, ho.2.2.1 q (by omega)⟩
    have E2 : ∀ hi, zEq (b + 117) hi σ σ' := fun hi q h1 h2 => by
      have := ho.2.2.2 q (by omega) (fun i hi => by have := hr i hi; omega)
      exact ⟨by rw [ho.2.1], this.1, this.2, ho.2.2.1 q (by omega)⟩
    obtain ⟨t1, t2, t3, t4, t5, t6, t7⟩ := ht
    have e0 := E1 b (by omega) (by omega)
    have e1 := E2 (b + 118) (b + 117) (by omega) (by omega)
    refine ⟨⟨⟨by rw [z_ob_at e0.1]; exact t1, by rw [e0.2.2.2]; exact t2, by rw [e0.2.2.2]; exact t3, by rw [e0.2.2.2]; exact t4, by rw [e0.2.2.2]; exact t5, by rw [z_ar_at e1.1]; exact t6, by rw [z_ln_at e1.1]; exact t7⟩, zLn_reg (zEq_s E1 (by omega) (by omega)) hl, zBl_reg (zEq_s E1 (by omega) (by omega)) hb, ⟨hl2, hs', hr'⟩, by rw [e0.2.1]; exact h4, fun j hj => by rw [e1.2.1]; exact htx j hj⟩, ho.1, ho.2.1, E1, E2⟩
  by_cases hk : k = 4
  · subst hk
    obtain ⟨σ', E, S, ho⟩ := c_save4 hs hl hN (fun i hi => by have := hr i hi; omega) (by omega)
    refine ⟨σ', E, ?_⟩
    unfold s_pk s_pg
    rw [if_pos rfl, if_pos rfl]
    refine fin σ' (s_hl hl') 4 _ S (fun i hi => ?_) ho
    obtain ⟨j, hj, e, _⟩ := s_hl_lt i hl' hi
    rw [e]; exact hr j hj
  · have hk4 := hs.2.2.1
    obtain ⟨σ', E, S, ho⟩ := c_save3 hs (by omega) hl hN (fun i hi => by have := hr i hi; omega)
    refine ⟨σ', E, ?_⟩
    unfold s_pk s_pg
    rw [if_neg hk, if_neg hk]
    exact fin σ' hl' _ _ S hr ho
theorem s_pg_I {k : Nat} {gs : Nat → zG} {g : zG} {B V : Nat} (hk : k ≤ 4) (hg : s_I g B V) (h : ∀ i, i < k → s_I (gs i) B V) : ∀ i, i < s_pk k → s_I (s_pg k gs g i) B V := by
  intro i hi
  unfold s_pk at hi
  unfold s_pg
  by_cases hk4 : k = 4
  · rw [if_pos hk4] at hi ⊢
    by_cases h3 : i = 3
    · rw [h3]; exact hg
    · show s_I (if i = 3 then g else gs (i + 1)) B V
      rw [if_neg h3]; exact h (i + 1) (by omega)
  · rw [if_neg hk4] at hi ⊢
    show s_I (if i = k then g else gs i) B V
    by_cases h3 : i = k
    · rw [if_pos h3]; exact hg
    · rw [if_neg h3]; exact h i (by omega)
/-- the reference's frame -/
def zFM (b : Nat) (σ σ' : zSt) : Prop := z_nx σ' = z_nx σ ∧ z_sh σ' = z_sh σ ∧ z_R σ' = z_R σ ∧ z_J σ' = z_J σ ∧ ∀ q, (q < b + 118 ∨ b + 123 ≤ q) → z_I σ' q = z_I σ q
theorem zFM_r (b : Nat) (σ : zSt) : zFM b σ σ := ⟨rfl, rfl, rfl, rfl, fun _ _ => rfl⟩
theorem zFM_t {b : Nat} {σ σ' σ'' : zSt} (h : zFM b σ σ') (h2 : zFM b σ' σ'') : zFM b σ σ'' := ⟨h2.1.trans h.1, h2.2.1.trans h.2.1, h2.2.2.1.trans h.2.2.1, h2.2.2.2.1.trans h.2.2.2.1, fun q hq => (h2.2.2.2.2 q hq).trans (h.2.2.2.2 q hq)⟩
theorem zFM_sA {b : Nat} (σ : zSt) {A : Nat} (h1 : b + 118 ≤ A) (h2 : A < b + 123) (f : zG) : zFM b σ (z_sA σ A f) := ⟨rfl, rfl, rfl, rfl, fun q hq => z_I_sAn _ _ _ (by omega)⟩
theorem zEq_FM {b lo hi : Nat} {σ σ' : zSt} (h : zFM b σ σ') (hd : hi ≤ b + 118 ∨ b + 123 ≤ lo) : zEq lo hi σ σ' := fun q h1 h2 => ⟨by rw [h.2.1], h.2.2.2.2 q (by omega), by rw [h.2.2.2.1], by rw [h.2.2.1]⟩
