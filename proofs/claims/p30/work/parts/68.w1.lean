/-! CHANGES OF A LINE: stations switched, times, noises -/
def s_sw (g : zG) (x : Nat) (on : Bool) : zG :=
  if on = true then gu g (18 + 7 * x + 1) (n32 1) else if g 4 = n32 x then gu (gu (gu g (18 + 7 * x + 1) (n32 0)) (18 + 7 * x + 2) (n32 0)) 4 nn else gu (gu g (18 + 7 * x + 1) (n32 0)) (18 + 7 * x + 2) (n32 0)
def s_swR (g : zG) (x : Nat) (had on : Bool) : zG :=
  if had = true then (if on = true then g else gu (gu (gu g (18 + 7 * x + 1) (n32 0)) (18 + 7 * x + 2) (n32 0)) 4 (if g 4 = n32 x then nn else g 4)) else (if on = true then gu g (18 + 7 * x + 1) (n32 1) else g)
theorem gu_id2 (g : zG) (k : Nat) {v : Int32} (h : g k = v) : gu g k v = g := by rw [← h]; exact gu_id g k
theorem s_sw_eq {g : zG} (H : s_sta g) (ho : s_hon g) {x : Nat} (hx : x < 32) (hz : g (18 + 7 * x + 0) = n32 1) (on : Bool) : s_swR g x (decide (g (18 + 7 * x + 1) = n32 1)) on = s_sw g x on := by
  have st := H x hx hz
  unfold s_swR s_sw
  cases on with
  | true =>
    rcases st.1 with r | r
    · rw [r, d01]; rfl
    · rw [r, d11, gu_id2 g _ r]; rfl
  | false =>
    rcases st.1 with r | r
    · have r2 : g (18 + 7 * x + 2) = n32 0 := by
        rcases st.2.1 with q | q
        · exact q
        · have := st.2.2.1 q
          rw [r] at this
          exact absurd this (by decide)
      have h4 : ¬ g 4 = n32 x := by
        intro he
        rcases ho with h | ⟨y, hy, h1, h2⟩
        · rw [h] at he
          have : (n32 x = nn) := he.symm
          rw [n32_ne (by omega)] at this
          exact this
        · rw [he, n32_eq (by omega) (by omega)] at h1
          rw [← h1, r] at h2
          exact absurd h2 (by decide)
      have e1 : gu g (18 + 7 * x + 1) (n32 0) = g := gu_id2 g _ r
      rw [r, d01, e1, gu_id2 g _ r2]
      simp [h4]
    · rw [r, d11]
      by_cases h4 : g 4 = n32 x
      · rw [if_pos h4, if_pos h4]; rfl
      · rw [if_neg h4, if_neg h4]
        have e : gu (gu (gu g (18 + 7 * x + 1) (n32 0)) (18 + 7 * x + 2) (n32 0)) 4 (g 4) = gu (gu g (18 + 7 * x + 1) (n32 0)) (18 + 7 * x + 2) (n32 0) := gu_id2 _ _ (by rw [gu_ne _ _ (by omega), gu_ne _ _ (by omega)])
        rw [e]; rfl
theorem bl0 : z_bl (n32 0) = true := rfl
theorem bl1 : z_bl (n32 1) = true := rfl
section CLASS
variable {σ : zSt} {a n : Nat} {pl ad : Nat → Nat} {qu : Nat → Nat → Nat} {g : zG}
theorem c_switch (h : zC0 σ a pl ad qu n g) {i : Nat} (hi : i < n) (on : Bool) : ∃ σ', f_X2_switchStation σ a (pl i) (bi on) = some σ' ∧ zAn σ σ' a pl ad qu n (s_sw g (ad i) on) := by
  have ob := c_ob h hi
  have o1 := h.1.1
  unfold s_sw
  cases on with
  | true =>
    refine ⟨z_pI σ (pl i) 1 (bi true), ?_, c_sta h hi (Or.inl ⟨rfl, rfl⟩) (n32 1)⟩
    simp only [f_X2_switchStation, ↓zl_eq, ↓zb_eq, ↓zb2_eq, ↓zc_some, ↓zc_none, ↓zb_pre, ↓zb2_pre, ↓zc_pre, ↓zex_eq, ↓reduceIte, Option.isSome_some, Option.isSome_none, Option.getD_some, ob, n32_lit, bi_0n, bi_bl, Bool.true_eq_false]
  | false =>
    have A1 := c_sta h hi (Or.inl ⟨rfl, rfl⟩) (n32 0)
    have h1 := zC0_step h A1
    have A2 := c_sta h1 hi (Or.inr (Or.inl ⟨rfl, rfl⟩)) (n32 0)
    have h2 := zC0_step h1 A2
    have hai := (c_ad h hi).1
    have e10 : z_I (z_pI (z_pI σ (pl i) 1 (n32 0)) (pl i) 2 (n32 0)) a 10 = g 4 := by
      rw [(c_L h2).2.2.2.2.2, gu_ne _ _ (by omega), gu_ne _ _ (by omega)]
    have e0 := (c_S h2 hi).1
    have T : f_X2_switchStation σ a (pl i) (bi false) = if g 4 = n32 (ad i) then some (z_pI (z_pI (z_pI σ (pl i) 1 (n32 0)) (pl i) 2 (n32 0)) a 10 nn) else some (z_pI (z_pI σ (pl i) 1 (n32 0)) (pl i) 2 (n32 0)) := by
      simp only [f_X2_switchStation, f_X2_switchStation_31, ↓zl_eq, ↓zb_eq, ↓zb2_eq, ↓zc_some, ↓zc_none, ↓zb_pre, ↓zb2_pre, ↓zc_pre, ↓zex_eq, ↓reduceIte, Option.isSome_some, Option.isSome_none, Option.getD_some, ob, o1, n32_lit, n32_nn2, bi_0n, bi_bl, z_ob_pI, ← bi_f, bl0, e10, e0]
    rw [T, if_neg (show ¬ (false = true) by decide)]
    by_cases h4 : g 4 = n32 (ad i)
    · rw [if_pos h4, if_pos h4]
      exact ⟨_, rfl, zAn_t (zAn_t A1 A2) (c_hold h2 nn)⟩
    · rw [if_neg h4, if_neg h4]
      exact ⟨_, rfl, zAn_t A1 A2⟩
/-- one of T, S, G -/
theorem zRep_top (hP : zPl σ a pl) (h : zRep σ a pl ad qu n g) {k : Nat} (hk : k < 3) (v : Int32) : zRep (z_sA σ a (gu (z_I σ a) (6 + k) v)) a pl ad qu n (gu g k v) := by
  obtain ⟨hRL, hRW, hRM, hRN, hRC, hRA, hRS, hRQ⟩ := h
  have hm : sMs g (gu g k v) := ⟨gu_ne _ _ (by omega), fun m w _ _ => gu_ne _ _ (by omega)⟩
  have hp : ∀ i, i < n → pl i ≠ a := fun i hi => by have := (hP.1 i (by have := hRA.1; omega)).2.2; omega
  refine ⟨?_, ?_, qM_congr (by simp (disch := omega) only [z_I_sA, z_I_sAn, z_J_sA]) (by simp (disch := omega) only [z_I_sA, z_I_sAn, z_J_sA]) hm hRM, qN_congr (by simp (disch := omega) only [z_I_sA, z_I_sAn, z_J_sA]) (by simp (disch := omega) only [z_I_sA, z_I_sAn, z_J_sA]) (by simp (disch := omega) only [z_I_sA, z_I_sAn, z_J_sA]) (gu_ne _ _ (by omega)) (fun k _ => gu_ne _ _ (by omega)) hRN, qC_congr (σ := σ) (by simp (disch := omega) only [z_I_sA, z_I_sAn, z_J_sA]) rfl (fun j h1 h2 => gu_ne _ _ (by omega)) hm hRC, qA_congr (fun x _ => gu_ne _ _ (by omega)) hRA, ?_, qQ_congr (by simp (disch := omega) only [z_I_sA, z_I_sAn, z_J_sA]) (fun i hi => by rw [z_I_sAn _ _ _ (hp i hi)]; exact ⟨rfl, rfl⟩) hm hRQ⟩
  · obtain ⟨h1, h2, h3, h4, h5, h6⟩ := hRL
    unfold qL
    rw [z_I_sA]
    rcases (show k = 0 ∨ k = 1 ∨ k = 2 by omega) with rfl | rfl | rfl <;> simp (disch := omega) only [gu_ne, gu_same, h1, h2, h3, h4, h5, h6, and_self]
  · unfold qW
    simp (disch := omega) only [z_I_sAn]
    exact hRW
  · intro i hi
    have h32 := (hRA.2.1 i hi).1
    rw [z_I_sAn _ _ _ (hp i hi)]
    simp (disch := omega) only [gu_ne]
    exact hRS i hi
theorem c_top (h : zC0 σ a pl ad qu n g) {k : Nat} (hk : k < 3) (v : Int32) : zAn σ (z_pI σ a (6 + k) v) a pl ad qu n (gu g k v) := by
  rw [z_pI_eq]
  exact ⟨zFr_sA _ (Nat.le_refl _) (by omega) _, z_I_sAn _ _ _ (by omega), zRep_top h.2.1 h.2.2 hk v⟩
/-- a noise -/
def s_an (g : zG) (z : Nat) (f t : Int32) : zG := gu (gu (gu g (742 + 2 * z) f) (742 + 2 * z + 1) t) 6 (n32 (z + 1))
theorem s_an_ne (g : zG) (z : Nat) (f t : Int32) {j : Nat} (a : j ≠ 6) (b : j ≠ 742 + 2 * z) (c : j ≠ 742 + 2 * z + 1) : s_an g z f t j = g j := by
  unfold s_an; rw [gu_ne _ _ a, gu_ne _ _ c, gu_ne _ _ b]
theorem c_addNoise (h : zC0 σ a pl ad qu n g) (h5 : s_nat g 5 ≤ 100) {z : Nat} (hz : z < 20) (h6 : g 6 = n32 z) (f t : Int32) : ∃ σ', f_X4_add σ (a + 5) f t = some σ' ∧ zAn σ σ' a pl ad qu n (s_an g z f t) ∧ z_I σ' (a + 5) 2 = n32 (z + 1) := by
  have hL := h.1
  have hP := h.2.1
  obtain ⟨hRL, hRW, hRM, hRN, hRC, hRA, hRS, hRQ⟩ := h.2.2
  have e2 : z_I σ (a + 5) 2 = n32 z := hRN.1.trans h6
  have n6 : s_nat g 6 = z := s_nat_n32 h6 (by omega)
  have sn : ∀ {j : Nat}, j ≠ 6 → j ≠ 742 + 2 * z → j ≠ 742 + 2 * z + 1 → s_an g z f t j = g j := fun a b c => s_an_ne g z f t a b c
  have hm : sMs g (s_an g z f t) := ⟨sn (by omega) (by omega) (by omega), fun m w hm hw => sn (by omega) (by omega) (by omega)⟩
  have o5 := hL.2.2.2.2.2.2.2.2.2.2.2.2.2.2.1
  have r0 := hL.2.2.2.2.2.2.2.2.2.2.2.2.2.2.2.1
  have r1 := hL.2.2.2.2.2.2.2.2.2.2.2.2.2.2.2.2.1
  have a6 := hL.2.2.2.2.2.2.2.2.2.2.2.2.2.2.2.2.2.1
  have l6 := hL.2.2.2.2.2.2.2.2.2.2.2.2.2.2.2.2.2.2.1
  have a7 := hL.2.2.2.2.2.2.2.2.2.2.2.2.2.2.2.2.2.2.2.1
  have l7 := hL.2.2.2.2.2.2.2.2.2.2.2.2.2.2.2.2.2.2.2.2.1
  generalize hs1 : z_sA σ (a + 6) (gu (z_I σ (a + 6)) z f) = σ1
  generalize hs2 : z_sA σ1 (a + 7) (gu (z_I σ (a + 7)) z t) = σ2
  generalize hs3 : z_sA σ2 (a + 5) (gu (z_I σ (a + 5)) 2 (n32 (z + 1))) = σ3
  have q1 : ∀ q, q ≠ a + 6 → z_I σ1 q = z_I σ q := fun q hq => by rw [← hs1]; exact z_I_sAn _ _ _ hq
  have q2 : ∀ q, q ≠ a + 6 → q ≠ a + 7 → z_I σ2 q = z_I σ q := fun q hq hq2 => by rw [← hs2, z_I_sAn _ _ _ hq2]; exact q1 q hq
  have q3 : ∀ q, q ≠ a + 6 → q ≠ a + 7 → q ≠ a + 5 → z_I σ3 q = z_I σ q := fun q hq hq2 hq3 => by rw [← hs3, z_I_sAn _ _ _ hq3]; exact q2 q hq hq2
  have F : zFr a σ σ3 := by
    rw [← hs3, ← hs2, ← hs1]
    exact zFr_t (zFr_sA _ (by omega) (by omega) _) (zFr_t (zFr_sA _ (by omega) (by omega) _) (zFr_sA _ (by omega) (by omega) _))
  have J : z_J σ3 = z_J σ := by rw [← hs3, ← hs2, ← hs1]; rfl
  have i6 : z_I σ3 (a + 6) = gu (z_I σ (a + 6)) z f := by rw [← hs3, z_I_sAn _ _ _ (by omega), ← hs2, z_I_sAn _ _ _ (by omega), ← hs1, z_I_sA]
  have i7 : z_I σ3 (a + 7) = gu (z_I σ (a + 7)) z t := by rw [← hs3, z_I_sAn _ _ _ (by omega), ← hs2, z_I_sA]
  have i5 : z_I σ3 (a + 5) = gu (z_I σ (a + 5)) 2 (n32 (z + 1)) := by rw [← hs3, z_I_sA]
  have hp : ∀ i, i < n → z_I σ3 (pl i) = z_I σ (pl i) := fun i hi => by
    have := (hP.1 i (by have := hRA.1; omega)).2.2
    exact q3 _ (by omega) (by omega) (by omega)
  refine ⟨σ3, ?_, ⟨F, q3 _ (by omega) (by omega) (by omega), ?_, ?_, ?_, ?_, ?_, ?_, ?_, ?_⟩, by rw [i5, gu_same]⟩
  · have eo : z_ob σ1 = z_ob σ ∧ z_R σ1 = z_R σ ∧ z_ar σ1 = z_ar σ ∧ z_ln σ1 = z_ln σ := by rw [← hs1]; exact ⟨rfl, rfl, rfl, rfl⟩
    have eo2 : z_ob σ2 = z_ob σ := by rw [← hs2, ← hs1]; rfl
    have p1 : z_pI σ (a + 6) z f = σ1 := by rw [z_pI_eq]; exact hs1
    have p2 : z_pI σ1 (a + 7) z t = σ2 := by rw [z_pI_eq, q1 _ (by omega)]; exact hs2
    have p3 : z_pI σ2 (a + 5) 2 (n32 (z + 1)) = σ3 := by rw [z_pI_eq, q2 _ (by omega) (by omega)]; exact hs3
    have e21 : z_I σ1 (a + 5) 2 = n32 z := by rw [q1 _ (by omega)]; exact e2
    have e22 : z_I σ2 (a + 5) 2 = n32 z := by rw [q2 _ (by omega) (by omega)]; exact e2
    simp (disch := omega) only [f_X4_add, f_X4_add_46, ↓zl_eq, ↓zb_eq, ↓zb2_eq, ↓zc_some, ↓zc_none, ↓zb_pre, ↓zb2_pre, ↓zc_pre, ↓zex_eq, ↓reduceIte, Option.isSome_some, Option.isSome_none, Option.getD_some, n32_lit, n32_lt, n32_le, o5, e2, r0, a6, l6, n32_ix, n32_toNat, p1, eo.1, eo.2.1, eo.2.2.1, eo.2.2.2, r1, a7, l7, e21, p2, eo2, e22, n32_add, p3]
    rw [if_neg (by omega), if_neg (by omega)]
  · unfold qL
    rw [q3 _ (by omega) (by omega) (by omega)]
    simp (disch := omega) only [sn]
    exact hRL
  · unfold qW
    rw [q3 _ (by omega) (by omega) (by omega), q3 _ (by omega) (by omega) (by omega)]
    exact hRW
  · exact qM_congr (q3 _ (by omega) (by omega) (by omega)) (q3 _ (by omega) (by omega) (by omega)) hm hRM
  · have g6 : s_an g z f t 6 = n32 (z + 1) := by unfold s_an; rw [gu_same]
    have n6' : s_nat (s_an g z f t) 6 = z + 1 := s_nat_n32 g6 (by omega)
    refine ⟨by rw [i5, gu_same, g6], fun k hk => ?_⟩
    rw [n6'] at hk
    rw [i6, i7]
    by_cases hkz : k = z
    · subst hkz
      unfold s_an
      rw [gu_same, gu_same, gu_ne _ _ (by omega), gu_ne _ _ (by omega), gu_same, gu_ne _ _ (by omega), gu_same]
      exact ⟨rfl, rfl⟩
    · rw [gu_ne _ _ hkz, gu_ne _ _ hkz, sn (by omega) (by omega) (by omega), sn (by omega) (by omega) (by omega)]
      exact hRN.2 k (by omega)
  · exact qC_congr (q3 _ (by omega) (by omega) (by omega)) (by rw [J]) (fun j h1 h2 => sn (by omega) (by omega) (by omega)) hm hRC
  · exact qA_congr (fun x hx => sn (by omega) (by omega) (by omega)) hRA
  · intro i hi
    have h32 := (hRA.2.1 i hi).1
    rw [hp i hi]
    simp (disch := omega) only [sn]
    exact hRS i hi
  · exact qQ_congr (q3 _ (by omega) (by omega) (by omega)) (fun i hi => by rw [hp i hi]; exact ⟨rfl, rfl⟩) hm hRQ
end CLASS
