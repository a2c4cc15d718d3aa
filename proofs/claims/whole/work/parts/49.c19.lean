section CLASS
variable {σ : zSt} {a c : Nat}
theorem c_cp6 {p r : Nat} (hp : z_ob σ p 6 = true) (hr : z_ob σ r 6 = true) (hne : r ≠ p) (b1 : z_bl (z_I σ r 1) = true) (b2 : z_bl (z_I σ r 2) = true) :
    ∃ f, f_X6_copyFrom σ p r = some (z_sA σ p f) ∧ ∀ j, j < 9 → f j = z_I σ r j := by
  refine ⟨gu (gu (gu (gu (gu (gu (gu (gu (gu (z_I σ p) 0 (z_I σ r 0)) 1 (z_I σ r 1)) 2 (z_I σ r 2)) 3 (z_I σ r 3)) 4 (z_I σ r 4)) 5 (z_I σ r 5)) 6 (z_I σ r 6)) 7 (z_I σ r 7)) 8 (z_I σ r 8), ?_, ?_⟩
  · simp (disch := omega) only [f_X6_copyFrom, ↓zl_eq, ↓zb_eq, ↓zb2_eq, ↓zc_some, ↓zc_none, ↓zb_pre, ↓zb2_pre, ↓zc_pre, ↓zex_eq, ↓reduceIte, Option.isSome_some, Option.isSome_none, Option.getD_some, z_pI_eq, z_ob_sA, z_sA_sA, z_I_sA, z_I_sAn, hp, hr, b1, b2]
  · intro j hj
    unfold gu
    rcases (show j = 0 ∨ j = 1 ∨ j = 2 ∨ j = 3 ∨ j = 4 ∨ j = 5 ∨ j = 6 ∨ j = 7 ∨ j = 8 by omega) with rfl | rfl | rfl | rfl | rfl | rfl | rfl | rfl | rfl <;> simp
theorem c_cpS (hL : zLs σ a) (hL2 : zLs σ c) (hd : a + 19 ≤ c ∨ c + 19 ≤ a) {pa pc : Nat → Nat} (hP : zPl σ a pa) (hP2 : zPl σ c pc) {n : Nat} (hn : n ≤ 8) (h5 : z_I σ c 5 = n32 n) (hbl : ∀ i, i < n → z_bl (z_I σ (pc i) 1) = true ∧ z_bl (z_I σ (pc i) 2) = true) :
    ∃ σ', f_X2_copyStations σ a c = some σ' ∧ zFr a σ σ' ∧ z_J σ' = z_J σ ∧ z_I σ' a = gu (z_I σ a) 5 (n32 n) ∧ (∀ q, q ≠ a → q < a + 11 ∨ a + 19 ≤ q → z_I σ' q = z_I σ q) ∧ ∀ i, i < n → ∀ j, j < 9 → z_I σ' (pa i) j = z_I σ (pc i) j := by
  obtain ⟨r, hr, hr2⟩ := zloop_inv (N := zN) (s := (z_pI σ a 5 (n32 n), (0 : Int32))) (body := fun (t : zSt × Int32) => b_X2_copyStations_10 a c t.1 t.2)
    (Inv := fun k s => s.2 = n32 k ∧ zFr a σ s.1 ∧ z_J s.1 = z_J σ ∧ z_I s.1 a = gu (z_I σ a) 5 (n32 n) ∧ (∀ q, q ≠ a → q < a + 11 ∨ a + 19 ≤ q → z_I s.1 q = z_I σ q) ∧ ∀ i, i < k → ∀ j, j < 9 → z_I s.1 (pa i) j = z_I σ (pc i) j)
    (Post := fun s => zFr a σ s ∧ z_J s = z_J σ ∧ z_I s a = gu (z_I σ a) 5 (n32 n) ∧ (∀ q, q ≠ a → q < a + 11 ∨ a + 19 ≤ q → z_I s q = z_I σ q) ∧ ∀ i, i < n → ∀ j, j < 9 → z_I s (pa i) j = z_I σ (pc i) j) n (fun k s hk hi => by
      obtain ⟨s, l⟩ := s
      obtain ⟨rfl, F, J, C, Q, I⟩ := hi
      have hLs := zLs_fr F hL
      have hPs := zPl_fr F hP
      have hL2s := zLs_eq F.2.1 F.2.2.1 hL2
      have hP2s := zPl_eq F.2.1 F.2.2.1 hP2
      have C5 : z_I s a 5 = n32 n := by rw [C, gu_same]
      by_cases hkn : k = n
      · subst hkn
        refine Or.inl ⟨s, ?_, F, J, C, Q, I⟩
        show b_X2_copyStations_10 a c s (n32 k) = _
        simp (disch := omega) only [b_X2_copyStations_10, ↓zl_eq, ↓zb_eq, ↓zb2_eq, ↓zc_some, ↓zc_none, ↓zb_pre, ↓zb2_pre, ↓zc_pre, ↓zex_eq, ↓reduceIte, Option.isSome_some, Option.isSome_none, Option.getD_some, hLs.1, C5, n32_le, Nat.le_refl]
      · have hk2 : k < n := by omega
        have ek := hP.1 k (by omega)
        have ek2 := hP2.1 k (by omega)
        have ek' := hPs.1 k (by omega)
        have ek2' := hP2s.1 k (by omega)
        have s1 := c_stationIn hLs hPs hn C5 hk2
        have s2 := c_stationIn hL2s hP2s hn (by rw [Q c (by omega) (by omega)]; exact h5) hk2
        have er : z_I s (pc k) = z_I σ (pc k) := Q _ (by omega) (by omega)
        obtain ⟨f, e6, hf⟩ := c_cp6 (σ := s) (p := pa k) (r := pc k) ek'.2.1 ek2'.2.1 (by omega) (by rw [er]; exact (hbl k hk2).1) (by rw [er]; exact (hbl k hk2).2)
        refine Or.inr ⟨hk2, (z_sA s (pa k) f, n32 (k + 1)), ?_, rfl, zFr_t F (zFr_sA _ (by omega) (by omega) _), J, ?_, ?_, ?_⟩
        · show b_X2_copyStations_10 a c s (n32 k) = _
          simp (disch := omega) only [b_X2_copyStations_10, f_X2_copyStations_46, ↓zl_eq, ↓zb_eq, ↓zb2_eq, ↓zc_some, ↓zc_none, ↓zb_pre, ↓zb2_pre, ↓zc_pre, ↓zex_eq, ↓reduceIte, Option.isSome_some, Option.isSome_none, Option.getD_some, n32_lit, hLs.1, hL2s.1, C5, n32_le, s1, s2, ek'.2.1, e6, n32_add]
          rw [if_neg (by omega)]
        · show z_I (z_sA s (pa k) f) a = _
          rw [z_I_sAn _ _ _ (by omega)]; exact C
        · intro q q1 q2
          show z_I (z_sA s (pa k) f) q = _
          rw [z_I_sAn _ _ _ (by omega)]; exact Q q q1 q2
        · intro i hi j hj
          show z_I (z_sA s (pa k) f) (pa i) j = _
          by_cases hik : i = k
          · subst hik
            rw [z_I_sA, hf j hj, er]
          · have hne : pa i ≠ pa k := fun he => hik (hP.2 i k (by omega) (by omega) he)
            rw [z_I_sAn _ _ _ hne]
            exact I i (by omega) j hj) (by unfold zN; omega)
    ⟨rfl, by rw [z_pI_eq]; exact zFr_sA _ (by omega) (by omega) _, rfl, by rw [z_pI_eq, z_I_sA], fun q q1 q2 => by rw [z_pI_eq, z_I_sAn _ _ _ q1], fun i hi => by omega⟩
  refine ⟨r, ?_, hr2⟩
  rw [← hr]
  simp only [f_X2_copyStations, f_X2_copyStations_10, ↓zl_eq, ↓zb_eq, ↓zb2_eq, ↓zc_some, ↓zc_none, ↓zb_pre, ↓zb2_pre, ↓zc_pre, ↓zex_eq, ↓reduceIte, Option.isSome_some, Option.isSome_none, Option.getD_some, hL.1, hL2.1, h5]
/-- the counts -/
theorem c_cp0 (hL : zLs σ a) (hL2 : zLs σ c) (hd : a + 19 ≤ c ∨ c + 19 ≤ a) :
    ∃ σ', f_X0_copyFrom σ (a + 8) (c + 8) = some σ' ∧ zFr a σ σ' ∧ (∀ q, q ≠ a + 8 → z_I σ' q = z_I σ q ∧ z_J σ' q = z_J σ q) ∧ (∀ j, j < 9 → z_I σ' (a + 8) j = z_I σ (c + 8) j) ∧ z_J σ' (a + 8) 9 = z_J σ (c + 8) 9 := by
  have o1 := hL.2.2.2.2.2.2.2.2.2.2.2.2.2.2.2.2.2.2.2.2.2.1
  have o2 := hL2.2.2.2.2.2.2.2.2.2.2.2.2.2.2.2.2.2.2.2.2.2.1
  refine ⟨z_pJ (z_sA σ (a + 8) (gu (gu (gu (gu (gu (gu (gu (gu (gu (z_I σ (a + 8)) 0 (z_I σ (c + 8) 0)) 1 (z_I σ (c + 8) 1)) 2 (z_I σ (c + 8) 2)) 3 (z_I σ (c + 8) 3)) 4 (z_I σ (c + 8) 4)) 5 (z_I σ (c + 8) 5)) 6 (z_I σ (c + 8) 6)) 7 (z_I σ (c + 8) 7)) 8 (z_I σ (c + 8) 8))) (a + 8) 9 (z_J σ (c + 8) 9), ?_, zFr_t (zFr_sA _ (by omega) (by omega) _) (zFr_pJ _ (by omega) (by omega) _ _), ?_, ?_, ?_⟩
  · simp (disch := omega) only [f_X0_copyFrom, ↓zl_eq, ↓zb_eq, ↓zb2_eq, ↓zc_some, ↓zc_none, ↓zb_pre, ↓zb2_pre, ↓zc_pre, ↓zex_eq, ↓reduceIte, Option.isSome_some, Option.isSome_none, Option.getD_some, z_pI_eq, z_ob_sA, z_sA_sA, z_I_sA, z_I_sAn, z_J_sA, o1, o2]
  · intro q hq
    refine ⟨?_, ?_⟩
    · rw [z_I_pJ, z_I_sAn _ _ _ hq]
    · funext k
      rw [z_J_pJ, if_neg (by intro h; exact hq h.1)]
      rfl
  · intro j hj
    rw [z_I_pJ, z_I_sA]
    unfold gu
    rcases (show j = 0 ∨ j = 1 ∨ j = 2 ∨ j = 3 ∨ j = 4 ∨ j = 5 ∨ j = 6 ∨ j = 7 ∨ j = 8 by omega) with rfl | rfl | rfl | rfl | rfl | rfl | rfl | rfl | rfl <;> simp
  · rw [z_J_pJ, if_pos ⟨rfl, rfl⟩]
end CLASS
