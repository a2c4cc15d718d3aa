theorem s_tries_f4 (nx : Nat) : ∀ (k : Nat) (g : zG), (s_tries nx k g).1 = false → (s_tries nx k g).2 4 = g 4 := by
  intro k
  induction k with
  | zero => intro g _; rfl
  | succ k ih =>
    intro g
    rw [s_tries]
    split
    · intro h; cases h
    · intro h
      rw [ih _ h, s_tick_ne _ (by decide), s_takes_ne _ _ (by decide) (by decide)]
theorem s_sta_begin {g : zG} {h : Nat} (hh : h < 32) (H : s_sta g) : s_sta (s_begin g h) := by
  intro x hx h0
  rw [s_begin_ne _ _ (by omega) (by omega) (by omega) (by omega)] at h0
  rw [s_begin_ne _ _ (by omega) (by omega) (by omega) (by omega), s_begin_ne _ _ (by omega) (by omega) (by omega) (by omega), s_begin_ne _ _ (by omega) (by omega) (by omega) (by omega), s_begin_ne _ _ (by omega) (by omega) (by omega) (by omega)]
  exact H x hx h0
section CLASS
variable {σ σ' : zSt} {a n : Nat} {pl ad : Nat → Nat} {qu : Nat → Nat → Nat} {g g' : zG}
theorem zRep_congr (hg : ∀ j, j ≠ 7 → j < 782 → g' j = g j) (h6 : s_nat g 6 ≤ 20) (h5 : s_nat g 5 ≤ 100) (h : zRep σ a pl ad qu n g) : zRep σ a pl ad qu n g' := by
  obtain ⟨hRL, hRW, hRM, hRN, hRC, hRA, hRS, hRQ⟩ := h
  have hm : sMs g g' := ⟨hg _ (by omega) (by omega), fun m w _ _ => hg _ (by omega) (by omega)⟩
  refine ⟨?_, hRW, qM_congr (σ := σ) rfl rfl hm hRM, qN_congr (σ := σ) rfl rfl rfl (hg _ (by omega) (by omega)) (fun k _ => hg _ (by omega) (by omega)) hRN, qC_congr (σ := σ) rfl rfl (fun j _ _ => hg _ (by omega) (by omega)) hm hRC, qA_congr (fun x _ => hg _ (by omega) (by omega)) hRA, ?_, qQ_congr (σ := σ) rfl (fun i _ => ⟨rfl, rfl⟩) hm hRQ⟩
  · unfold qL
    rw [hg _ (by omega) (by omega), hg _ (by omega) (by omega), hg _ (by omega) (by omega), hg _ (by omega) (by omega), hg _ (by omega) (by omega)]
    exact hRL
  · intro i hi
    have := (hRA.2.1 i hi).1
    rw [hg _ (by omega) (by omega), hg _ (by omega) (by omega), hg _ (by omega) (by omega), hg _ (by omega) (by omega), hg _ (by omega) (by omega), hg _ (by omega) (by omega)]
    exact hRS i hi
/-- only the log's cells have changed -/
theorem zRep_10 (hP : zPl σ a pl) (hI : ∀ q, q ≠ a + 10 → z_I σ' q = z_I σ q) (hJ : z_J σ' = z_J σ) (h : zRep σ a pl ad qu n g) : zRep σ' a pl ad qu n g := by
  obtain ⟨hRL, hRW, hRM, hRN, hRC, hRA, hRS, hRQ⟩ := h
  have hp : ∀ i, i < n → z_I σ' (pl i) = z_I σ (pl i) := fun i hi => hI _ (by have := (hP.1 i (by have := hRA.1; omega)).2.2; omega)
  refine ⟨?_, ?_, qM_congr (hI _ (by omega)) (hI _ (by omega)) (sMs_r g) hRM, qN_congr (hI _ (by omega)) (hI _ (by omega)) (hI _ (by omega)) rfl (fun _ _ => rfl) hRN, qC_congr (hI _ (by omega)) (by rw [hJ]) (fun _ _ _ => rfl) (sMs_r g) hRC, hRA, ?_, qQ_congr (hI _ (by omega)) (fun i hi => by rw [hp i hi]; exact ⟨rfl, rfl⟩) (sMs_r g) hRQ⟩
  · unfold qL; rw [hI _ (by omega)]; exact hRL
  · unfold qW; rw [hI _ (by omega), hI _ (by omega)]; exact hRW
  · intro i hi; rw [hp i hi]; exact hRS i hi
theorem c_logVisit (h : zC0 σ a pl ad qu n g) {mv : Nat} (hmv : mv + 1 < 2147483648) (h9 : g 9 = n32 (mv + 1)) (l1 l2 l3 l4 : Int32) :
    f_X2_logVisit σ a l1 l2 l3 l4 = some (z_sA σ (a + 10) (gu (gu (gu (gu (z_I σ (a + 10)) (4 * (mv % 40) + 0) l1) (4 * (mv % 40) + 1) l2) (4 * (mv % 40) + 2) l3) (4 * (mv % 40) + 3) l4)) := by
  have hL := h.1
  have hW := h.2.2.2.1.2
  have c0 : z_I σ (a + 8) 0 = n32 (mv + 1) := (c_C h (i := 0) (by decide)).trans h9
  have hlt := Nat.mod_lt mv (show 40 > 0 by decide)
  have e1 : n32 (mv + 1) - n32 1 = n32 mv := n32_sub (by omega)
  have p : ∀ (f : zG) (w : Nat) (v : Int32), w < 4 → f_X7_put (z_sA σ (a + 10) f) (a + 9) (n32 (mv % 40)) (n32 w) v = some (z_sA σ (a + 10) (gu f (4 * (mv % 40) + w) v)) := by
    intro f w v hw
    have := c_put4 (σ := z_sA σ (a + 10) f) (a := a) hL (by rw [z_I_sAn _ _ _ (by omega)]; exact hW) hlt hw v
    rw [z_I_sA, z_sA_sA] at this
    exact this
  have p0 := p (z_I σ (a + 10)) 0 l1 (by decide)
  rw [z_sA_id] at p0
  simp (disch := omega) only [f_X2_logVisit, ↓zl_eq, ↓zb_eq, ↓zb2_eq, ↓zc_some, ↓zc_none, ↓zb_pre, ↓zb2_pre, ↓zc_pre, ↓zex_eq, ↓reduceIte, Option.isSome_some, Option.isSome_none, Option.getD_some, n32_lit, hL.1, hL.2.1, hL.2.2.1, hL.2.2.2.1, hL.2.2.2.2.1, hL.2.2.2.2.2.1, hL.2.2.2.2.2.2.1, hL.2.2.2.2.2.2.2.1, hL.2.2.2.2.2.2.2.2.1, hL.2.2.2.2.2.2.2.2.2.1, hL.2.2.2.2.2.2.2.2.2.2.1, hL.2.2.2.2.2.2.2.2.2.2.2.1, hL.2.2.2.2.2.2.2.2.2.2.2.2.1, hL.2.2.2.2.2.2.2.2.2.2.2.2.2.1, hL.2.2.2.2.2.2.2.2.2.2.2.2.2.2.1, hL.2.2.2.2.2.2.2.2.2.2.2.2.2.2.2.1, hL.2.2.2.2.2.2.2.2.2.2.2.2.2.2.2.2.1, hL.2.2.2.2.2.2.2.2.2.2.2.2.2.2.2.2.2.1, hL.2.2.2.2.2.2.2.2.2.2.2.2.2.2.2.2.2.2.1, hL.2.2.2.2.2.2.2.2.2.2.2.2.2.2.2.2.2.2.2.1, hL.2.2.2.2.2.2.2.2.2.2.2.2.2.2.2.2.2.2.2.2.1, hL.2.2.2.2.2.2.2.2.2.2.2.2.2.2.2.2.2.2.2.2.2.1, hL.2.2.2.2.2.2.2.2.2.2.2.2.2.2.2.2.2.2.2.2.2.2.1, hL.2.2.2.2.2.2.2.2.2.2.2.2.2.2.2.2.2.2.2.2.2.2.2.1, hL.2.2.2.2.2.2.2.2.2.2.2.2.2.2.2.2.2.2.2.2.2.2.2.2.1, hL.2.2.2.2.2.2.2.2.2.2.2.2.2.2.2.2.2.2.2.2.2.2.2.2.2, c0, e1, n32_mod, p0, p, z_ob_sA, z_R_sA]
theorem qG_log {mv : Nat} (hmv : mv + 1 < 2147483648) (h9 : g 9 = n32 mv) (h7 : g 7 = n32 (min mv 40)) (H : qG σ a g) {t0 h rot sent : Int32}
    (h9' : g' 9 = n32 (mv + 1)) (h10 : z_I σ' (a + 10) = z_I σ (a + 10)) {gm : zG} (hgm : ∀ j, 782 ≤ j → gm j = g j) (hg7 : g' 7 = s_log gm (min mv 40) t0 h rot sent 7) (hg : ∀ j, 782 ≤ j → g' j = s_log gm (min mv 40) t0 h rot sent j) :
    qG (z_sA σ' (a + 10) (gu (gu (gu (gu (z_I σ' (a + 10)) (4 * (mv % 40) + 0) t0) (4 * (mv % 40) + 1) h) (4 * (mv % 40) + 2) rot) (4 * (mv % 40) + 3) sent)) a g' := by
  have m9 := s_nat_n32 h9 (by omega)
  have m7 := s_nat_n32 h7 (by omega)
  have m9' := s_nat_n32 h9' (by omega)
  have e7 : g' 7 = n32 (min (mv + 1) 40) := by
    rw [hg7]
    unfold s_log
    by_cases hc : min mv 40 = 40
    · rw [if_pos hc]
      unfold s_put; rw [gu_same]; congr 1; omega
    · rw [if_neg hc]
      unfold s_put; rw [gu_same]; congr 1; omega
  have m7' := s_nat_n32 e7 (by omega)
  intro i w hi hw
  rw [m7'] at hi ⊢
  rw [m9', z_I_sA, h10, hg _ (by omega)]
  have old := fun i w => H i w
  rw [m7, m9] at old
  unfold s_log
  by_cases hc : min mv 40 = 40
  · rw [if_pos hc]
    by_cases hi39 : i = 39
    · subst hi39
      have er : (mv + 1 - min (mv + 1) 40 + 39) % 40 = mv % 40 := by congr 1; omega
      rw [er]
      unfold s_put
      rw [gu_ne _ _ (show 782 + 4 * 39 + w ≠ 7 by omega)]
      unfold gu
      rcases (show w = 0 ∨ w = 1 ∨ w = 2 ∨ w = 3 by omega) with rfl | rfl | rfl | rfl <;> simp
    · have hne : (mv + 1 - min (mv + 1) 40 + i) % 40 ≠ mv % 40 := by omega
      have er : (mv + 1 - min (mv + 1) 40 + i) % 40 = (mv - min mv 40 + (i + 1)) % 40 := by congr 1; omega
      rw [gu_ne _ _ (by omega), gu_ne _ _ (by omega), gu_ne _ _ (by omega), gu_ne _ _ (by omega), er, old (i + 1) w (by omega) hw]
      unfold s_put
      rw [gu_ne _ _ (by omega), gu_ne _ _ (by omega), gu_ne _ _ (by omega), gu_ne _ _ (by omega), gu_ne _ _ (by omega), gu_ne _ _ (by omega)]
      unfold s_shift
      rw [if_pos (by omega), hgm _ (by omega)]
      congr 1; omega
  · rw [if_neg hc]
    have hm40 : mv < 40 := by omega
    have er : (mv + 1 - min (mv + 1) 40 + i) % 40 = i := by
      have : min (mv + 1) 40 = mv + 1 := by omega
      rw [this, Nat.sub_self, Nat.zero_add]; exact Nat.mod_eq_of_lt (by omega)
    have em : mv % 40 = mv := Nat.mod_eq_of_lt hm40
    have emin : min mv 40 = mv := by omega
    rw [er, em, emin]
    by_cases him : i = mv
    · subst him
      unfold s_put
      rw [gu_ne _ _ (show 782 + 4 * i + w ≠ 7 by omega)]
      unfold gu
      rcases (show w = 0 ∨ w = 1 ∨ w = 2 ∨ w = 3 by omega) with rfl | rfl | rfl | rfl <;> simp
    · rw [gu_ne _ _ (by omega), gu_ne _ _ (by omega), gu_ne _ _ (by omega), gu_ne _ _ (by omega)]
      have o := old i w (by omega) hw
      rw [emin, Nat.sub_self, Nat.zero_add, Nat.mod_eq_of_lt (show i < 40 by omega)] at o
      rw [o]
      unfold s_put
      rw [gu_ne _ _ (by omega), gu_ne _ _ (by omega), gu_ne _ _ (by omega), gu_ne _ _ (by omega), gu_ne _ _ (by omega), hgm _ (by omega)]
end CLASS
