/-- the queues behind a giving -/
def s_qi (qu : Nat → Nat → Nat) (x p len q : Nat) : Nat → Nat → Nat := fun y => if y = x then s_ins (qu x) p len q else qu y
section CLASS
variable {σ : zSt} {a n : Nat} {pl ad : Nat → Nat} {qu : Nat → Nat → Nat} {g : zG}
/-- A MESSAGE IS GIVEN: the line is the array with the message -/
theorem c_add (h : zC0 σ a pl ad qu n g) (hG : qG σ a g) {q : Nat} (h5 : g 5 = n32 q) (hq : q < 100) (h6' : s_nat g 6 ≤ 20) {i : Nat} (hi : i < n) (L U : Int32) :
    ∃ σ' qu', f_X3_add σ (a + 2) (pl i) L U (g 3) = some (n32 q, σ') ∧ zFr a σ σ' ∧ zC0 σ' a pl ad qu' n (s_gives g q (n32 (ad i)) L U) ∧ qG σ' a (s_gives g q (n32 (ad i)) L U) := by
  have nq : s_nat g 5 = q := s_nat_n32 h5 (by omega)
  have hn8 := c_n8 h
  obtain ⟨hL, hP, hRL, hRW, hRM, hRN, hRC, hRA, hRS, hRQ⟩ := h
  have hai := (hRA.2.1 i hi).1
  have hob := (hP.1 i (by omega)).2.1
  have hpi := (hP.1 i (by omega)).2.2
  have o2 := hL.2.2.2.2.2.2.2.2.1
  have r2 := hL.2.2.2.2.2.2.2.2.2.1
  have o3 := hL.2.2.2.2.2.2.2.2.2.2.1
  have e1 : z_I σ (a + 2) 1 = n32 q := hRM.1.trans h5
  obtain ⟨Q6, Q5, Q3, QK⟩ := hRQ i hi
  have hlen : s_len g (ad i) ≤ q := by rw [← nq]; exact s_len_le g (ad i)
  generalize hlendef : s_len g (ad i) = len at *
  have fl : ∀ j, j < len → qu (ad i) j < q := fun j hj => by
    have := (QK.1 j (by omega)).1; omega
  generalize hσ0 : z_sA σ (a + 2) (gu (z_I σ (a + 2)) 1 (n32 (q + 1))) = σ0
  have F0 : zFr a σ σ0 := by rw [← hσ0]; exact zFr_sA _ (by omega) (by omega) _
  have q0 : ∀ c, c ≠ a + 2 → z_I σ0 c = z_I σ c := fun c hc => by rw [← hσ0]; exact z_I_sAn _ _ _ hc
  have W0 : z_I σ0 (a + 3) 0 = n32 6 := by rw [q0 _ (by omega)]; exact hRW.1
  have hL0 : zLs σ0 a := zLs_fr F0 hL
  have P : ∀ (G : zG) (w : Nat) (v : Int32), w < 6 → f_X7_put (z_sA σ0 (a + 4) G) (a + 3) (n32 q) (n32 w) v = some (z_sA σ0 (a + 4) (gu G (6 * q + w) v)) := fun G w v hw => by
    have := c_put (σ := z_sA σ0 (a + 4) G) (show zLs (z_sA σ0 (a + 4) G) a from hL0) (by rw [z_I_sAn _ _ _ (by omega)]; exact W0) hq hw v
    rw [z_I_sA, z_sA_sA] at this
    exact this
  have P0 := P (z_I σ (a + 4)) 0 L (by decide)
  generalize hT : gu (gu (gu (gu (gu (z_I σ (a + 4)) (6 * q + 0) L) (6 * q + 1) U) (6 * q + 2) (n32 (ad i))) (6 * q + 3) (g 3)) (6 * q + 4) nn = T
  generalize hσ1 : z_sA σ0 (a + 4) T = σ1
  have F1 : zFr a σ σ1 := by rw [← hσ1]; exact zFr_t F0 (zFr_sA _ (by omega) (by omega) _)
  have q1 : ∀ c, c ≠ a + 2 → c ≠ a + 4 → z_I σ1 c = z_I σ c := fun c h1 h2 => by rw [← hσ1, z_I_sAn _ _ _ h2]; exact q0 c h1
  have q14 : z_I σ1 (a + 4) = T := by rw [← hσ1, z_I_sA]
  have Told : ∀ m w, m < q → w < 6 → T (6 * m + w) = z_I σ (a + 4) (6 * m + w) := fun m w hm hw => by
    rw [← hT]
    simp (disch := omega) only [gu_ne]
  obtain ⟨k, k1, k2, k3, k4⟩ := c_enqueue (σ := σ1) (a := a) (p := pl i) (q := q) (len := len) (f := qu (ad i)) (u := fun j => g (242 + 5 * qu (ad i) j + 1)) (U := U) (zLs_fr F1 hL) (by rw [q1 _ (by omega) (by omega)]; exact hRW.1) (by rw [z_ob_eq F1.2.1]; exact hob) hpi.1 hq (by omega) (fun j hj => by have := fl j hj; omega) (by rw [q1 _ (by omega) (by omega)]; exact Q6) (by rw [q1 _ (by omega) (by omega)]; exact Q5)
    (fun j hj => by rw [q14, Told _ 5 (fl j hj) (by decide)]; exact Q3 j hj) (fun j hj => by rw [q14, Told _ 1 (fl j hj) (by decide)]; exact hRM.2 _ 1 (by rw [nq]; exact fl j hj) (by decide))
  rw [q14, q1 (pl i) (by omega) (by omega)] at k4
  generalize hC : s_C4 T (qu (ad i)) len q k = C at k4
  generalize hS : s_S6 (z_I σ (pl i)) len q k = S at k4
  have Cold : ∀ m w, m < 100 → w < 5 → C (6 * m + w) = T (6 * m + w) := fun m w hm hw => by
    rw [← hC]; unfold s_C4
    split
    · rw [gu_ne _ _ (by omega)]
    · rw [gu_ne _ _ (by omega), gu_ne _ _ (by omega)]
  have C5old : ∀ m, m ≠ q → (k = 0 ∨ m ≠ qu (ad i) (k - 1)) → C (6 * m + 5) = T (6 * m + 5) := fun m hm hmk => by
    rw [← hC]; unfold s_C4
    split
    · rw [gu_ne _ _ (by omega)]
    · rw [gu_ne _ _ (by omega), gu_ne _ _ (by omega)]
  have C5q : C (6 * q + 5) = s_fol (qu (ad i)) len k := by
    rw [← hC]; unfold s_C4
    split
    · rw [gu_same]
    · have := fl (k - 1) (by omega)
      rw [gu_ne _ _ (by omega), gu_same]
  have C5k : k ≠ 0 → C (6 * qu (ad i) (k - 1) + 5) = n32 q := fun hk => by
    rw [← hC]; unfold s_C4
    rw [if_neg hk, gu_same]
  have Sold : ∀ j, j ≠ 5 → j ≠ 6 → S j = z_I σ (pl i) j := fun j h1 h2 => by
    rw [← hS]; unfold s_S6
    split
    · rw [gu_ne _ _ h2, gu_ne _ _ h1]
    · rw [gu_ne _ _ h2]
  have S6 : S 6 = n32 (len + 1) := by
    rw [← hS]; unfold s_S6
    split <;> rw [gu_same]
  have S5 : S 5 = if k = 0 then n32 q else z_I σ (pl i) 5 := by
    rw [← hS]; unfold s_S6
    split
    · rw [gu_ne _ _ (by decide), gu_same]
    · rw [gu_ne _ _ (by decide)]
  generalize hσ3 : z_sA (z_sA σ1 (a + 4) C) (pl i) S = σ3 at k4
  have F3 : zFr a σ σ3 := by rw [← hσ3]; exact zFr_t F1 (zFr_t (zFr_sA _ (by omega) (by omega) _) (zFr_sA _ (by omega) (by omega) _))
  have j3 : ∀ c, c ≠ a + 2 → c ≠ a + 4 → c ≠ pl i → z_I σ3 c = z_I σ c := fun c h1 h2 h3 => by rw [← hσ3, z_I_sAn _ _ _ h3, z_I_sAn _ _ _ h2]; exact q1 c h1 h2
  have j34 : z_I σ3 (a + 4) = C := by rw [← hσ3, z_I_sAn _ _ _ (by omega), z_I_sA]
  have j3p : z_I σ3 (pl i) = S := by rw [← hσ3, z_I_sA]
  have j32 : z_I σ3 (a + 2) = gu (z_I σ (a + 2)) 1 (n32 (q + 1)) := by rw [← hσ3, z_I_sAn _ _ _ (by omega), z_I_sAn _ _ _ (by omega), ← hσ1, z_I_sAn _ _ _ (by omega), ← hσ0, z_I_sA]
  have jJ : z_J σ3 = z_J σ := by rw [← hσ3, ← hσ1, ← hσ0]; rfl
  have sn : ∀ {j : Nat}, j ≠ 5 → (j < 242 + 5 * q ∨ 242 + 5 * q + 5 ≤ j) → s_gives g q (n32 (ad i)) L U j = g j := fun a b => s_gives_ne _ _ _ _ _ a b
  obtain ⟨g0, g1, g2, g3, g4⟩ := s_gives_q g q (n32 (ad i)) L U
  have g5 := s_gives_5 g q (n32 (ad i)) L U
  have n5 := s_gives_n5 (g := g) (x := ad i) (L := L) (U := U) hq
  have pne : ∀ j, j < n → j ≠ i → pl j ≠ pl i := fun j hj hji he => hji (hP.2 j i (by omega) (by omega) he)
  refine ⟨σ3, s_qi qu (ad i) k len q, ?_, F3, ⟨zLs_fr F3 hL, zPl_fr F3 hP, ?_, ?_, ?_, ?_, ?_, ?_, ?_, ?_⟩, ?_⟩
  · have e0 : z_pI σ (a + 2) 1 (n32 (q + 1)) = z_sA σ0 (a + 4) (z_I σ (a + 4)) := by
      rw [z_pI_eq, hσ0, ← q0 _ (show a + 4 ≠ a + 2 by omega), z_sA_id]
    have eR : z_R σ0 = z_R σ := by rw [← hσ0]; rfl
    have eO : z_ob σ0 = z_ob σ := by rw [← hσ0]; rfl
    have eO1 : z_ob σ1 = z_ob σ := by rw [← hσ1, ← hσ0]; rfl
    have e20 : ∀ G, z_I (z_sA σ0 (a + 4) G) (pl i) 0 = n32 (ad i) := fun G => by
      rw [z_I_sAn _ _ _ (by omega), q0 _ (by omega)]; exact (hRS i hi).1
    have Q0 := P (z_I σ (a + 4)) 0 L (by decide)
    have Q1 := P (gu (z_I σ (a + 4)) (6 * q + 0) L) 1 U (by decide)
    have Q2 := P (gu (gu (z_I σ (a + 4)) (6 * q + 0) L) (6 * q + 1) U) 2 (n32 (ad i)) (by decide)
    have Q3 := P (gu (gu (gu (z_I σ (a + 4)) (6 * q + 0) L) (6 * q + 1) U) (6 * q + 2) (n32 (ad i))) 3 (g 3) (by decide)
    have Q4 := P (gu (gu (gu (gu (z_I σ (a + 4)) (6 * q + 0) L) (6 * q + 1) U) (6 * q + 2) (n32 (ad i))) (6 * q + 3) (g 3)) 4 nn (by decide)
    simp only [f_X3_add, ↓zl_eq, ↓zb_eq, ↓zb2_eq, ↓zc_some, ↓zc_none, ↓zb_pre, ↓zb2_pre, ↓zc_pre, ↓zex_eq, ↓reduceIte, Option.isSome_some, Option.isSome_none, Option.getD_some, n32_lit, n32_nn2, o2, e1, n32_add, e0, z_ob_sA, z_R_sA, eR, eO, r2, o3, Q0, Q1, hob, e20, Q2, Q3, Q4, hT, hσ1, eO1, k4]
  · unfold qL
    rw [j3 _ (by omega) (by omega) (by omega)]
    simp (disch := omega) only [sn]
    exact hRL
  · unfold qW
    rw [j3 _ (by omega) (by omega) (by omega), j3 _ (by omega) (by omega) (by omega)]
    exact hRW
  · refine ⟨by rw [j32, gu_same, g5], fun m w hm hw => ?_⟩
    rw [n5] at hm
    rw [j34, Cold m w (by omega) hw]
    by_cases hmq : m = q
    · subst hmq
      rw [← hT]
      rcases (show w = 0 ∨ w = 1 ∨ w = 2 ∨ w = 3 ∨ w = 4 by omega) with rfl | rfl | rfl | rfl | rfl
      · rw [g0]; simp (disch := omega) only [gu_ne, gu_same]
      · rw [g1]; simp (disch := omega) only [gu_ne, gu_same]
      · rw [g2]; simp (disch := omega) only [gu_ne, gu_same]
      · rw [g3]; simp (disch := omega) only [gu_ne, gu_same]
      · rw [g4]; simp (disch := omega) only [gu_ne, gu_same]
    · rw [Told m w (by omega) (by omega), sn (by omega) (by omega)]
      exact hRM.2 m w (by omega) hw
  · exact qN_congr (j3 _ (by omega) (by omega) (by omega)) (j3 _ (by omega) (by omega) (by omega)) (j3 _ (by omega) (by omega) (by omega)) (sn (by omega) (by omega)) (fun k hk => sn (by omega) (by omega)) hRN
  · obtain ⟨c1, c2, c3, c4⟩ := hRC
    rw [nq] at c3 c4
    refine ⟨fun j hj => ?_, ?_, ?_, ?_⟩
    · rw [j3 _ (by omega) (by omega) (by omega), sn (by omega) (by omega)]; exact c1 j hj
    · rw [j3 _ (by omega) (by omega) (by omega), sn (by omega) (by omega)]; exact c2
    · rw [j3 _ (by omega) (by omega) (by omega), n5, s_gives_most nq]; exact c3
    · rw [jJ, n5, s_gives_sumw]; exact c4
  · exact qA_congr (fun x hx => sn (by omega) (by omega)) hRA
  · intro j hj
    have h32 := (hRA.2.1 j hj).1
    have hpj := (hP.1 j (by omega)).2.2
    have ee : ∀ w, w ≠ 5 → w ≠ 6 → z_I σ3 (pl j) w = z_I σ (pl j) w := fun w h1 h2 => by
      by_cases hji : j = i
      · subst hji; rw [j3p]; exact Sold w h1 h2
      · rw [j3 _ (by omega) (by omega) (pne j hj hji)]
    rw [ee 0 (by decide) (by decide), ee 1 (by decide) (by decide), ee 2 (by decide) (by decide), ee 3 (by decide) (by decide), ee 4 (by decide) (by decide), ee 7 (by decide) (by decide), ee 8 (by decide) (by decide)]
    simp (disch := omega) only [sn]
    exact hRS j hj
  · intro j hj
    have h32 := (hRA.2.1 j hj).1
    have hpj := (hP.1 j (by omega)).2.2
    by_cases hji : j = i
    · subst hji
      have QI := s_qok_ins (g := g) (x := ad j) (L := L) nq hq QK (p := k) (by omega) k2 (by rw [hlendef]; exact k3)
      rw [hlendef] at QI
      have eq : s_qi qu (ad j) k len q (ad j) = s_ins (qu (ad j)) k len q := if_pos rfl
      rw [j3p, j34, eq, QI.1]
      refine ⟨S6, ?_, fun t ht => ?_, QI.2⟩
      · rw [S5, if_pos (show 0 < len + 1 by omega)]
        by_cases hk0 : k = 0
        · subst hk0; rw [if_pos rfl, s_ins_eq]
        · rw [if_neg hk0, Q5, if_pos (by omega), s_ins_lt _ _ (by omega)]
      · rcases Nat.lt_trichotomy t k with c | c | c
        · rw [s_ins_lt _ _ c, if_pos (by omega)]
          by_cases htk : t = k - 1
          · have : k = t + 1 := by omega
            have e9 := C5k (by omega)
            rw [← htk] at e9
            rw [e9, ← this, s_ins_eq]
          · rw [s_ins_lt _ _ (by omega), C5old _ (by have := fl t (by omega); omega) (Or.inr (s_qok_ne QK (by omega) (by omega) htk)), Told _ 5 (fl t (by omega)) (by decide), Q3 t (by omega), if_pos (by omega)]
        · subst c
          rw [s_ins_eq, C5q]
          unfold s_fol
          by_cases hl : t < len
          · rw [if_pos hl, if_pos (by omega), s_ins_gt _ _ (by omega) (by omega)]; rfl
          · rw [if_neg hl, if_neg (by omega)]
        · rw [s_ins_gt _ _ c (by omega), C5old _ (by have := fl (t - 1) (by omega); omega) (by
            by_cases hk0 : k = 0
            · exact Or.inl hk0
            · exact Or.inr (s_qok_ne QK (by omega) (by omega) (by omega))), Told _ 5 (fl (t - 1) (by omega)) (by decide), Q3 (t - 1) (by omega)]
          by_cases hl : t < len
          · rw [if_pos (by omega), if_pos (by omega), s_ins_gt _ _ (by omega) (by omega)]
            congr 2
            omega
          · rw [if_neg (by omega), if_neg (by omega)]
    · have hne : ad j ≠ ad i := by
        rcases Nat.lt_or_ge j i with hlt | hge
        · have := hRA.2.2.1 j i hlt hi; omega
        · have := hRA.2.2.1 i j (by omega) hj; omega
      have hne2 : ¬ n32 (ad i) = n32 (ad j) := by rw [n32_eq (by omega) (by omega)]; omega
      obtain ⟨R6, R5, R3, RK⟩ := hRQ j hj
      have QO := s_qok_oth (g := g) (x := ad i) (L := L) (U := U) nq hq (y := ad j) hne2 RK
      have eq : s_qi qu (ad i) k len q (ad j) = qu (ad j) := if_neg hne
      rw [j3 _ (by omega) (by omega) (pne j hj hji), j34, eq, QO.1]
      refine ⟨R6, R5, fun t ht => ?_, QO.2⟩
      have ft := RK.1 t ht
      rw [nq] at ft
      rw [C5old _ (by omega) (by
        by_cases hk0 : k = 0
        · exact Or.inl hk0
        · right
          intro he
          have f2 := (QK.1 (k - 1) (by omega)).2
          rw [← he] at f2
          have f1 := ft.2
          unfold s_wt at f1 f2
          simp only [Bool.and_eq_true, decide_eq_true_eq] at f1 f2
          rw [f1.1] at f2
          exact hne2 f2.1.symm), Told _ 5 ft.1 (by decide)]
      exact R3 t ht
  · exact qG_congr (j3 _ (by omega) (by omega) (by omega)) (sn (by omega) (by omega)) (sn (by omega) (by omega)) (fun j hj => sn (by omega) (by omega)) hG
end CLASS
