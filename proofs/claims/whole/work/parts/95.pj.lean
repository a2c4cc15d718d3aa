/-! PARSE -/
def s_clr (g : zG) : zG := gu (fun j => if 3 ≤ j ∧ j < 942 then n32 0 else g j) 4 nn
theorem s_clr_lo (g : zG) {j : Nat} (h : j < 3) : s_clr g j = g j := by
  unfold s_clr; rw [gu_ne _ _ (by omega)]; exact if_neg (by omega)
theorem s_clr_0 (g : zG) {j : Nat} (h : 3 ≤ j) (h2 : j < 942) (h4 : j ≠ 4) : s_clr g j = n32 0 := by
  unfold s_clr; rw [gu_ne _ _ h4]; exact if_pos ⟨h, h2⟩
theorem s_clr_4 (g : zG) : s_clr g 4 = nn := gu_same _ _ _
theorem s_clr_hi (g : zG) {j : Nat} (h : 942 ≤ j) : s_clr g j = g j := by
  unfold s_clr; rw [gu_ne _ _ (by omega)]; exact if_neg (by omega)
theorem z01_clr (g : zG) : z01 (s_clr g) := fun x hx => Or.inl (s_clr_0 g (by omega) (by omega) (by omega))
theorem s_clr_n {g : zG} {j : Nat} (h : 3 ≤ j) (h2 : j < 942) (h4 : j ≠ 4) : s_nat (s_clr g) j = 0 := s_nat_n32 (s_clr_0 g h h2 h4) (by omega)
theorem s_I_clr {g : zG} {B V : Nat} (H : s_I g B V) : s_I (s_clr g) B V := by
  have n5 := s_clr_n (g := g) (j := 5) (by omega) (by omega) (by omega)
  have n3 := s_clr_n (g := g) (j := 3) (by omega) (by omega) (by omega)
  have n9 := s_clr_n (g := g) (j := 9) (by omega) (by omega) (by omega)
  refine ⟨⟨⟨by omega, by rw [n5]; exact s_clr_0 g (by omega) (by omega) (by omega), ⟨0, by omega, s_clr_0 g (by omega) (by omega) (by omega)⟩, by rw [s_clr_lo g (by omega)]; exact s_I_2 H, ⟨by rw [n3]; exact s_clr_0 g (by omega) (by omega) (by omega), fun m hm => by omega⟩, by omega, fun x hx h1 => ?_, 0, by omega, s_clr_0 g (by omega) (by omega) (by omega), s_clr_0 g (by omega) (by omega) (by omega)⟩, by rw [s_clr_lo g (by omega)]; exact s_I_1 H, Or.inl (s_clr_4 g), by omega, by omega⟩, Or.inl (s_clr_4 g), ?_, fun m hm => by omega⟩
  · rw [s_clr_0 g (by omega) (by omega) (by omega)] at h1
    exact absurd h1 nn01
  · unfold s_ds
    rw [n5]; exact s_clr_0 g (by omega) (by omega) (by omega)
theorem s_cp_hi {f X : zG} (h : ∀ j, 942 ≤ j → X j = f j) : s_cp f X 942 = f := by
  funext j
  unfold s_cp
  by_cases hj : j < 942
  · rw [if_pos hj]
  · rw [if_neg hj]; exact h j (by omega)
section CLASS
variable {σ : zSt} {b k tl : Nat} {g : zG} {gs : Nat → zG} {tx : Nat → Int32} {B V : Nat}
theorem c_clr0 {q : Nat} (o : z_ob σ q 0 = true) : f_X0_clear σ q = some (z_pJ (z_sA σ q (gu (gu (gu (gu (gu (gu (gu (gu (gu (z_I σ q) 0 (n32 0)) 1 (n32 0)) 2 (n32 0)) 3 (n32 0)) 4 (n32 0)) 5 (n32 0)) 6 (n32 0)) 7 (n32 0)) 8 (n32 0))) q 9 0) := by
  simp only [f_X0_clear, ↓zl_eq, ↓zb_eq, ↓zb2_eq, ↓zc_some, ↓zc_none, ↓zb_pre, ↓zb2_pre, ↓zc_pre, ↓zex_eq, ↓reduceIte, Option.isSome_some, Option.isSome_none, Option.getD_some, n32_lit, o, z_pI_eq, z_ob_sA, z_I_sA, z_sA_sA]
/-- a line is cleared, and takes the times of another -/
theorem c_clear {a c : Nat} {pl : Nat → Nat} (hL : zLs σ a) (hP : zPl σ a pl) (hW : qW σ a) (hd : a + 19 ≤ c ∨ c + 19 ≤ a) (oc : z_ob σ c 2 = true) (t0 : z_I σ c 6 = g 0) (t1 : z_I σ c 7 = g 1) (t2 : z_I σ c 8 = g 2) :
    ∃ σ1 σ2, f_X2_clear σ a = some σ1 ∧ zFr a σ σ1 ∧ f_X2_takeTimes σ1 a c = some σ2 ∧ zFr a σ σ2 ∧ zC0 σ2 a pl (fun _ => 0) (fun _ _ => 0) 0 (s_clr g) ∧ qG σ2 a (s_clr g) := by
  have o1 := hL.1
  have r1 := hL.2.2.1
  have r2 := hL.2.2.2.1
  have r3 := hL.2.2.2.2.1
  have o2 := hL.2.2.2.2.2.2.2.2.1
  have o5 := hL.2.2.2.2.2.2.2.2.2.2.2.2.2.2.1
  have o8 := hL.2.2.2.2.2.2.2.2.2.2.2.2.2.2.2.2.2.2.2.2.2.1
  generalize hs1 : z_sA σ a (gu (z_I σ a) 5 (n32 0)) = s1
  generalize hs2 : z_sA s1 (a + 2) (gu (z_I σ (a + 2)) 1 (n32 0)) = s2
  generalize hs3 : z_sA s2 (a + 5) (gu (z_I σ (a + 5)) 2 (n32 0)) = s3
  generalize hF8 : gu (gu (gu (gu (gu (gu (gu (gu (gu (z_I σ (a + 8)) 0 (n32 0)) 1 (n32 0)) 2 (n32 0)) 3 (n32 0)) 4 (n32 0)) 5 (n32 0)) 6 (n32 0)) 7 (n32 0)) 8 (n32 0) = F8
  generalize hs4 : z_pJ (z_sA s3 (a + 8) F8) (a + 8) 9 0 = s4
  generalize hFa : gu (gu (gu (z_I σ a) 5 (n32 0)) 9 (n32 0)) 10 nn = Fa
  generalize hs5 : z_sA s4 a Fa = s5
  generalize hFb : gu (gu (gu Fa 6 (g 0)) 7 (g 1)) 8 (g 2) = Fb
  generalize hs6 : z_sA s5 a Fb = s6
  have F1 : zFr a σ s1 := by rw [← hs1]; exact zFr_sA _ (by omega) (by omega) _
  have F2 : zFr a σ s2 := by rw [← hs2]; exact zFr_t F1 (zFr_sA _ (by omega) (by omega) _)
  have F3 : zFr a σ s3 := by rw [← hs3]; exact zFr_t F2 (zFr_sA _ (by omega) (by omega) _)
  have F4 : zFr a σ s4 := by rw [← hs4]; exact zFr_t F3 (zFr_t (zFr_sA _ (by omega) (by omega) _) (zFr_pJ _ (by omega) (by omega) _ _))
  have F5 : zFr a σ s5 := by rw [← hs5]; exact zFr_t F4 (zFr_sA _ (by omega) (by omega) _)
  have F6 : zFr a σ s6 := by rw [← hs6]; exact zFr_t F5 (zFr_sA _ (by omega) (by omega) _)
  have i1a : z_I s1 a = gu (z_I σ a) 5 (n32 0) := by rw [← hs1, z_I_sA]
  have q1 : ∀ q, q ≠ a → z_I s1 q = z_I σ q := fun q h => by rw [← hs1]; exact z_I_sAn _ _ _ h
  have q2 : ∀ q, q ≠ a + 2 → z_I s2 q = z_I s1 q := fun q h => by rw [← hs2]; exact z_I_sAn _ _ _ h
  have i2 : z_I s2 (a + 2) = gu (z_I σ (a + 2)) 1 (n32 0) := by rw [← hs2, z_I_sA]
  have q3 : ∀ q, q ≠ a + 5 → z_I s3 q = z_I s2 q := fun q h => by rw [← hs3]; exact z_I_sAn _ _ _ h
  have i3 : z_I s3 (a + 5) = gu (z_I σ (a + 5)) 2 (n32 0) := by rw [← hs3, z_I_sA]
  have q4 : ∀ q, q ≠ a + 8 → z_I s4 q = z_I s3 q := fun q h => by rw [← hs4, z_I_pJ]; exact z_I_sAn _ _ _ h
  have i4 : z_I s4 (a + 8) = F8 := by rw [← hs4, z_I_pJ, z_I_sA]
  have q5 : ∀ q, q ≠ a → z_I s5 q = z_I s4 q := fun q h => by rw [← hs5]; exact z_I_sAn _ _ _ h
  have i5 : z_I s5 a = Fa := by rw [← hs5, z_I_sA]
  have q6 : ∀ q, q ≠ a → z_I s6 q = z_I s5 q := fun q h => by rw [← hs6]; exact z_I_sAn _ _ _ h
  have i6 : z_I s6 a = Fb := by rw [← hs6, z_I_sA]
  have qc : z_I s5 c = z_I σ c := (F5.2.2.2 c (by omega)).1
  have J6 : z_J s6 (a + 8) 9 = 0 := by
    rw [← hs6, z_J_sA, ← hs5, z_J_sA, ← hs4, z_J_pJ, if_pos ⟨rfl, rfl⟩]
  have eo : ∀ s, zFr a σ s → z_ob s = z_ob σ ∧ z_R s = z_R σ := fun s F => ⟨z_ob_eq F.2.1, F.2.2.1⟩
  refine ⟨s5, s6, ?_, F5, ?_, F6, ⟨zLs_fr F6 hL, zPl_fr F6 hP, ?_, ?_, ?_, ?_, ?_, ?_, fun i hi => by omega, fun i hi => by omega⟩, fun i w hi => ?_⟩
  · have p1 : z_pI σ a 5 (n32 0) = s1 := by rw [z_pI_eq]; exact hs1
    have p2 : f_X3_clear s1 (a + 2) = some s2 := by
      simp only [f_X3_clear, ↓zl_eq, ↓zb_eq, ↓zb2_eq, ↓zc_some, ↓zc_none, ↓zb_pre, ↓zb2_pre, ↓zc_pre, ↓zex_eq, ↓reduceIte, Option.isSome_some, Option.isSome_none, Option.getD_some, n32_lit, (eo s1 F1).1, o2, z_pI_eq, q1 (a + 2) (by omega), hs2]
    have p3 : f_X4_clear s2 (a + 5) = some s3 := by
      simp only [f_X4_clear, ↓zl_eq, ↓zb_eq, ↓zb2_eq, ↓zc_some, ↓zc_none, ↓zb_pre, ↓zb2_pre, ↓zc_pre, ↓zex_eq, ↓reduceIte, Option.isSome_some, Option.isSome_none, Option.getD_some, n32_lit, (eo s2 F2).1, o5, z_pI_eq, q2 (a + 5) (by omega), q1 (a + 5) (by omega), hs3]
    have p4 : f_X0_clear s3 (a + 8) = some s4 := by
      rw [c_clr0 (by rw [(eo s3 F3).1]; exact o8), q3 (a + 8) (by omega), q2 (a + 8) (by omega), q1 (a + 8) (by omega), hF8, hs4]
    have p5 : z_pI (z_pI s4 a 9 (n32 0)) a 10 nn = s5 := by
      have ia : z_I s4 a = gu (z_I σ a) 5 (n32 0) := by rw [q4 _ (by omega), q3 _ (by omega), q2 _ (by omega), i1a]
      rw [z_pI_eq, z_pI_eq, z_sA_sA, z_I_sA, ia, hFa, hs5]
    simp only [f_X2_clear, ↓zl_eq, ↓zb_eq, ↓zb2_eq, ↓zc_some, ↓zc_none, ↓zb_pre, ↓zb2_pre, ↓zc_pre, ↓zex_eq, ↓reduceIte, Option.isSome_some, Option.isSome_none, Option.getD_some, n32_lit, n32_nn2, o1, p1, (eo s1 F1).1, (eo s1 F1).2, r1, o2, p2, (eo s2 F2).1, (eo s2 F2).2, r2, o5, p3, (eo s3 F3).1, (eo s3 F3).2, r3, o8, p4, (eo s4 F4).1, z_ob_pI, p5]
  · have p6 : z_pI (z_pI (z_pI s5 a 6 (g 0)) a 7 (g 1)) a 8 (g 2) = s6 := by
      rw [z_pI_eq, z_pI_eq, z_pI_eq, z_sA_sA, z_I_sA, z_sA_sA, z_I_sA, i5, hFb, hs6]
    have rc : ∀ j v, j ≠ 99 → z_I (z_pI s5 a j v) c = z_I σ c := fun j v _ => by rw [z_pI_eq, z_I_sAn _ _ _ (by omega)]; exact qc
    have rc2 : ∀ j v j' v', z_I (z_pI (z_pI s5 a j v) a j' v') c = z_I σ c := fun j v j' v' => by rw [z_pI_eq, z_I_sAn _ _ _ (by omega), z_pI_eq, z_I_sAn _ _ _ (by omega)]; exact qc
    simp only [f_X2_takeTimes, ↓zl_eq, ↓zb_eq, ↓zb2_eq, ↓zc_some, ↓zc_none, ↓zb_pre, ↓zb2_pre, ↓zc_pre, ↓zex_eq, ↓reduceIte, Option.isSome_some, Option.isSome_none, Option.getD_some, (eo s5 F5).1, o1, oc, z_ob_pI, qc, t0, rc _ _ (show 6 ≠ 99 by decide), t1, rc2, t2, p6]
  · unfold qL
    rw [i6, ← hFb, ← hFa]
    simp (disch := omega) only [gu_ne, gu_same, s_clr_lo, s_clr_0, s_clr_4, and_self]
  · unfold qW
    rw [q6 _ (by omega), q5 _ (by omega), q4 _ (by omega), q3 _ (by omega), q2 _ (by omega), q1 _ (by omega), q6 _ (by omega), q5 _ (by omega), q4 _ (by omega), q3 _ (by omega), q2 _ (by omega), q1 _ (by omega)]
    exact hW
  · refine ⟨?_, fun m w hm => ?_⟩
    · rw [q6 _ (by omega), q5 _ (by omega), q4 _ (by omega), q3 _ (by omega), i2, gu_same, s_clr_0 g (by omega) (by omega) (by omega)]
    · rw [s_clr_n (by omega) (by omega) (by omega)] at hm; omega
  · refine ⟨?_, fun m hm => ?_⟩
    · rw [q6 _ (by omega), q5 _ (by omega), q4 _ (by omega), i3, gu_same, s_clr_0 g (by omega) (by omega) (by omega)]
    · rw [s_clr_n (by omega) (by omega) (by omega)] at hm; omega
  · have i8 : z_I s6 (a + 8) = F8 := by rw [q6 _ (by omega), q5 _ (by omega), i4]
    have z8 : ∀ j, j < 9 → F8 j = n32 0 := fun j hj => by
      rw [← hF8]
      rcases (show j = 0 ∨ j = 1 ∨ j = 2 ∨ j = 3 ∨ j = 4 ∨ j = 5 ∨ j = 6 ∨ j = 7 ∨ j = 8 by omega) with rfl | rfl | rfl | rfl | rfl | rfl | rfl | rfl | rfl <;> simp (disch := omega) only [gu_ne, gu_same]
    refine ⟨fun i hi => ?_, ?_, ?_, ?_⟩
    · rw [i8, z8 i (by omega), s_clr_0 g (by omega) (by omega) (by omega)]
    · rw [i8, z8 7 (by omega), s_clr_0 g (by omega) (by omega) (by omega)]
    · rw [i8, z8 8 (by omega), s_clr_n (by omega) (by omega) (by omega)]; rfl
    · rw [J6, s_clr_n (by omega) (by omega) (by omega)]; rfl
  · exact ⟨by omega, fun i hi => by omega, fun i j _ hj => by omega, fun x hx => Or.inl (s_clr_0 g (by omega) (by omega) (by omega))⟩
  · rw [s_clr_n (by omega) (by omega) (by omega)] at hi; omega
theorem zC_tr {σ1 : zSt} (E1 : zEq b (b + 20) σ σ1) (E2 : zEq (b + 39) (b + 118) σ σ1) (hl : zBl σ1 (b + 20)) (h : zC σ b g k gs tl tx) : zC σ1 b g k gs tl tx := by
  obtain ⟨⟨t1, t2, t3, t4, t5, t6, t7⟩, ha, _, ⟨hl', hs, hr⟩, h4, ht⟩ := h
  have e0 := E1 b (by omega) (by omega)
  have e1 := E2 (b + 117) (by omega) (by omega)
  refine ⟨⟨by rw [z_ob_at e0.1]; exact t1, by rw [e0.2.2.2]; exact t2, by rw [e0.2.2.2]; exact t3, by rw [e0.2.2.2]; exact t4, by rw [e0.2.2.2]; exact t5, by rw [z_ar_at e1.1]; exact t6, by rw [z_ln_at e1.1]; exact t7⟩, zLn_reg (zEq_s E1 (by omega) (by omega)) ha, hl, ⟨hl', zSv_reg (zEq_s E2 (by omega) (by omega)) (fun i hi => zEq_s E2 (by have := hr i hi; omega) (by have := hr i hi; omega)) hs, hr⟩, by rw [e0.2.1]; exact h4, fun j hj => by rw [e1.2.1]; exact ht j hj⟩
/-- answers without exceptions -/
def zA0 (σ : zSt) (b : Nat) (out : Option (Int32 × zSt)) (v : Int32) (g : zG) (k : Nat) (gs : Nat → zG) (tl : Nat) (tx : Nat → Int32) : Prop :=
  ∃ σ1, out = some (v, σ1) ∧ zC σ1 b g k gs tl tx ∧ zEq (b + 118) (b + 124) σ σ1 ∧ z_nx σ ≤ z_nx σ1
def zAN (σ : zSt) (b : Nat) (out : Option (Int32 × zSt)) (v : Int32) (g : zG) (k : Nat) (gs : Nat → zG) (tl : Nat) (tx : Nat → Int32) : Prop :=
  ∃ σ1, out = some (v, σ1) ∧ zM σ1 b g k gs tl tx ∧ zFM b σ σ1
def zPn (σ : zSt) (b : Nat) (g : zG) (k : Nat) (gs : Nat → zG) (tl : Nat) (tx : Nat → Int32) (B V : Nat) (fc : Option (Int32 × zSt)) (fm : zSt → Option (Int32 × zSt)) : Prop :=
  ∃ v g' k' gs' tl' tx', zA0 σ b fc v g' k' gs' tl' tx' ∧ (∀ σ1, zM σ1 b g k gs tl tx → zAN σ1 b (fm σ1) v g' k' gs' tl' tx') ∧ s_I g' B (V + 300) ∧ (∀ i, i < k' → s_I (gs' i) B (V + 300)) ∧ k' ≤ 4 ∧ tl' ≤ 120 ∧ ∀ j, j < tl' → ∃ c, c < 128 ∧ tx' j = n32 c
theorem s_loop_n {tb : Nat → Nat} {m : Nat} {g' : zG} : ∀ (f k : Nat) (g : zG) (p : Nat) (lt : Option Nat), s_loop tb tl f k g p lt = .inr (m, g') → k ≤ m
  | 0, k, g, p, lt, h => by
    simp only [s_loop, Sum.inr.injEq, Prod.mk.injEq] at h
    omega
  | f + 1, k, g, p, lt, h => by
    unfold s_loop at h
    by_cases hc : tl ≤ p
    · rw [if_pos hc] at h
      simp only [Sum.inr.injEq, Prod.mk.injEq] at h
      omega
    · rw [if_neg hc] at h
      cases hx : s_item tb tl g p lt with
      | inl e => rw [hx] at h; simp at h
      | inr t =>
        obtain ⟨g1, p1, lt1⟩ := t
        rw [hx] at h
        have := s_loop_n f (k + 1) g1 p1 lt1 h
        omega
/-- the class reads its text -/
theorem c_parse (h : zW σ b g k gs tl tx B V) {tb : Nat → Nat} (htb : ∀ j, j < tl → tx j = n32 (tb j) ∧ tb j < 128) :
    (∀ e, s_loop tb tl (tl + 1) 0 (s_clr g) 0 none = .inl e → zA0 σ b (f_X9_parse σ b) (-10 - n32 e) g k gs tl tx) ∧
    (∀ m g', s_loop tb tl (tl + 1) 0 (s_clr g) 0 none = .inr (m, g') → zA0 σ b (f_X9_parse σ b) (n32 m) g' (s_pk k) (s_pg k gs g) tl tx ∧ s_I g' B V) := by
  obtain ⟨hC, hM, hI, hgs, hk4, htl, htx, O⟩ := h
  have hC2 := hC
  obtain ⟨⟨o8, t1, t2, t3, t4, t5, t6⟩, ⟨pl0, ad0, qu0, n0, a1, a2, a3, a4⟩, ⟨b1, ⟨pl, b2⟩, b3⟩, hsv, e4, etx⟩ := hC2
  have hL0 := a3.1
  have oT := b1.1
  have oL := a1.1
  obtain ⟨σ1, σ2, EC, F1, ET, F2, D0, DG⟩ := c_clear (g := g) b1 b2 b3 (c := b + 1) (by omega) oL hL0.2.1 hL0.2.2.1 hL0.2.2.2.1
  have hIc := s_I_clr hI
  have C2 : zC σ2 b g k gs tl tx := zC_trial (zFw_of F2) ⟨D0.1, ⟨pl, D0.2.1⟩, D0.2.2.2.1⟩ hC
  have nx2 : z_nx σ2 = z_nx σ := F2.1
  have hr : b + 124 ≤ z_nx σ2 := by rw [nx2]; exact O.2.2
  generalize hrr : z_nx σ2 = r at hr
  -- the reader is made
  generalize hσ3 : z_nw σ2 (.inl 5) = σ3
  have ne3 : ∀ q, q ≠ r → z_sh σ3 q = z_sh σ2 q ∧ z_I σ3 q = z_I σ2 q ∧ z_J σ3 q = z_J σ2 q ∧ z_R σ3 q = z_R σ2 q := fun q hq => by
    rw [← hσ3]
    refine ⟨?_, ?_, ?_, ?_⟩
    · rw [z_sh_nw, hrr, if_neg hq]
    · funext j; rw [z_I_nw, hrr, if_neg hq]
    · funext j; rw [z_J_nw, hrr, if_neg hq]
    · funext j; rw [z_R_nw, hrr, if_neg hq]
  have sh3 : z_ob σ3 r 5 = true := by
    have : z_sh σ3 r = some (.inl 5) := by rw [← hσ3, z_sh_nw, hrr, if_pos rfl]
    unfold z_ob; rw [this]; rfl
  have I3 : ∀ j, z_I σ3 r j = 0 := fun j => by rw [← hσ3, z_I_nw, hrr, if_pos rfl]
  have R3 : ∀ j, z_R σ3 r j = none := fun j => by rw [← hσ3, z_R_nw, hrr, if_pos rfl]
  have E23 : ∀ lo hi, hi ≤ r → zEq lo hi σ2 σ3 := fun lo hi h q h1 h2 => ne3 q (by omega)
  have C3 := zC_reg (E23 b (b + 118) (by omega)) C2
  generalize hσ4 : z_pR (z_pI (z_pR (z_pI σ3 r 5 nn) r 0 (some (b + 117))) r 1 (n32 tl)) r 2 (some (b + 20)) = σ4
  have sh4 : z_sh σ4 = z_sh σ3 := by rw [← hσ4]; rfl
  have ne4 : ∀ q, q ≠ r → z_I σ4 q = z_I σ3 q ∧ z_J σ4 q = z_J σ3 q ∧ z_R σ4 q = z_R σ3 q := fun q hq => by
    rw [← hσ4]
    refine ⟨?_, rfl, ?_⟩
    · funext j
      rw [z_I_pR, z_I_pI, if_neg (fun h => hq h.1), z_I_pR, z_I_pI, if_neg (fun h => hq h.1)]
    · funext j
      rw [z_R_pR, if_neg (fun h => hq h.1), z_R_pI, z_R_pR, if_neg (fun h => hq h.1), z_R_pI]
  have E34 : ∀ lo hi, hi ≤ r → zEq lo hi σ3 σ4 := fun lo hi h q h1 h2 => ⟨by rw [sh4], ne4 q (by omega)⟩
  have E24 : ∀ lo hi, hi ≤ r → zEq lo hi σ2 σ4 := fun lo hi h => zEq_t (E23 lo hi h) (E34 lo hi h)
  have C4 := zC_reg (E34 b (b + 118) (by omega)) C3
  have RB : zRb σ4 b r tl tb := by
    refine ⟨by rw [z_ob_eq sh4]; exact sh3, ?_, ?_, C4.1.2.2.2.2.2.1, C4.1.2.2.2.2.2.2, fun j hj => ?_, hr, htl, fun j hj => (htb j hj).2⟩
    · rw [← hσ4, z_R_pR, if_neg (by omega), z_R_pI, z_R_pR, if_pos ⟨rfl, rfl⟩]
    · rw [← hσ4, z_R_pR, if_pos ⟨rfl, rfl⟩]
    · rw [C4.2.2.2.2.2 j hj]; exact (htb j hj).1
  have RC : zRc σ4 b r tl tb (s_clr g) 0 none := by
    refine ⟨RB, ?_, ?_, pl, fun _ => 0, fun _ _ => 0, 0, zC0_reg (E24 _ _ (by omega)) D0, qG_reg (E24 _ _ (by omega)) DG, ?_⟩
    · rw [← hσ4, z_I_pR, z_I_pI, if_pos ⟨rfl, rfl⟩]
    · rw [← hσ4, z_I_pR, z_I_pI, if_neg (by omega), z_I_pR, z_I_pI, if_neg (by omega), I3]; rfl
    · show z_R σ4 r 4 = none
      rw [← hσ4, z_R_pR, if_neg (by omega), z_R_pI, z_R_pR, if_neg (by omega), z_R_pI, R3]
  obtain ⟨J1, J2⟩ := c_items (b := b) (r := r) (tl := tl) (tb := tb) (B := B) (V := V) (tl + 1) 0 σ4 (s_clr g) 0 none RC hIc (by rw [s_clr_n (by omega) (by omega) (by omega)]; omega) (by omega) (by omega) (by omega) zN (by unfold zN; omega)
  -- the way to the reader's answer
  have o81 : z_ob σ1 b 8 = true := by rw [z_ob_eq F1.2.1]; exact o8
  have t11 : z_R σ1 b 0 = some (b + 1) := by rw [F1.2.2.1]; exact t1
  have t21 : z_R σ1 b 1 = some (b + 20) := by rw [F1.2.2.1]; exact t2
  have oT1 : z_ob σ1 (b + 20) 2 = true := by rw [z_ob_eq F1.2.1]; exact oT
  have o83 : z_ob σ3 b 8 = true := C3.1.1
  have t43 : z_R σ3 b 3 = some (b + 117) := C3.1.2.2.2.2.1
  have t23 : z_R σ3 b 1 = some (b + 20) := C3.1.2.2.1
  have e43 : z_I σ3 b 4 = n32 tl := C3.2.2.2.2.1
  have o4r : z_ob σ4 r 5 = true := RB.1
  have IN : f_X5_init σ3 r (b + 117) (n32 tl) (b + 20) = some σ4 := by
    simp only [f_X5_init, ↓zl_eq, ↓zb_eq, ↓zb2_eq, ↓zc_some, ↓zc_none, ↓zb_pre, ↓zb2_pre, ↓zc_pre, ↓zex_eq, ↓reduceIte, Option.isSome_some, Option.isSome_none, Option.getD_some, n32_lit, n32_nn2, sh3, z_ob_pI, z_ob_pR, hσ4]
  have nx4 : z_nx σ4 = z_nx σ + 1 := by
    rw [← hσ4]
    show z_nx σ3 = _
    rw [← hσ3, z_nx_nw, nx2]
  have Eout4 : zEq (b + 118) (b + 124) σ σ4 := zEq_t (zEq_fw (zFw_of F2) (by omega)) (E24 _ _ (by omega))
  have way : ∀ ρ : Int32 × zSt, zloop (fun (t : zSt × Int32) => b_X5_readItems_2 r t.1 t.2) zN (σ4, n32 0) = some ρ → f_X5_readItems σ4 r = some ρ := fun ρ hρ => hρ
  have n10n : (-10 : Int32) = -n32 10 := rfl
  refine ⟨fun e he => ?_, fun m g' he => ?_⟩
  · obtain ⟨σ5, E5, FP, i5, bl5⟩ := J1 e he
    have RI := way _ E5
    have o5 : z_ob σ5 r 5 = true := by rw [z_ob_eq FP.2.1]; exact o4r
    refine ⟨σ5, ?_, zC_tr (fun q h1 h2 => ⟨by rw [FP.2.1], FP.2.2 q (by omega) (by omega)⟩) (fun q h1 h2 => ⟨by rw [FP.2.1], FP.2.2 q (by omega) (by omega)⟩) bl5 C4, zEq_t Eout4 (fun q h1 h2 => ⟨by rw [FP.2.1], FP.2.2 q (by omega) (by omega)⟩), by rw [FP.1, nx4]; omega⟩
    rw [n10n]
    simp only [f_X9_parse, ↓zl_eq, ↓zb_eq, ↓zb2_eq, ↓zc_some, ↓zc_none, ↓zb_pre, ↓zb2_pre, ↓zc_pre, ↓zex_eq, ↓reduceIte, Option.isSome_some, Option.isSome_none, Option.getD_some, n32_lit, n32_nn2, o8, t2, oT, EC, o81, t21, t11, oT1, ET, hrr, hσ3, o83, t43, t23, e43, IN, o4r, RI, o5, i5]
  · obtain ⟨σ5, E5, FP, L5, I5, m5⟩ := J2 m g' he
    have RI := way _ E5
    have C5 : zC σ5 b g k gs tl tx := zC_tr (fun q h1 h2 => ⟨by rw [FP.2.1], FP.2.2 q (by omega) (by omega)⟩) (fun q h1 h2 => ⟨by rw [FP.2.1], FP.2.2 q (by omega) (by omega)⟩) (zLn_bl L5) C4
    obtain ⟨σ6, ES, C6, n6, s6, Ea, Eb⟩ := zC_save C5 (s_I_num hI)
    have L6 : zLn σ6 (b + 20) g' := zLn_reg (zEq_s Ea (by omega) (by omega)) L5
    obtain ⟨σ7, EK, F7, L7⟩ := zLn_copy (zLn_bl C6.2.1) L6 (by omega) (s_I_num I5)
    have nm : (n32 m = nn) = False := eq_false (s_nn_ne (by omega))
    have o85 : z_ob σ5 b 8 = true := C5.1.1
    have t35 : z_R σ5 b 2 = some (b + 39) := C5.1.2.2.2.1
    have t15 : z_R σ5 b 0 = some (b + 1) := C5.1.2.1
    have oh5 : z_ob σ5 (b + 39) 1 = true := (zC_hs C5).2
    have o86 : z_ob σ6 b 8 = true := C6.1.1
    have t16 : z_R σ6 b 0 = some (b + 1) := C6.1.2.1
    have t26 : z_R σ6 b 1 = some (b + 20) := C6.1.2.2.1
    have oL6 : z_ob σ6 (b + 1) 2 = true := (zLn_bl C6.2.1).1.1
    refine ⟨⟨σ7, ?_, zC_line (zFw_of F7) L7 C6, zEq_t (zEq_t (zEq_t Eout4 (fun q h1 h2 => ⟨by rw [FP.2.1], FP.2.2 q (by omega) (by omega)⟩)) (zEq_s (Eb (b + 124)) (by omega) (Nat.le_refl _))) (zEq_fw (zFw_of F7) (by omega)), by rw [F7.1, n6, FP.1, nx4]; omega⟩, I5⟩
    simp only [f_X9_parse, ↓zl_eq, ↓zb_eq, ↓zb2_eq, ↓zc_some, ↓zc_none, ↓zb_pre, ↓zb2_pre, ↓zc_pre, ↓zex_eq, ↓reduceIte, Option.isSome_some, Option.isSome_none, Option.getD_some, n32_lit, n32_nn2, o8, t2, oT, EC, o81, t21, t11, oT1, ET, hrr, hσ3, o83, t43, t23, e43, IN, o4r, RI, nm, o85, t35, t15, oh5, ES, o86, t16, t26, oL6, EK]
end CLASS
section MODEL
variable {σ : zSt} {b k tl : Nat} {g : zG} {gs : Nat → zG} {tx : Nat → Int32} {B V : Nat}
theorem m_swap {M : Nat} (hM : zMs σ M) {l1 : Int32} {σt σu : zSt} (hS : f_X10_save (z_sA (z_sA σ (M + 1) (s_cp (z_I σ (M + 3)) (z_I σ (M + 1)) 942)) (M + 3) (s_cp (z_I σ (M + 1)) (z_I σ (M + 3)) 942)) M = some σt) (ot : z_ob σt M 9 = true) (hT : f_X10_takesBack σt M = some σu) : f_X10_parse_88 M l1 σ (n32 0) = some (l1, σu) := by
  unfold f_X10_parse_88
  have e0 : (σ, n32 0) = ((fun i => (z_sA (z_sA σ (M + 1) (s_cp (z_I σ (M + 3)) (z_I σ (M + 1)) i)) (M + 3) (s_cp (z_I σ (M + 1)) (z_I σ (M + 3)) i), n32 i)) 0 : zSt × Int32) := by
    simp only [s_cp0, z_sA_id]
  rw [e0]
  refine zloop_go (N := zN) (fun i => (z_sA (z_sA σ (M + 1) (s_cp (z_I σ (M + 3)) (z_I σ (M + 1)) i)) (M + 3) (s_cp (z_I σ (M + 1)) (z_I σ (M + 3)) i), n32 i)) _ 942 (fun i hi => ?_) ?_ (by unfold zN; omega)
  · show b_X10_parse_88 M l1 (z_sA (z_sA σ (M + 1) (s_cp (z_I σ (M + 3)) (z_I σ (M + 1)) i)) (M + 3) (s_cp (z_I σ (M + 1)) (z_I σ (M + 3)) i)) (n32 i) = some (.inl (z_sA (z_sA σ (M + 1) (s_cp (z_I σ (M + 3)) (z_I σ (M + 1)) (i + 1))) (M + 3) (s_cp (z_I σ (M + 1)) (z_I σ (M + 3)) (i + 1)), n32 (i + 1)))
    have v1 : s_cp (z_I σ (M + 3)) (z_I σ (M + 1)) i i = z_I σ (M + 1) i := by unfold s_cp; rw [if_neg (by omega)]
    have v3 : s_cp (z_I σ (M + 1)) (z_I σ (M + 3)) i i = z_I σ (M + 3) i := by unfold s_cp; rw [if_neg (by omega)]
    have j1 : z_I (z_sA (z_sA σ (M + 1) (s_cp (z_I σ (M + 3)) (z_I σ (M + 1)) i)) (M + 3) (s_cp (z_I σ (M + 1)) (z_I σ (M + 3)) i)) (M + 1) = s_cp (z_I σ (M + 3)) (z_I σ (M + 1)) i := by rw [z_I_sAn _ _ _ (by omega), z_I_sA]
    have j3 : z_I (z_sA (z_sA σ (M + 1) (s_cp (z_I σ (M + 3)) (z_I σ (M + 1)) i)) (M + 3) (s_cp (z_I σ (M + 1)) (z_I σ (M + 3)) i)) (M + 3) = s_cp (z_I σ (M + 1)) (z_I σ (M + 3)) i := by rw [z_I_sA]
    have w1 : z_pI (z_sA (z_sA σ (M + 1) (s_cp (z_I σ (M + 3)) (z_I σ (M + 1)) i)) (M + 3) (s_cp (z_I σ (M + 1)) (z_I σ (M + 3)) i)) (M + 1) i (z_I σ (M + 3) i) = z_sA (z_sA σ (M + 1) (s_cp (z_I σ (M + 3)) (z_I σ (M + 1)) (i + 1))) (M + 3) (s_cp (z_I σ (M + 1)) (z_I σ (M + 3)) i) := by
      rw [z_pI_eq, j1, s_cp_step, z_sA_comm _ (show M + 3 ≠ M + 1 by omega), z_sA_sA]
    have w3 : z_pI (z_sA (z_sA σ (M + 1) (s_cp (z_I σ (M + 3)) (z_I σ (M + 1)) (i + 1))) (M + 3) (s_cp (z_I σ (M + 1)) (z_I σ (M + 3)) i)) (M + 3) i (z_I σ (M + 1) i) = z_sA (z_sA σ (M + 1) (s_cp (z_I σ (M + 3)) (z_I σ (M + 1)) (i + 1))) (M + 3) (s_cp (z_I σ (M + 1)) (z_I σ (M + 3)) (i + 1)) := by
      rw [z_pI_eq, z_I_sA, s_cp_step, z_sA_sA]
    simp (disch := omega) only [b_X10_parse_88, ↓zl_eq, ↓zb_eq, ↓zb2_eq, ↓zc_some, ↓zc_none, ↓zb_pre, ↓zb2_pre, ↓zc_pre, ↓zex_eq, ↓reduceIte, Option.isSome_some, Option.isSome_none, Option.getD_some, n32_lit, n32_le, z_ob_sA, z_R_sA, z_ar_sA, z_ln_sA, hM.1, hM.2.1, hM.2.2.1, hM.2.2.2.1, hM.2.2.2.2.1, hM.2.2.2.2.2.1, hM.2.2.2.2.2.2.1, hM.2.2.2.2.2.2.2.1, hM.2.2.2.2.2.2.2.2.1, hM.2.2.2.2.2.2.2.2.2.1, hM.2.2.2.2.2.2.2.2.2.2.1, hM.2.2.2.2.2.2.2.2.2.2.2.1, hM.2.2.2.2.2.2.2.2.2.2.2.2, n32_ix, n32_toNat, j1, j3, v1, v3, w1, w3, n32_add]
    rw [if_neg (by omega)]
  · show b_X10_parse_88 M l1 (z_sA (z_sA σ (M + 1) (s_cp (z_I σ (M + 3)) (z_I σ (M + 1)) 942)) (M + 3) (s_cp (z_I σ (M + 1)) (z_I σ (M + 3)) 942)) (n32 942) = _
    simp (disch := omega) only [b_X10_parse_88, ↓zl_eq, ↓zb_eq, ↓zb2_eq, ↓zc_some, ↓zc_none, ↓zb_pre, ↓zb2_pre, ↓zc_pre, ↓zex_eq, ↓reduceIte, Option.isSome_some, Option.isSome_none, Option.getD_some, n32_lit, n32_le, Nat.le_refl, z_ob_sA, hM.1, hS, ot, hT]
/-- the reference reads its text -/
theorem m_parse (h : zM σ b g k gs tl tx) (hk4 : k ≤ 4) (htl : tl ≤ 120) {tb : Nat → Nat} (htb : ∀ j, j < tl → tx j = n32 (tb j) ∧ tb j < 128) :
    (∀ e, s_loop tb tl (tl + 1) 0 (s_clr g) 0 none = .inl e → zAN σ b (f_X10_parse σ (b + 118)) (-10 - n32 e) g k gs tl tx) ∧
    (∀ m g', s_loop tb tl (tl + 1) 0 (s_clr g) 0 none = .inr (m, g') → zAN σ b (f_X10_parse σ (b + 118)) (n32 m) g' (s_pk k) (s_pg k gs g) tl tx) := by
  have T := zM_thr h (n32 0)
  obtain ⟨A, EL, ML, FL, tL⟩ := zM_lays T.1
  have f1 : b + 118 + 1 = b + 119 := rfl
  have f3 : b + 118 + 3 = b + 121 := rfl
  generalize hσ3 : z_sA (z_sA σ (b + 118) (gu (z_I σ (b + 118)) 4 (n32 0))) (b + 121) (s_cp g A 942) = σ3 at EL ML FL tL
  have F03 := zFM_t T.2.1 FL
  have a3 : z_I σ3 (b + 121) = s_cp g A 942 := by rw [← hσ3, z_I_sA]
  obtain ⟨hM3, g3, s3, sv3, l3, x3⟩ := ML
  have m1 := hM3
  unfold zMs at m1
  rw [f1] at m1
  generalize hσ4 : z_sA (z_sA σ3 (b + 119) (s_clr g)) (b + 118) (gu (gu (z_I σ3 (b + 118)) 9 nn) 7 (n32 0)) = σ4
  have i40 : z_I σ4 (b + 118) = gu (gu (z_I σ3 (b + 118)) 9 nn) 7 (n32 0) := by rw [← hσ4, z_I_sA]
  have i4g : z_I σ4 (b + 119) = s_clr g := by rw [← hσ4, z_I_sAn _ _ _ (by omega), z_I_sA]
  have i4q : ∀ q, q ≠ b + 118 → q ≠ b + 119 → z_I σ4 q = z_I σ3 q := fun q h1 h2 => by rw [← hσ4, z_I_sAn _ _ _ h1, z_I_sAn _ _ _ h2]
  have F34 : zFM b σ3 σ4 := by rw [← hσ4]; exact zFM_t (zFM_sA _ (by omega) (by omega) _) (zFM_sA _ (by omega) (by omega) _)
  have F04 := zFM_t F03 F34
  have hM4 : zMs σ4 (b + 118) := zMs_FM F34 hM3
  have loop : ∀ out, f_X10_parse_50 (b + 118) σ4 (n32 0) = some out → f_X10_parse_11 (b + 118) σ3 (n32 3) = some out := by
    intro out hout
    unfold f_X10_parse_11
    have e0 : (σ3, n32 3) = ((fun i => (z_sA σ3 (b + 119) (fun j => if 3 ≤ j ∧ j < 3 + i then n32 0 else g j), n32 (3 + i))) 0 : zSt × Int32) := by
      have : (fun j => if 3 ≤ j ∧ j < 3 + 0 then n32 0 else g j) = g := by
        funext j; rw [if_neg (by omega)]
      have e9 : z_sA σ3 (b + 119) g = σ3 := by
        rw [← g3]; exact z_sA_id σ3 _
      show _ = (z_sA σ3 (b + 119) (fun j => if 3 ≤ j ∧ j < 3 + 0 then n32 0 else g j), n32 (3 + 0))
      rw [this, e9]
    rw [e0]
    refine zloop_go (N := zN) (fun i => (z_sA σ3 (b + 119) (fun j => if 3 ≤ j ∧ j < 3 + i then n32 0 else g j), n32 (3 + i))) _ 939 (fun i hi => ?_) ?_ (by unfold zN; omega)
    · show b_X10_parse_11 (b + 118) (z_sA σ3 (b + 119) (fun j => if 3 ≤ j ∧ j < 3 + i then n32 0 else g j)) (n32 (3 + i)) = some (.inl (z_sA σ3 (b + 119) (fun j => if 3 ≤ j ∧ j < 3 + (i + 1) then n32 0 else g j), n32 (3 + (i + 1))))
      have ge : gu (fun j => if 3 ≤ j ∧ j < 3 + i then n32 0 else g j) (3 + i) (n32 0) = (fun j => if 3 ≤ j ∧ j < 3 + (i + 1) then n32 0 else g j) := by
        funext j
        unfold gu
        by_cases hj : j = 3 + i
        · rw [if_pos hj, if_pos (by omega)]
        · rw [if_neg hj]
          show (if 3 ≤ j ∧ j < 3 + i then n32 0 else g j) = _
          by_cases hj2 : 3 ≤ j ∧ j < 3 + i
          · rw [if_pos hj2, if_pos (by omega)]
          · rw [if_neg hj2, if_neg (by omega)]
      simp (disch := omega) only [b_X10_parse_11, ↓zl_eq, ↓zb_eq, ↓zb2_eq, ↓zc_some, ↓zc_none, ↓zb_pre, ↓zb2_pre, ↓zc_pre, ↓zex_eq, ↓reduceIte, Option.isSome_some, Option.isSome_none, Option.getD_some, n32_lit, n32_le, z_ob_sA, z_R_sA, z_ar_sA, z_ln_sA, m1.1, m1.2.1, m1.2.2.2.2.2.1, m1.2.2.2.2.2.2.2.2.2.1, n32_ix, n32_toNat, z_pI_eq, z_I_sA, z_sA_sA, ge, n32_add]
      rw [if_neg (by omega)]
      rfl
    · show b_X10_parse_11 (b + 118) (z_sA σ3 (b + 119) (fun j => if 3 ≤ j ∧ j < 3 + 939 then n32 0 else g j)) (n32 (3 + 939)) = _
      have c4 : gu (fun j => if 3 ≤ j ∧ j < 3 + 939 then n32 0 else g j) 4 nn = s_clr g := rfl
      have iM : z_I (z_sA σ3 (b + 119) (s_clr g)) (b + 118) = z_I σ3 (b + 118) := z_I_sAn _ _ _ (by omega)
      simp (disch := omega) only [b_X10_parse_11, ↓zl_eq, ↓zb_eq, ↓zb2_eq, ↓zc_some, ↓zc_none, ↓zb_pre, ↓zb2_pre, ↓zc_pre, ↓zex_eq, ↓reduceIte, Option.isSome_some, Option.isSome_none, Option.getD_some, n32_lit, n32_nn2, n32_le, z_ob_sA, z_R_sA, z_ar_sA, z_ln_sA, m1.1, m1.2.1, m1.2.2.2.2.2.1, m1.2.2.2.2.2.2.2.2.2.1, n32_ix, n32_toNat, z_pI_eq, z_I_sA, z_sA_sA, c4, iM, hσ4, hout]
      rw [if_pos (by omega)]
  have way : ∀ out, zloop (fun (t : zSt × Int32) => b_X10_parse_50 (b + 118) t.1 t.2) zN (σ4, n32 0) = some out → f_X10_parse σ (b + 118) = some out := by
    intro out hout
    have L := loop out hout
    have oo : z_ob (z_sA σ (b + 118) (gu (z_I σ (b + 118)) 4 (n32 0))) (b + 118) 9 = true := h.1.1
    have oh := h.1.1
    simp only [f_X10_parse, ↓zl_eq, ↓zb_eq, ↓zb2_eq, ↓zc_some, ↓zc_none, ↓zb_pre, ↓zb2_pre, ↓zc_pre, ↓zex_eq, ↓reduceIte, Option.isSome_some, Option.isSome_none, Option.getD_some, n32_lit, oh, z_pI_eq, oo, EL, L]
  have RM : zRm σ4 b tl tb (s_clr g) 0 none := by
    refine ⟨⟨hM4, fun j hj => ?_, htl, fun j hj => (htb j hj).2⟩, i4g, ?_, ?_, ?_, fun x hx => (by cases hx), z01_clr g, ?_, ?_, by omega⟩
    · rw [i4q _ (by omega) (by omega), x3 j hj]; exact (htb j hj).1
    · rw [i40, gu_ne _ _ (by omega), gu_ne _ _ (by omega)]; exact l3
    · rw [i40, gu_same]
    · rw [i40, gu_ne _ _ (by omega), gu_same]; rfl
    · rw [s_clr_n (by omega) (by omega) (by omega)]; exact s_clr_0 g (by omega) (by omega) (by omega)
    · rw [s_clr_n (by omega) (by omega) (by omega)]; omega
  obtain ⟨J1, J2⟩ := m_items (b := b) (tl := tl) (tb := tb) (tl + 1) 0 σ4 (s_clr g) 0 none RM (by omega) zN (by unfold zN; omega)
  have i41 : z_I σ4 (b + 121) = s_cp g A 942 := by rw [i4q _ (by omega) (by omega)]; exact a3
  -- what is kept through reading
  have keep : ∀ σ1, zFi b σ4 σ1 → zFM b σ σ1 ∧ zMs σ1 (b + 118) ∧ z_I σ1 (b + 118) 3 = n32 k ∧ (∀ i j, i < k → j < 942 → z_I σ1 (b + 120) (942 * i + j) = gs i j) ∧ z_I σ1 (b + 118) 6 = n32 tl ∧ (∀ j, j < tl → z_I σ1 (b + 122) j = tx j) ∧ ∀ j, 942 ≤ j → z_I σ1 (b + 119) j = g j := by
    intro σ1 FI
    have F41 : zFM b σ4 σ1 := ⟨FI.1, FI.2.1, FI.2.2.1, FI.2.2.2.1, fun q hq => FI.2.2.2.2.1 q (by omega) (by omega)⟩
    refine ⟨zFM_t F04 F41, zMs_FM F41 hM4, ?_, fun i j hi hj => ?_, ?_, fun j hj => ?_, fun j hj => ?_⟩
    · rw [FI.2.2.2.2.2.1 3 (by omega) (by omega) (by omega), i40, gu_ne _ _ (by omega), gu_ne _ _ (by omega)]; exact s3
    · rw [FI.2.2.2.2.1 _ (by omega) (by omega), i4q _ (by omega) (by omega)]; exact sv3 i j hi hj
    · rw [FI.2.2.2.2.2.1 6 (by omega) (by omega) (by omega), i40, gu_ne _ _ (by omega), gu_ne _ _ (by omega)]; exact l3
    · rw [FI.2.2.2.2.1 _ (by omega) (by omega), i4q _ (by omega) (by omega)]; exact x3 j hj
    · rw [FI.2.2.2.2.2.2 j hj, i4g]; exact s_clr_hi g hj
  refine ⟨fun e he => ?_, fun m g' he => ?_⟩
  · obtain ⟨σ1, FI, E⟩ := J1 e he
    obtain ⟨k1, k2, k3, k4, k5, k6, k7⟩ := keep σ1 FI
    rw [i41, s_cp_cp, s_cp_hi k7] at E
    refine ⟨_, way _ E, ⟨k2, z_I_sA _ _ _, ?_, fun i j hi hj => ?_, ?_, fun j hj => ?_⟩, zFM_t k1 (zFM_sA _ (by omega) (by omega) _)⟩
    · rw [z_I_sAn _ _ _ (by omega)]; exact k3
    · rw [z_I_sAn _ _ _ (by omega)]; exact k4 i j hi hj
    · rw [z_I_sAn _ _ _ (by omega)]; exact k5
    · rw [z_I_sAn _ _ _ (by omega)]; exact k6 j hj
  · obtain ⟨σ1, FI, eg, K⟩ := J2 m g' he
    obtain ⟨k1, k2, k3, k4, k5, k6, k7⟩ := keep σ1 FI
    have i1a : z_I σ1 (b + 121) = s_cp g A 942 := by rw [FI.2.2.2.2.1 _ (by omega) (by omega)]; exact i41
    have SW := fun σt σu hS ot hT => m_swap (σ := σ1) (M := b + 118) k2 (l1 := n32 m) (σt := σt) (σu := σu) hS ot hT
    rw [f1, f3, eg, i1a, s_cp_cp] at SW
    rw [eg] at k7
    rw [s_cp_hi k7] at SW
    -- the array is the old one again
    have Ms : zM (z_sA (z_sA σ1 (b + 119) g) (b + 121) (s_cp g' (s_cp g A 942) 942)) b g k gs tl tx := by
      refine ⟨k2, ?_, ?_, fun i j hi hj => ?_, ?_, fun j hj => ?_⟩
      · rw [z_I_sAn _ _ _ (by omega), z_I_sA]
      · rw [z_I_sAn _ _ _ (by omega), z_I_sAn _ _ _ (by omega)]; exact k3
      · rw [z_I_sAn _ _ _ (by omega), z_I_sAn _ _ _ (by omega)]; exact k4 i j hi hj
      · rw [z_I_sAn _ _ _ (by omega), z_I_sAn _ _ _ (by omega)]; exact k5
      · rw [z_I_sAn _ _ _ (by omega), z_I_sAn _ _ _ (by omega)]; exact k6 j hj
    have Fs : zFM b σ1 (z_sA (z_sA σ1 (b + 119) g) (b + 121) (s_cp g' (s_cp g A 942) 942)) := zFM_t (zFM_sA _ (by omega) (by omega) _) (zFM_sA _ (by omega) (by omega) _)
    have is3 : z_I (z_sA (z_sA σ1 (b + 119) g) (b + 121) (s_cp g' (s_cp g A 942) 942)) (b + 121) = s_cp g' (s_cp g A 942) 942 := z_I_sA _ _ _
    generalize z_sA (z_sA σ1 (b + 119) g) (b + 121) (s_cp g' (s_cp g A 942) 942) = σs at Ms Fs is3 SW
    obtain ⟨σt, ES, Mt, Ft, _, it, _⟩ := zM_save Ms hk4
    have TB := m_takesBack Mt.1
    rw [f1, f3, it (b + 121) (by omega), is3, Mt.2.1, s_cp_cp, s_cp_hi (fun j hj => (k7 j hj).symm)] at TB
    have N := zM_new Mt g'
    exact ⟨_, way _ (K _ (SW σt _ ES Mt.1.1 TB)), N.1, zFM_t k1 (zFM_t Fs (zFM_t Ft N.2.1))⟩
end MODEL
section TOP
variable {σ : zSt} {b k tl : Nat} {g : zG} {gs : Nat → zG} {tx : Nat → Int32} {B V : Nat}
theorem p_parse (h : zW σ b g k gs tl tx B V) : zPn σ b g k gs tl tx B V (f_X9_parse σ b) (fun σ1 => f_X10_parse σ1 (b + 118)) := by
  have htb : ∀ j, j < tl → tx j = n32 ((tx j).toNatClampNeg) ∧ (tx j).toNatClampNeg < 128 := fun j hj => by
    obtain ⟨c, hc, e⟩ := h.2.2.2.2.2.2.1 j hj
    rw [e, n32_toNat (by omega)]
    exact ⟨rfl, hc⟩
  obtain ⟨P1, P2⟩ := c_parse h (tb := fun j => (tx j).toNatClampNeg) htb
  have Q := fun σ1 (hM : zM σ1 b g k gs tl tx) => m_parse hM h.2.2.2.2.1 h.2.2.2.2.2.1 (tb := fun j => (tx j).toNatClampNeg) htb
  cases hx : s_loop (fun j => (tx j).toNatClampNeg) tl (tl + 1) 0 (s_clr g) 0 none with
  | inl e =>
    exact ⟨-10 - n32 e, g, k, gs, tl, tx, P1 e hx, fun σ1 hM => (Q σ1 hM).1 e hx, s_I_w h.2.2.1 (Nat.le_refl _) (by omega), fun i hi => s_I_w (h.2.2.2.1 i hi) (Nat.le_refl _) (by omega), h.2.2.2.2.1, h.2.2.2.2.2.1, h.2.2.2.2.2.2.1⟩
  | inr t =>
    obtain ⟨m, g'⟩ := t
    have P := P2 m g' hx
    exact ⟨n32 m, g', s_pk k, s_pg k gs g, tl, tx, P.1, fun σ1 hM => (Q σ1 hM).2 m g' hx, s_I_w P.2 (Nat.le_refl _) (by omega), fun i hi => s_I_w (s_pg_I h.2.2.2.2.1 h.2.2.1 h.2.2.2.1 i hi) (Nat.le_refl _) (by omega), s_pk4 h.2.2.2.2.1, h.2.2.2.2.2.1, h.2.2.2.2.2.2.1⟩
end TOP
