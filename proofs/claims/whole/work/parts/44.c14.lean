/-- what is said of an array before a visit -/
def s_num (g : zG) : Prop := s_nat g 5 ≤ 100 ∧ g 5 = n32 (s_nat g 5) ∧ (∃ z, z ≤ 20 ∧ g 6 = n32 z) ∧ (∃ gg, 1 ≤ gg ∧ gg ≤ 20 ∧ g 2 = n32 gg) ∧ s_mo g ∧ s_nat g 3 ≤ 2000000000 ∧ s_sta g ∧ ∃ mv, mv ≤ 2000000000 ∧ g 9 = n32 mv ∧ g 7 = n32 (min mv 40)
section CLASS
variable {σ : zSt} {a n : Nat} {pl ad : Nat → Nat} {qu : Nat → Nat → Nat} {g : zG}
theorem s_okv_of (hN : s_num g) {h : Nat} (hh : h < 32) (hz : g (18 + 7 * h + 0) = n32 1) : s_okv g h := by
  obtain ⟨h5, h52, h6, h2, hmo, hb, hst, mv, _, h9, h7⟩ := hN
  have st := hst h hh hz
  exact ⟨hh, ⟨h6, ⟨_, h5, h52⟩⟩, ⟨_, Nat.min_le_right _ _, h7⟩, st.2.2.2.1, st.2.2.2.2, h2⟩
theorem c_vis70 (h : zC0 σ a pl ad qu n g) {i : Nat} (hi : i < n) (l2 l3 l4 : Int32) : f_X8_makeVisit_70 σ a (pl i) l2 l3 l4 = f_X2_logVisit σ a l2 (n32 (ad i)) l3 l4 := by
  have e : ∀ x : Option zSt, zb x (fun s => some s) = x := by intro x; cases x <;> rfl
  unfold f_X8_makeVisit_70
  rw [if_pos (c_ob h hi), if_pos h.1.1, (c_S h hi).1]
  exact e _
theorem c_vis18 (hL : zLs σ a) (hP : zPl σ a pl) (hR : zRep σ a pl ad qu n g) (hG : qG σ a g) (hN : s_num g) {i : Nat} (hi : i < n) (h4 : g 4 = n32 (ad i)) :
    ∃ σ' qu', f_X8_makeVisit_18 σ a (some (pl i)) = some σ' ∧ zFr a σ σ' ∧ zRep σ' a pl ad qu' n (s_vis g (ad i) 101) ∧ qG σ' a (s_vis g (ad i) 101) ∧ s_go g (ad i) ∧ s_mo (s_mid g (ad i) 101) ∧ s_nat (s_mid g (ad i) 101) 3 ≤ s_nat g 3 + 2040 := by
  have hN' := hN
  obtain ⟨h5, h52, h6, ⟨gg, hg1, hg2, h2⟩, hmo, hb, hst, mv, hmv, h9, h7⟩ := hN
  have h : zCs σ a pl ad qu n g := ⟨hL, hP, hR, h6, hst⟩
  have h0 := zC0_of h
  have hai := c_ad h0 hi
  have e9 := (c_L h0).2.2.2.2.1
  obtain ⟨z, hz, h6z⟩ := h6
  have n6 : s_nat g 6 = z := s_nat_n32 h6z (by omega)
  have okv := s_okv_of hN' hai.1 hai.2
  have stA := hst (ad i) hai.1 hai.2
  obtain ⟨nx, hnx, e3⟩ := stA.2.2.2.1
  obtain ⟨gp, hgp, e4⟩ := stA.2.2.2.2
  -- begin
  obtain ⟨σ1, E1, A1⟩ := c_begin h hi
  have bn : ∀ {j : Nat}, j ≠ 8 → j ≠ 9 → j ≠ 18 + 7 * ad i + 5 → j ≠ 18 + 7 * ad i + 6 → s_begin g (ad i) j = g j := fun a b c d => s_begin_ne _ _ a b c d
  have hC1 : zCs σ1 a pl ad qu n (s_begin g (ad i)) := zCs_step h A1 (bn (by omega) (by omega) (by omega) (by omega)) (s_sta_begin hai.1 hst)
  have b3 : s_begin g (ad i) 3 = g 3 := bn (by omega) (by omega) (by omega) (by omega)
  have b5 : s_begin g (ad i) 5 = g 5 := bn (by omega) (by omega) (by omega) (by omega)
  have nb3 : s_nat (s_begin g (ad i)) 3 = s_nat g 3 := by unfold s_nat; rw [b3]
  have nb5 : s_nat (s_begin g (ad i)) 5 = s_nat g 5 := by unfold s_nat; rw [b5]
  have hmo1 : s_mo (s_begin g (ad i)) := s_mo_t (d := 0) hmo (by rw [b3, Nat.add_zero]; exact hmo.1) (by omega) b5 (fun m _ => ⟨bn (by omega) (by omega) (by omega) (by omega), bn (by omega) (by omega) (by omega) (by omega)⟩)
  -- sendings
  obtain ⟨σ2, c', qu', E2, A2, F2, D2, T2, M2⟩ := c_sendMsgs hC1 (by rw [nb5]; exact h5) (by rw [nb5, b5]; exact h52) hmo1 (by rw [nb3]; exact hb) hi (g 0 - s_rot g (ad i))
  rw [b3] at A2 F2 D2 T2 M2
  have go : s_go g (ad i) := ⟨okv, F2⟩
  have emid : s_all (n32 (ad i)) (g 3) (g 0 - s_rot g (ad i)) 101 (s_begin g (ad i)) = s_mid g (ad i) 101 := rfl
  rw [emid] at A2 D2 T2 M2
  have ob := s_ok_begin (show s_ok g from ⟨⟨z, hz, h6z⟩, ⟨_, h5, h52⟩⟩) (ad i)
  have mid : ∀ {j : Nat}, j ≠ 3 → j ≠ 11 → j ≠ 10 → j ≠ 15 → (j < 242 ∨ 742 ≤ j) → s_mid g (ad i) 101 j = s_begin g (ad i) j := fun a b c d e => s_all_ne _ _ _ _ _ a b c d e ob
  have n7 : s_nat g 7 = min mv 40 := s_nat_n32 h7 (by omega)
  have b10 : s_begin g (ad i) 10 = g 10 := bn (by omega) (by omega) (by omega) (by omega)
  have esent : s_mid g (ad i) 101 10 - g 10 = n32 c' := by rw [D2, b10, Int32.add_comm, Int32.add_sub_cancel]
  have elog : s_logged g (ad i) 101 (s_nat g 7) = s_log (s_mid g (ad i) 101) (min mv 40) (g 3) (n32 (ad i)) (s_rot g (ad i)) (n32 c') := by
    unfold s_logged; rw [n7, esent]
  generalize hgl : s_logged g (ad i) 101 (s_nat g 7) = gl at *
  have lgd : ∀ {j : Nat}, j ≠ 7 → j < 782 → gl j = s_mid g (ad i) 101 j := fun a b => by rw [elog]; exact s_log_ne _ _ _ _ _ _ a b
  have lg2 : ∀ {j : Nat}, j ≠ 7 → j ≠ 3 → j ≠ 11 → j ≠ 10 → j ≠ 15 → j ≠ 8 → j ≠ 9 → j ≠ 18 + 7 * ad i + 5 → j ≠ 18 + 7 * ad i + 6 → j < 242 → gl j = g j := fun a b c d e f p q r s => by
    rw [lgd a (by omega), mid b c d e (Or.inl s), bn f p q r]
  have hA5 : s_nat (s_mid g (ad i) 101) 5 = s_nat g 5 := by unfold s_nat; rw [mid (by omega) (by omega) (by omega) (by omega) (by omega), b5]
  have hA6 : s_nat (s_mid g (ad i) 101) 6 = s_nat g 6 := by unfold s_nat; rw [mid (by omega) (by omega) (by omega) (by omega) (by omega), bn (by omega) (by omega) (by omega) (by omega)]
  have R2 := zRep_congr (g' := gl) (fun j a b => lgd a b) (by rw [hA6]; omega) (by rw [hA5]; exact h5) A2.2.2
  have stmid : s_sta gl := by
    refine s_sta_congr (g := s_begin g (ad i)) (fun j h18 h242 => ?_) (s_sta_begin hai.1 hst)
    rw [lgd (by omega) (by omega), mid (by omega) (by omega) (by omega) (by omega) (Or.inl h242)]
  have l6 : gl 6 = n32 z := by rw [lg2 (by omega) (by omega) (by omega) (by omega) (by omega) (by omega) (by omega) (by omega) (by omega) (by omega)]; exact h6z
  have l3 : gl (18 + 7 * ad i + 3) = n32 nx := by rw [lg2 (by omega) (by omega) (by omega) (by omega) (by omega) (by omega) (by omega) (by omega) (by omega) (by omega)]; exact e3
  have l4 : gl (18 + 7 * ad i + 4) = n32 gp := by rw [lg2 (by omega) (by omega) (by omega) (by omega) (by omega) (by omega) (by omega) (by omega) (by omega) (by omega)]; exact e4
  have l2 : gl 2 = n32 gg := by rw [lg2 (by omega) (by omega) (by omega) (by omega) (by omega) (by omega) (by omega) (by omega) (by omega) (by omega)]; exact h2
  have lh : gl 4 = n32 (ad i) := by rw [lg2 (by omega) (by omega) (by omega) (by omega) (by omega) (by omega) (by omega) (by omega) (by omega) (by omega)]; exact h4
  have F12 : zFr a σ σ2 := zFr_t A1.1 A2.1
  have hC2 : zCs σ2 a pl ad qu' n gl := ⟨zLs_fr F12 hL, zPl_fr F12 hP, R2, ⟨z, hz, l6⟩, stmid⟩
  -- polling
  obtain ⟨σ3, E3, A3, S3⟩ := c_poll hC2 hi hnx hgp hg1 hg2 l3 l4 l2
  have epl : s_polls gl (ad i) nx gp = s_pl gl (ad i) := by
    unfold s_pl; rw [s_nat_n32 l3 (by omega), s_nat_n32 l4 (by omega)]
  obtain ⟨ny, hny, hny2⟩ := s_polls_next (gp := gp) gl hai.1 hnx l3
  have p6 : s_polls gl (ad i) nx gp 6 = gl 6 := s_polls_ne _ (by omega) (by omega) (by omega) (by omega) hai.1
  have p4 : s_polls gl (ad i) nx gp 4 = n32 (ad i) := by rw [s_polls_ne _ (by omega) (by omega) (by omega) (by omega) hai.1]; exact lh
  rw [epl] at A3 S3 hny2 p6 p4
  have hC3 := zCs_step hC2 A3 p6 S3
  -- passing
  have evis : s_vis g (ad i) 101 = s_passes (s_pl gl (ad i)) (ad i) ny := by
    unfold s_vis s_ps
    rw [hgl, s_nat_n32 hny2 (by omega)]
  obtain ⟨σ4, E4, A4, S4⟩ := c_pass hC3 hi hny hny2
  have q6 : (s_tries ny 3 (s_pl gl (ad i))).2 6 = s_pl gl (ad i) 6 := s_tries_ne _ _ _ (by omega) (by omega) (by omega)
  have hC4 := zCs_step hC3 A4 q6 S4
  have fin : ∃ σ5, (if bi (s_tries ny 3 (s_pl gl (ad i))).1 = 0 then zb (f_X8_dropSilent σ4 a (pl i)) (fun σ18 => zb (f_X8_askOthers σ18 a (pl i)) (fun σ20 => f_X8_makeVisit_70 σ20 a (pl i) (g 3) (s_rot g (ad i)) (n32 c'))) else f_X8_makeVisit_70 σ4 a (pl i) (g 3) (s_rot g (ad i)) (n32 c')) = f_X8_makeVisit_70 σ5 a (pl i) (g 3) (s_rot g (ad i)) (n32 c') ∧ zAn σ4 σ5 a pl ad qu' n (s_vis g (ad i) 101) := by
    rw [evis]
    unfold s_passes
    cases ht : (s_tries ny 3 (s_pl gl (ad i))).1 with
    | true =>
      refine ⟨σ4, by rw [if_neg (by decide)], ?_⟩
      simp only [if_true]
      exact ⟨zFr_r a σ4, rfl, A4.2.2⟩
    | false =>
      simp only [if_false, Bool.false_eq_true]
      have t3 : (s_tries ny 3 (s_pl gl (ad i))).2 (18 + 7 * ad i + 3) = n32 ny := by rw [s_tries_ne _ _ _ (by omega) (by omega) (by omega)]; exact hny2
      obtain ⟨σ5, E5, A5, S5⟩ := c_drop hC4 hi hny t3
      have d6 : s_drop (s_tries ny 3 (s_pl gl (ad i))).2 (ad i) ny 6 = (s_tries ny 3 (s_pl gl (ad i))).2 6 := s_drop_ne _ hny (by omega) (by omega)
      have hC5 := zCs_step hC4 A5 d6 S5
      have d3 : s_drop (s_tries ny 3 (s_pl gl (ad i))).2 (ad i) ny (18 + 7 * ad i + 3) = n32 ny := by
        unfold s_drop
        split
        · rw [gu_ne _ _ (by omega), gu_ne _ _ (by omega)]; exact t3
        · exact t3
      have d4 : s_drop (s_tries ny 3 (s_pl gl (ad i))).2 (ad i) ny 4 = n32 (ad i) := by
        rw [s_drop_ne _ hny (by omega) (by omega), s_tries_f4 _ _ _ ht]; exact p4
      obtain ⟨σ6, E6, A6⟩ := c_others hC5 hi hny d3 d4
      refine ⟨σ6, ?_, zAn_t A5 A6⟩
      rw [if_pos (by decide), E5]
      show zb (f_X8_askOthers σ5 a (pl i)) _ = _
      rw [E6]
      rfl
  obtain ⟨σ5, E5, A5⟩ := fin
  have F25 : zFr a σ2 σ5 := zFr_t A3.1 (zFr_t A4.1 A5.1)
  have F05 : zFr a σ σ5 := zFr_t F12 F25
  have hC5 : zC0 σ5 a pl ad qu' n (s_vis g (ad i) 101) := ⟨zLs_fr F05 hL, zPl_fr F05 hP, A5.2.2⟩
  have h10 : z_I σ5 (a + 10) = z_I σ (a + 10) := A5.2.1.trans (A4.2.1.trans (A3.2.1.trans (A2.2.1.trans A1.2.1)))
  have vne : ∀ {j : Nat}, j ≠ 3 → j ≠ 11 → j ≠ 4 → j ≠ 13 → j ≠ 14 → (j < 18 ∨ 242 ≤ j) → s_vis g (ad i) 101 j = gl j := fun a b c d e f => by
    rw [s_vis_ne (nx := nx) (gp := gp) g hai.1 hnx hgp (by rw [hgl]; exact l3) a b c d e f, hgl]
  have v9 : s_vis g (ad i) 101 9 = n32 (mv + 1) := by
    rw [vne (by omega) (by omega) (by omega) (by omega) (by omega) (by omega), lgd (by omega) (by omega), mid (by omega) (by omega) (by omega) (by omega) (by omega)]
    unfold s_begin
    rw [gu_ne _ _ (by omega), gu_same, h9, n32_add]
  have LV := c_logVisit hC5 (mv := mv) (by omega) v9 (g 3) (n32 (ad i)) (s_rot g (ad i)) (n32 c')
  have RGn := qG_log (σ' := σ5) (g' := s_vis g (ad i) 101) (mv := mv) (by omega) h9 h7 hG (t0 := g 3) (h := n32 (ad i)) (rot := s_rot g (ad i)) (sent := n32 c') v9 h10 (gm := s_mid g (ad i) 101)
    (fun j hj => by rw [mid (by omega) (by omega) (by omega) (by omega) (by omega), bn (by omega) (by omega) (by omega) (by omega)])
    (by rw [vne (by omega) (by omega) (by omega) (by omega) (by omega) (by omega), elog])
    (fun j hj => by rw [vne (by omega) (by omega) (by omega) (by omega) (by omega) (by omega), elog])
  refine ⟨_, qu', ?_, zFr_t F05 (zFr_sA _ (by omega) (by omega) _), zRep_10 (σ := σ5) hC5.2.1 (fun q hq => z_I_sAn _ _ _ hq) rfl hC5.2.2, RGn, go, M2, by rw [nb3] at T2; exact T2⟩
  rw [← LV, ← c_vis70 hC5 hi, ← E5]
  have e6 := (c_L (zC0_of hC1)).2.1
  have b0 : s_begin g (ad i) 0 = g 0 := bn (by omega) (by omega) (by omega) (by omega)
  rw [b0] at e6
  simp only [f_X8_makeVisit_18, zc_some, hL.1, if_true, zl_eq, e9, E1, zb2_eq, hC1.1.1, e6, E2, zb_eq, E3, E4]
end CLASS
