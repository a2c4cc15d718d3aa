/-! A STATION IS PLACED -/
/-- nothing but the cells of one line has changed, and no shape of any -/
def zFw (a : Nat) (σ σ' : zSt) : Prop := z_nx σ' = z_nx σ ∧ z_sh σ' = z_sh σ ∧ ∀ q, (q < a ∨ a + 19 ≤ q) → z_I σ' q = z_I σ q ∧ z_J σ' q = z_J σ q ∧ z_R σ' q = z_R σ q
theorem zFw_of {a : Nat} {σ σ' : zSt} (h : zFr a σ σ') : zFw a σ σ' := ⟨h.1, h.2.1, fun q hq => ⟨(h.2.2.2 q hq).1, (h.2.2.2 q hq).2, by rw [h.2.2.1]⟩⟩
theorem zFw_t {a : Nat} {σ σ' σ'' : zSt} (h : zFw a σ σ') (h2 : zFw a σ' σ'') : zFw a σ σ'' :=
  ⟨h2.1.trans h.1, h2.2.1.trans h.2.1, fun q hq => ⟨(h2.2.2 q hq).1.trans (h.2.2 q hq).1, (h2.2.2 q hq).2.1.trans (h.2.2 q hq).2.1, (h2.2.2 q hq).2.2.trans (h.2.2 q hq).2.2⟩⟩
/-- a row with something put in at place l; of the first n + 1 -/
def s_ins {β : Type} (f : Nat → β) (l n : Nat) (v : β) (i : Nat) : β := if i < l then f i else if i = l then v else if i ≤ n then f (i - 1) else f i
theorem s_ins_lt {β : Type} (f : Nat → β) {l n i : Nat} (v : β) (h : i < l) : s_ins f l n v i = f i := if_pos h
theorem s_ins_eq {β : Type} (f : Nat → β) {l n : Nat} (v : β) : s_ins f l n v l = v := by unfold s_ins; rw [if_neg (by omega), if_pos rfl]
theorem s_ins_gt {β : Type} (f : Nat → β) {l n i : Nat} (v : β) (h : l < i) (h2 : i ≤ n) : s_ins f l n v i = f (i - 1) := by unfold s_ins; rw [if_neg (by omega), if_neg (by omega), if_pos h2]
theorem s_ins_far {β : Type} (f : Nat → β) {l n i : Nat} (v : β) (h : l < i) (h2 : n < i) : s_ins f l n v i = f i := by unfold s_ins; rw [if_neg (by omega), if_neg (by omega), if_neg (by omega)]
/-- where it comes from -/
def s_pi (l n i : Nat) : Nat := if i < l then i else if i = l then n else if i ≤ n then i - 1 else i
theorem s_ins_pi {β : Type} (f : Nat → β) (l n i : Nat) : s_ins f l n (f n) i = f (s_pi l n i) := by
  unfold s_ins s_pi
  split
  · rfl
  · split
    · rfl
    · split <;> rfl
theorem s_pi_lt {l n i : Nat} (h : n < 8) (hi : i < 8) : s_pi l n i < 8 := by
  unfold s_pi
  split
  · omega
  · split
    · omega
    · split <;> omega
theorem s_pi_inj {l n i j : Nat} (h : l ≤ n) (e : s_pi l n i = s_pi l n j) : i = j := by
  unfold s_pi at e
  repeat' split at e
  all_goals omega
def s_adds (g : zG) (x : Nat) : zG := gu (gu (gu (gu (gu (gu (gu g (18 + 7 * x + 0) (n32 1)) (18 + 7 * x + 1) (n32 1)) (18 + 7 * x + 2) (n32 0)) (18 + 7 * x + 3) (n32 x)) (18 + 7 * x + 4) (n32 x)) (18 + 7 * x + 5) (n32 0)) (18 + 7 * x + 6) nn
theorem s_adds_ne (g : zG) (x : Nat) {j : Nat} (h : j < 18 + 7 * x ∨ 18 + 7 * x + 7 ≤ j) : s_adds g x j = g j := by
  unfold s_adds
  simp (disch := omega) only [gu_ne]
theorem s_cnt_0 {P : Nat → Bool} : ∀ k, (∀ m, m < k → P m = false) → s_cnt P k = 0
  | 0, _ => rfl
  | k + 1, h => by
    unfold s_cnt
    rw [s_cnt_0 k (fun m hm => h m (by omega)), h k (by omega)]
    rfl
/-- a row whose station is none is empty -/
theorem s_len_none {g : zG} (hw : s_own g) {x : Nat} (hx : x < 32) (hz : ¬ g (18 + 7 * x + 0) = n32 1) : s_len g x = 0 ∧ ∀ m, m < s_nat g 5 → s_wt g (n32 x) m = false := by
  have key : ∀ m, m < s_nat g 5 → s_wt g (n32 x) m = false := by
    intro m hm
    obtain ⟨y, hy, h1, h2⟩ := hw m hm
    have : ¬ g (242 + 5 * m + 2) = n32 x := by
      intro he
      rw [h1, n32_eq (by omega) (by omega)] at he
      rw [he] at h2
      exact hz h2
    unfold s_wt
    rw [decide_eq_false this, Bool.false_and]
  exact ⟨s_cnt_0 _ key, key⟩
section CLASS
variable {σ : zSt} {a n : Nat} {pl ad : Nat → Nat} {qu : Nat → Nat → Nat} {g : zG}
theorem c_reset {p x : Nat} (hp : z_ob σ p 6 = true) : f_X6_reset σ p (n32 x) = some (z_sA σ p (gu (gu (gu (gu (gu (gu (gu (gu (gu (z_I σ p) 0 (n32 x)) 1 (n32 1)) 2 (n32 0)) 3 (n32 x)) 4 (n32 x)) 5 nn) 6 (n32 0)) 7 (n32 0)) 8 nn)) := by
  simp (disch := omega) only [f_X6_reset, ↓zl_eq, ↓zb_eq, ↓zb2_eq, ↓zc_some, ↓zc_none, ↓zb_pre, ↓zb2_pre, ↓zc_pre, ↓zex_eq, ↓reduceIte, Option.isSome_some, Option.isSome_none, Option.getD_some, n32_lit, n32_nn2, z_pI_eq, z_ob_sA, z_sA_sA, z_I_sA, hp]
/-- the places before the new station are found -/
theorem c_placeLoop (hL : zLs σ a) (hP : zPl σ a pl) (hn : n < 8) (hA : ∀ i, i < n → ad i < 32 ∧ z_I σ (pl i) 0 = n32 (ad i)) {x : Nat} (hx : x < 32) (h5 : z_I σ a 5 = n32 n) :
    ∃ l σ', f_X2_placeStation_38 a (n32 x) (pl n) σ (n32 n) = some (some (pl n), z_pI σ' a 5 (n32 (n + 1))) ∧ l ≤ n ∧ (∀ i, l ≤ i → i < n → x ≤ ad i) ∧ (l = 0 ∨ ad (l - 1) < x) ∧ z_nx σ' = z_nx σ ∧ z_sh σ' = z_sh σ ∧ z_I σ' = z_I σ ∧ z_J σ' = z_J σ ∧ (∀ q, q ≠ a + 1 → z_R σ' q = z_R σ q) ∧ ∀ i, i < 8 → z_R σ' (a + 1) i = some (s_ins pl l n (pl n) i) := by
  have ob0 := (hP.1 n hn).2.1
  obtain ⟨r, hr, hr2⟩ := zloop_inv (N := zN) (s := (σ, n32 n)) (body := fun (t : zSt × Int32) => b_X2_placeStation_38 a (n32 x) (pl n) t.1 t.2)
    (Inv := fun k s => ∃ l, l + k = n ∧ s.2 = n32 l ∧ (∀ i, l ≤ i → i < n → x ≤ ad i) ∧ z_nx s.1 = z_nx σ ∧ z_sh s.1 = z_sh σ ∧ z_I s.1 = z_I σ ∧ z_J s.1 = z_J σ ∧ (∀ q, q ≠ a + 1 → z_R s.1 q = z_R σ q) ∧ ∀ i, i < 8 → z_R s.1 (a + 1) i = some (s_ins pl l n (pl n) i))
    (Post := fun r => ∃ l σ', r = (some (pl n), z_pI σ' a 5 (n32 (n + 1))) ∧ l ≤ n ∧ (∀ i, l ≤ i → i < n → x ≤ ad i) ∧ (l = 0 ∨ ad (l - 1) < x) ∧ z_nx σ' = z_nx σ ∧ z_sh σ' = z_sh σ ∧ z_I σ' = z_I σ ∧ z_J σ' = z_J σ ∧ (∀ q, q ≠ a + 1 → z_R σ' q = z_R σ q) ∧ ∀ i, i < 8 → z_R σ' (a + 1) i = some (s_ins pl l n (pl n) i)) n (fun k s hk hi => by
      obtain ⟨s, l2⟩ := s
      obtain ⟨l, hlk, rfl, hge, h1, h2, h3, h4, h6, h7⟩ := hi
      have eob : z_ob s = z_ob σ := z_ob_eq h2
      have ear : z_ar s = z_ar σ := z_ar_eq h2
      have eln : z_ln s = z_ln σ := z_ln_eq h2
      have o1 := hL.1
      have r0 : z_R s a 0 = some (a + 1) := by rw [h6 _ (by omega)]; exact hL.2.1
      have a1 := hL.2.2.2.2.2.2.1
      have l8 := hL.2.2.2.2.2.2.2.1
      have T : f_X2_placeStation_101 s a (pl n) = some (some (pl n), z_pI s a 5 (n32 (n + 1))) := by
        simp only [f_X2_placeStation_101, ↓zl_eq, ↓zb_eq, ↓zb2_eq, ↓zc_some, ↓zc_none, ↓zb_pre, ↓zb2_pre, ↓zc_pre, ↓zex_eq, ↓reduceIte, Option.isSome_some, Option.isSome_none, Option.getD_some, n32_lit, eob, o1, h3, h5, n32_add]
      by_cases hl0 : l = 0
      · subst hl0
        refine Or.inl ⟨_, ?_, 0, s, rfl, by omega, hge, Or.inl rfl, h1, h2, h3, h4, h6, h7⟩
        show b_X2_placeStation_38 a (n32 x) (pl n) s (n32 0) = _
        unfold b_X2_placeStation_38
        rw [if_pos (by decide), T]
        rfl
      · have hv : z_R s (a + 1) (l - 1) = some (pl (l - 1)) := by rw [h7 _ (by omega), s_ins_lt _ _ (by omega)]
        have obv := (hP.1 (l - 1) (by omega)).2.1
        have adv := hA (l - 1) (by omega)
        have em : n32 l - n32 1 = n32 (l - 1) := n32_sub (by omega)
        have em2 : n32 l + nn = n32 (l - 1) := by
          have e1 : n32 (l - 1) + n32 1 = n32 l := by rw [n32_add]; congr 1; omega
          rw [← e1, Int32.add_assoc]
          have e2 : n32 1 + nn = n32 0 := rfl
          rw [e2, n32_add]; rfl
        by_cases hlt : x ≤ ad (l - 1)
        · refine Or.inr ⟨by omega, (z_pR (z_pR s (a + 1) l (some (pl (l - 1)))) (a + 1) (l - 1) (some (pl n)), n32 (l - 1)), ?_, l - 1, by omega, rfl, fun i hi1 hi2 => ?_, h1, h2, h3, h4, fun q hq => ?_, fun i hi => ?_⟩
          · show b_X2_placeStation_38 a (n32 x) (pl n) s (n32 l) = _
            have f1 : ¬ (a = a + 1 ∧ 0 = l) := by omega
            simp (disch := omega) only [b_X2_placeStation_38, ↓zl_eq, ↓zb_eq, ↓zb2_eq, ↓zc_some, ↓zc_none, ↓zb_pre, ↓zb2_pre, ↓zc_pre, ↓zex_eq, ↓reduceIte, Option.isSome_some, Option.isSome_none, Option.getD_some, n32_lit, n32_nn2, n32_le, eob, ear, eln, o1, r0, a1, l8, ofN_n32, em, em2, n32_ix, n32_toNat, hv, obv, h3, adv.2, z_ob_pR, z_ar_pR, z_ln_pR, z_R_pR, if_neg f1, ob0]
            rw [if_neg (by omega), if_neg (by omega), if_pos hlt]
          · by_cases hil : i = l - 1
            · subst hil; exact hlt
            · exact hge i (by omega) hi2
          · show z_R (z_pR (z_pR s (a + 1) l _) (a + 1) (l - 1) _) q = _
            funext j
            rw [z_R_pR, if_neg (by omega), z_R_pR, if_neg (by omega), h6 q hq]
          · show z_R (z_pR (z_pR s (a + 1) l _) (a + 1) (l - 1) _) (a + 1) i = _
            rw [z_R_pR, z_R_pR, h7 i hi]
            by_cases c1 : i = l - 1
            · subst c1
              rw [if_pos ⟨rfl, rfl⟩, s_ins_eq]
            · rw [if_neg (by omega)]
              by_cases c2 : i = l
              · subst c2
                rw [if_pos ⟨rfl, rfl⟩, s_ins_gt _ _ (by omega) (by omega)]
              · rw [if_neg (by omega)]
                rcases Nat.lt_or_ge i l with c3 | c3
                · rw [s_ins_lt _ _ c3, s_ins_lt _ _ (by omega)]
                · rcases Nat.lt_or_ge n i with c4 | c4
                  · rw [s_ins_far _ _ (by omega) c4, s_ins_far _ _ (by omega) c4]
                  · rw [s_ins_gt _ _ (by omega) c4, s_ins_gt _ _ (by omega) c4]
        · refine Or.inl ⟨_, ?_, l, s, rfl, by omega, hge, Or.inr (by omega), h1, h2, h3, h4, h6, h7⟩
          show b_X2_placeStation_38 a (n32 x) (pl n) s (n32 l) = _
          simp (disch := omega) only [b_X2_placeStation_38, ↓zl_eq, ↓zb_eq, ↓zb2_eq, ↓zc_some, ↓zc_none, ↓zb_pre, ↓zb2_pre, ↓zc_pre, ↓zex_eq, ↓reduceIte, Option.isSome_some, Option.isSome_none, Option.getD_some, n32_lit, n32_le, eob, ear, eln, o1, r0, a1, l8, ofN_n32, em, n32_ix, n32_toNat, hv, obv, h3, adv.2, T]
          rw [if_neg (by omega), if_neg (by omega), if_neg hlt]) (by unfold zN; omega)
    ⟨n, by omega, rfl, fun i h1 h2 => by omega, rfl, rfl, rfl, rfl, fun _ _ => rfl, fun i hi => by
      rw [(hP.1 i hi).1, s_ins_pi]
      congr 2
      unfold s_pi
      split
      · rfl
      · split
        · omega
        · rw [if_neg (by omega)]⟩
  obtain ⟨l, σ', h0, hh⟩ := hr2
  refine ⟨l, σ', ?_, hh⟩
  rw [← h0]
  exact hr
end CLASS
