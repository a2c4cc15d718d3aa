/-! THE CLASS'S LINE IS THE REFERENCE'S ARRAY: piece by piece -/
def s_len (g : zG) (x : Nat) : Nat := s_cnt (s_wt g (n32 x)) (s_nat g 5)
def s_prec (g : zG) (m m' : Nat) : Prop := g (242 + 5 * m' + 1) < g (242 + 5 * m + 1) ∨ (g (242 + 5 * m + 1) = g (242 + 5 * m' + 1) ∧ m < m')
def s_qok (g : zG) (x : Nat) (f : Nat → Nat) : Prop :=
  (∀ j, j < s_len g x → f j < s_nat g 5 ∧ s_wt g (n32 x) (f j) = true) ∧ (∀ i j, i < j → j < s_len g x → s_prec g (f i) (f j)) ∧ (∀ m, m < s_nat g 5 → s_wt g (n32 x) m = true → ∃ j, j < s_len g x ∧ f j = m)
def s_most (g : zG) : Nat → Int32
  | 0 => n32 0
  | k + 1 => if g (242 + 5 * k + 4) ≤ s_most g k then s_most g k else g (242 + 5 * k + 4)
def s_sumw (g : zG) : Nat → Int64
  | 0 => 0
  | k + 1 => s_sumw g k + (if g (242 + 5 * k + 4) = nn then 0 else (g (242 + 5 * k + 4)).toInt64)
def qL (σ : zSt) (a n : Nat) (g : zG) : Prop := z_I σ a 5 = n32 n ∧ z_I σ a 6 = g 0 ∧ z_I σ a 7 = g 1 ∧ z_I σ a 8 = g 2 ∧ z_I σ a 9 = g 3 ∧ z_I σ a 10 = g 4
def qW (σ : zSt) (a : Nat) : Prop := z_I σ (a + 3) 0 = n32 6 ∧ z_I σ (a + 9) 0 = n32 4
def qM (σ : zSt) (a : Nat) (g : zG) : Prop := z_I σ (a + 2) 1 = g 5 ∧ ∀ m w, m < s_nat g 5 → w < 5 → z_I σ (a + 4) (6 * m + w) = g (242 + 5 * m + w)
def qN (σ : zSt) (a : Nat) (g : zG) : Prop := z_I σ (a + 5) 2 = g 6 ∧ ∀ k, k < s_nat g 6 → z_I σ (a + 6) k = g (742 + 2 * k) ∧ z_I σ (a + 7) k = g (742 + 2 * k + 1)
def qC (σ : zSt) (a : Nat) (g : zG) : Prop := (∀ i, i < 7 → z_I σ (a + 8) i = g (9 + i)) ∧ z_I σ (a + 8) 7 = g 8 ∧ z_I σ (a + 8) 8 = s_most g (s_nat g 5) ∧ z_J σ (a + 8) 9 = s_sumw g (s_nat g 5)
def qG (σ : zSt) (a : Nat) (g : zG) : Prop := ∀ i w, i < s_nat g 7 → w < 4 → z_I σ (a + 10) (4 * ((s_nat g 9 - s_nat g 7 + i) % 40) + w) = g (782 + 4 * i + w)
def qA (ad : Nat → Nat) (n : Nat) (g : zG) : Prop := n ≤ 8 ∧ (∀ i, i < n → ad i < 32 ∧ g (18 + 7 * ad i + 0) = n32 1) ∧ (∀ i j, i < j → j < n → ad i < ad j) ∧ ∀ x, x < 32 → g (18 + 7 * x + 0) = n32 0 ∨ (g (18 + 7 * x + 0) = n32 1 ∧ ∃ i, i < n ∧ ad i = x)
def qS (σ : zSt) (pl ad : Nat → Nat) (n : Nat) (g : zG) : Prop := ∀ i, i < n → z_I σ (pl i) 0 = n32 (ad i) ∧ z_I σ (pl i) 1 = g (18 + 7 * ad i + 1) ∧ z_I σ (pl i) 2 = g (18 + 7 * ad i + 2) ∧ z_I σ (pl i) 3 = g (18 + 7 * ad i + 3) ∧ z_I σ (pl i) 4 = g (18 + 7 * ad i + 4) ∧ z_I σ (pl i) 7 = g (18 + 7 * ad i + 5) ∧ z_I σ (pl i) 8 = g (18 + 7 * ad i + 6)
def qQ (σ : zSt) (a : Nat) (pl ad : Nat → Nat) (qu : Nat → Nat → Nat) (n : Nat) (g : zG) : Prop := ∀ i, i < n → z_I σ (pl i) 6 = n32 (s_len g (ad i)) ∧ z_I σ (pl i) 5 = (if 0 < s_len g (ad i) then n32 (qu (ad i) 0) else nn) ∧
  (∀ j, j < s_len g (ad i) → z_I σ (a + 4) (6 * qu (ad i) j + 5) = if j + 1 < s_len g (ad i) then n32 (qu (ad i) (j + 1)) else nn) ∧ s_qok g (ad i) (qu (ad i))
/-- all of it but the log -/
def zRep (σ : zSt) (a : Nat) (pl ad : Nat → Nat) (qu : Nat → Nat → Nat) (n : Nat) (g : zG) : Prop :=
  qL σ a n g ∧ qW σ a ∧ qM σ a g ∧ qN σ a g ∧ qC σ a g ∧ qA ad n g ∧ qS σ pl ad n g ∧ qQ σ a pl ad qu n g
/-- nothing but one line has changed, and no shape nor reference of any -/
def zFr (a : Nat) (σ σ' : zSt) : Prop := z_nx σ' = z_nx σ ∧ z_sh σ' = z_sh σ ∧ z_R σ' = z_R σ ∧ ∀ q, (q < a ∨ a + 19 ≤ q) → z_I σ' q = z_I σ q ∧ z_J σ' q = z_J σ q
theorem zFr_r (a : Nat) (σ : zSt) : zFr a σ σ := ⟨rfl, rfl, rfl, fun _ _ => ⟨rfl, rfl⟩⟩
theorem zFr_t {a : Nat} {σ σ' σ'' : zSt} (h : zFr a σ σ') (h2 : zFr a σ' σ'') : zFr a σ σ'' :=
  ⟨h2.1.trans h.1, h2.2.1.trans h.2.1, h2.2.2.1.trans h.2.2.1, fun q hq => ⟨(h2.2.2.2 q hq).1.trans (h.2.2.2 q hq).1, (h2.2.2.2 q hq).2.trans (h.2.2.2 q hq).2⟩⟩
theorem zFr_sA (σ : zSt) {a A : Nat} (h : a ≤ A) (h2 : A < a + 19) (f : zG) : zFr a σ (z_sA σ A f) :=
  ⟨rfl, rfl, rfl, fun q hq => ⟨z_I_sAn σ A f (by omega), rfl⟩⟩
theorem zFr_pJ (σ : zSt) {a A : Nat} (h : a ≤ A) (h2 : A < a + 19) (j : Nat) (v : Int64) : zFr a σ (z_pJ σ A j v) :=
  ⟨rfl, rfl, rfl, fun q hq => ⟨rfl, by
    funext k
    rw [z_J_pJ]
    rw [if_neg (by intro h3; omega)]⟩⟩
theorem z_ob_eq {σ σ' : zSt} (h : z_sh σ' = z_sh σ) : z_ob σ' = z_ob σ := by
  funext q c; unfold z_ob; rw [h]
theorem z_ar_eq {σ σ' : zSt} (h : z_sh σ' = z_sh σ) : z_ar σ' = z_ar σ := by
  funext q c; unfold z_ar; rw [h]
theorem z_ln_eq {σ σ' : zSt} (h : z_sh σ' = z_sh σ) : z_ln σ' = z_ln σ := by
  funext q; unfold z_ln; rw [h]
theorem zLs_eq {a : Nat} {σ σ' : zSt} (h : z_sh σ' = z_sh σ) (h2 : z_R σ' = z_R σ) (hL : zLs σ a) : zLs σ' a := by
  unfold zLs; rw [z_ob_eq h, z_ar_eq h, z_ln_eq h, h2]; exact hL
theorem zPl_eq {a : Nat} {pl : Nat → Nat} {σ σ' : zSt} (h : z_sh σ' = z_sh σ) (h2 : z_R σ' = z_R σ) (hP : zPl σ a pl) : zPl σ' a pl := by
  unfold zPl; rw [z_ob_eq h, h2]; exact hP
theorem zLs_fr {a : Nat} {σ σ' : zSt} (h : zFr a σ σ') (hL : zLs σ a) : zLs σ' a := zLs_eq h.2.1 h.2.2.1 hL
theorem zPl_fr {a : Nat} {pl : Nat → Nat} {σ σ' : zSt} (h : zFr a σ σ') (hP : zPl σ a pl) : zPl σ' a pl := zPl_eq h.2.1 h.2.2.1 hP
/-! what the pieces look at -/
theorem s_cnt_congr {P P' : Nat → Bool} : ∀ k, (∀ m, m < k → P' m = P m) → s_cnt P' k = s_cnt P k
  | 0, _ => rfl
  | k + 1, h => by unfold s_cnt; rw [s_cnt_congr k (fun m hm => h m (by omega)), h k (by omega)]
theorem s_wt_congr {g g' : zG} (x : Int32) {m : Nat} (h : ∀ w, w < 5 → g' (242 + 5 * m + w) = g (242 + 5 * m + w)) : s_wt g' x m = s_wt g x m := by
  unfold s_wt; rw [h 2 (by decide), h 4 (by decide)]
/-- the messages of two arrays are the same -/
def sMs (g g' : zG) : Prop := g' 5 = g 5 ∧ ∀ m w, m < s_nat g 5 → w < 5 → g' (242 + 5 * m + w) = g (242 + 5 * m + w)
theorem s_len_congr {g g' : zG} (h : sMs g g') (x : Nat) : s_len g' x = s_len g x := by
  unfold s_len s_nat
  rw [h.1]
  exact s_cnt_congr _ (fun m hm => s_wt_congr _ (fun w hw => h.2 m w hm hw))
theorem s_qok_congr {g g' : zG} (h : sMs g g') {x : Nat} {f : Nat → Nat} (hq : s_qok g x f) : s_qok g' x f := by
  have el := s_len_congr h x
  have e5 : s_nat g' 5 = s_nat g 5 := by unfold s_nat; rw [h.1]
  obtain ⟨h1, h2, h3⟩ := hq
  refine ⟨?_, ?_, ?_⟩
  · intro j hj
    rw [el] at hj
    rw [e5, s_wt_congr _ (fun w hw => h.2 _ w (h1 j hj).1 hw)]
    exact h1 j hj
  · intro i j hij hj
    rw [el] at hj
    have := h2 i j hij hj
    unfold s_prec at this ⊢
    rw [h.2 _ 1 (h1 i (by omega)).1 (by decide), h.2 _ 1 (h1 j hj).1 (by decide)]
    exact this
  · intro m hm hw
    rw [e5] at hm
    rw [s_wt_congr _ (fun w hw => h.2 m w hm hw)] at hw
    rw [el]
    exact h3 m hm hw
theorem s_most_congr {g g' : zG} : ∀ k, (∀ m, m < k → g' (242 + 5 * m + 4) = g (242 + 5 * m + 4)) → s_most g' k = s_most g k
  | 0, _ => rfl
  | k + 1, h => by unfold s_most; rw [s_most_congr k (fun m hm => h m (by omega)), h k (by omega)]
theorem s_sumw_congr {g g' : zG} : ∀ k, (∀ m, m < k → g' (242 + 5 * m + 4) = g (242 + 5 * m + 4)) → s_sumw g' k = s_sumw g k
  | 0, _ => rfl
  | k + 1, h => by unfold s_sumw; rw [s_sumw_congr k (fun m hm => h m (by omega)), h k (by omega)]
theorem qM_congr {σ σ' : zSt} {a : Nat} {g g' : zG} (e2 : z_I σ' (a + 2) = z_I σ (a + 2)) (e4 : z_I σ' (a + 4) = z_I σ (a + 4)) (h : sMs g g') (H : qM σ a g) : qM σ' a g' := by
  refine ⟨by rw [e2, h.1]; exact H.1, fun m w hm hw => ?_⟩
  have e5 : s_nat g' 5 = s_nat g 5 := by unfold s_nat; rw [h.1]
  rw [e5] at hm
  rw [e4, h.2 m w hm hw]
  exact H.2 m w hm hw
theorem qN_congr {σ σ' : zSt} {a : Nat} {g g' : zG} (e5 : z_I σ' (a + 5) = z_I σ (a + 5)) (e6 : z_I σ' (a + 6) = z_I σ (a + 6)) (e7 : z_I σ' (a + 7) = z_I σ (a + 7)) (h6 : g' 6 = g 6) (h : ∀ k, k < 2 * s_nat g 6 → g' (742 + k) = g (742 + k)) (H : qN σ a g) : qN σ' a g' := by
  have e : s_nat g' 6 = s_nat g 6 := by unfold s_nat; rw [h6]
  refine ⟨by rw [e5, h6]; exact H.1, fun k hk => ?_⟩
  rw [e] at hk
  have h1 := h (2 * k) (by omega)
  have h2 := h (2 * k + 1) (by omega)
  rw [e6, e7, h1, show 742 + 2 * k + 1 = 742 + (2 * k + 1) from rfl, h2]
  exact H.2 k hk
theorem qC_congr {σ σ' : zSt} {a : Nat} {g g' : zG} (e8 : z_I σ' (a + 8) = z_I σ (a + 8)) (eJ : z_J σ' (a + 8) 9 = z_J σ (a + 8) 9) (hc : ∀ j, 8 ≤ j → j < 16 → g' j = g j) (h : sMs g g') (H : qC σ a g) : qC σ' a g' := by
  have e5 : s_nat g' 5 = s_nat g 5 := by unfold s_nat; rw [h.1]
  refine ⟨fun i hi => ?_, ?_, ?_, ?_⟩
  · rw [e8, hc _ (by omega) (by omega)]; exact H.1 i hi
  · rw [e8, hc 8 (by omega) (by omega)]; exact H.2.1
  · rw [e8, e5, s_most_congr _ (fun m hm => h.2 m 4 hm (by decide))]; exact H.2.2.1
  · rw [eJ, e5, s_sumw_congr _ (fun m hm => h.2 m 4 hm (by decide))]; exact H.2.2.2
theorem qA_congr {ad : Nat → Nat} {n : Nat} {g g' : zG} (h : ∀ x, x < 32 → g' (18 + 7 * x + 0) = g (18 + 7 * x + 0)) (H : qA ad n g) : qA ad n g' := by
  refine ⟨H.1, fun i hi => ⟨(H.2.1 i hi).1, by rw [h _ (H.2.1 i hi).1]; exact (H.2.1 i hi).2⟩, H.2.2.1, fun x hx => ?_⟩
  rw [h x hx]; exact H.2.2.2 x hx
theorem qQ_congr {σ σ' : zSt} {a : Nat} {pl ad : Nat → Nat} {qu : Nat → Nat → Nat} {n : Nat} {g g' : zG} (e4 : z_I σ' (a + 4) = z_I σ (a + 4)) (e5 : ∀ i, i < n → z_I σ' (pl i) 5 = z_I σ (pl i) 5 ∧ z_I σ' (pl i) 6 = z_I σ (pl i) 6) (h : sMs g g') (H : qQ σ a pl ad qu n g) : qQ σ' a pl ad qu n g' := by
  intro i hi
  obtain ⟨h1, h2, h3, h4⟩ := H i hi
  rw [s_len_congr h, (e5 i hi).1, (e5 i hi).2, e4]
  exact ⟨h1, h2, h3, s_qok_congr h h4⟩
theorem sMs_r (g : zG) : sMs g g := ⟨rfl, fun _ _ _ _ => rfl⟩
