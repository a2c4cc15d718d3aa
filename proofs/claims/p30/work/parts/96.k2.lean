/-! WHAT A VISIT TAKES AND SENDS -/
theorem s_loud_0 {g : zG} (h : g 6 = n32 0) (f t : Int32) : s_loud g f t = false := by
  unfold s_loud
  rw [h]
  rfl
/-- d messages sent, of l ticks; x further ticks; without noise nothing is spoilt -/
def k_acc (g g' : zG) (n lo e : Nat) : Prop := ∃ d l x, d ≤ n ∧ l ≤ 20 * d ∧ lo ≤ x ∧ x ≤ e ∧ g' 10 = g 10 + n32 d ∧ g' 15 = g 15 + n32 l ∧ g' 3 = g 3 + n32 (l + x) ∧ (g 6 = n32 0 → g' 11 = g 11) ∧ g' 6 = g 6 ∧ g' 1 = g 1
theorem i32_0 (x : Int32) : x + n32 0 = x := Int32.add_zero x
theorem k_acc_r (g : zG) : k_acc g g 0 0 0 := ⟨0, 0, 0, Nat.le_refl _, Nat.le_refl _, Nat.le_refl _, Nat.le_refl _, (i32_0 _).symm, (i32_0 _).symm, (i32_0 _).symm, fun _ => rfl, rfl, rfl⟩
theorem k_acc_t {g g' g'' : zG} {n n' lo lo' e e' : Nat} (h : k_acc g g' n lo e) (h2 : k_acc g' g'' n' lo' e') : k_acc g g'' (n + n') (lo + lo') (e + e') := by
  obtain ⟨d, l, x, a1, a2, a3, a4, a5, a6, a7, a8, a9, a10⟩ := h
  obtain ⟨d', l', x', b1, b2, b3, b4, b5, b6, b7, b8, b9, b10⟩ := h2
  refine ⟨d + d', l + l', x + x', by omega, by omega, by omega, by omega, ?_, ?_, ?_, fun h => ?_, b9.trans a9, b10.trans a10⟩
  · rw [b5, a5, Int32.add_assoc, n32_add]
  · rw [b6, a6, Int32.add_assoc, n32_add]
  · rw [b7, a7, Int32.add_assoc, n32_add]
    congr 2
    omega
  · rw [b8 (by rw [a9]; exact h), a8 h]
theorem k_acc_w {g g' : zG} {n n' lo lo' e e' : Nat} (h : k_acc g g' n lo e) (h1 : n ≤ n') (h2 : lo' ≤ lo) (h3 : e ≤ e') : k_acc g g' n' lo' e' := by
  obtain ⟨d, l, x, a1, a2, a3, a4, a5⟩ := h
  exact ⟨d, l, x, by omega, a2, by omega, by omega, a5⟩
theorem k_acc_gu (g : zG) {k : Nat} (v : Int32) (h1 : k ≠ 1) (h3 : k ≠ 3) (h6 : k ≠ 6) (h10 : k ≠ 10) (h11 : k ≠ 11) (h15 : k ≠ 15) : k_acc g (gu g k v) 0 0 0 :=
  ⟨0, 0, 0, Nat.le_refl _, Nat.le_refl _, Nat.le_refl _, Nat.le_refl _, by rw [gu_ne _ _ (Ne.symm h10), i32_0], by rw [gu_ne _ _ (Ne.symm h15), i32_0], by rw [gu_ne _ _ (Ne.symm h3)]; exact (i32_0 _).symm, fun _ => gu_ne _ _ (Ne.symm h11), gu_ne _ _ (Ne.symm h6), gu_ne _ _ (Ne.symm h1)⟩
theorem k_acc_takes (g : zG) {t : Nat} : k_acc g (s_takes g (n32 t)) 0 t t := by
  refine ⟨0, 0, t, Nat.le_refl _, Nat.le_refl _, Nat.le_refl _, Nat.le_refl _, ?_, ?_, ?_, fun h => ?_, s_takes_ne _ _ (by omega) (by omega), s_takes_ne _ _ (by omega) (by omega)⟩
  · rw [s_takes_ne _ _ (by omega) (by omega), i32_0]
  · rw [s_takes_ne _ _ (by omega) (by omega), i32_0]
  · rw [s_takes_3, Nat.zero_add]
  · unfold s_takes
    rw [gu_same, s_loud_0 h]
    exact i32_0 _
theorem k_acc_tick (g : zG) {s : Nat} (hs : s ≤ 20) (h1 : g 1 = n32 s) : k_acc g (s_tick g) 0 0 20 := by
  refine ⟨0, 0, s, Nat.le_refl _, Nat.le_refl _, Nat.zero_le _, hs, ?_, ?_, ?_, fun h => ?_, s_tick_ne _ (by omega), s_tick_ne _ (by omega)⟩
  · rw [s_tick_ne _ (by omega), i32_0]
  · rw [s_tick_ne _ (by omega), i32_0]
  · unfold s_tick; rw [gu_same, h1, Nat.zero_add]
  · exact s_tick_ne _ (by omega)
/-- the lengths -/
def k_len (g : zG) : Prop := ∀ m, m < s_nat g 5 → ∃ l, l ≤ 20 ∧ g (242 + 5 * m + 0) = n32 l
theorem k_len_sends {g : zG} (h : k_len g) (m : Nat) : k_len (s_sends g m) := by
  intro m' hm'
  rw [s_sends_n5] at hm'
  obtain ⟨l, h1, h2⟩ := h m' hm'
  exact ⟨l, h1, by rw [s_sends_ne _ _ (by omega) (by omega) (by omega) (by omega) (by omega)]; exact h2⟩
theorem k_acc_sends {g : zG} (h : k_len g) {m : Nat} (hm : m < s_nat g 5) : k_acc g (s_sends g m) 1 0 20 ∧ (s_spoilt g m = false → k_acc g (s_sends g m) 1 0 0) ∧ (s_spoilt g m = true → k_acc g (s_sends g m) 0 0 20) := by
  obtain ⟨l, hl, e⟩ := h m hm
  have T := k_acc_takes g (t := l)
  have A : s_spoilt g m = true → k_acc g (s_sends g m) 0 0 20 := fun hs => by
    unfold s_sends
    rw [if_pos hs, e]
    exact k_acc_w T (Nat.le_refl _) (Nat.zero_le _) hl
  have B : s_spoilt g m = false → k_acc g (s_sends g m) 1 0 0 := fun hs => by
    unfold s_sends
    rw [if_neg (by rw [hs]; decide), e]
    obtain ⟨d, l0, x, a1, a2, a3, a4, a5, a6, a7, a8, a9, a10⟩ := T
    have x0 : x = l := by omega
    have d0 : d = 0 := by omega
    have l00 : l0 = 0 := by omega
    subst x0 d0 l00
    unfold s_sent
    refine ⟨1, x, 0, Nat.le_refl _, by omega, Nat.le_refl _, Nat.le_refl _, ?_, ?_, ?_, fun h6 => ?_, ?_, ?_⟩
    · rw [gu_ne _ _ (by omega), gu_same]
    · rw [gu_same, e]
    · rw [gu_ne _ _ (by omega), gu_ne _ _ (by omega), gu_ne _ _ (by omega), a7, Nat.zero_add, Nat.add_zero]
    · rw [gu_ne _ _ (by omega), gu_ne _ _ (by omega), gu_ne _ _ (by omega)]; exact a8 h6
    · rw [gu_ne _ _ (by omega), gu_ne _ _ (by omega), gu_ne _ _ (by omega)]; exact a9
    · rw [gu_ne _ _ (by omega), gu_ne _ _ (by omega), gu_ne _ _ (by omega)]; exact a10
  refine ⟨?_, B, A⟩
  cases hs : s_spoilt g m with
  | true => exact k_acc_w (A hs) (by omega) (Nat.le_refl _) (Nat.le_refl _)
  | false => exact k_acc_w (B hs) (Nat.le_refl _) (Nat.le_refl _) (by omega)
theorem s_sl_true (x t0 al : Int32) : ∀ (k : Nat) (g : zG), s_sl x t0 al k g true = g
  | 0, _ => rfl
  | k + 1, g => by
    unfold s_sl
    have : s_stop x t0 al g true = true := by unfold s_stop; rfl
    rw [if_pos this]
theorem k_acc_sl (x t0 al : Int32) : ∀ (k : Nat) (g : zG) , k_len g → s_nat g 5 ≤ 100 → k_acc g (s_sl x t0 al k g false) k 0 20
  | 0, g, _, _ => k_acc_w (k_acc_r g) (Nat.le_refl _) (Nat.le_refl _) (by omega)
  | k + 1, g, h, h5 => by
    unfold s_sl
    split
    · exact k_acc_w (k_acc_r g) (by omega) (Nat.le_refl _) (by omega)
    · rename_i hs
      rcases s_next_w g x h5 with e | ⟨c, hc, e, _⟩
      · exfalso; apply hs; unfold s_stop; rw [e]; simp
      · rw [e, n32_toNat (by omega)]
        have S := k_acc_sends h hc
        cases hp : s_spoilt g c with
        | true =>
          rw [s_sl_true]
          exact k_acc_w (S.2.2 hp) (by omega) (Nat.le_refl _) (Nat.le_refl _)
        | false =>
          have I := k_acc_sl x t0 al k (s_sends g c) (k_len_sends h c) (by rw [s_sends_n5]; exact h5)
          exact k_acc_w (k_acc_t (S.2.1 hp) I) (by omega) (Nat.le_refl _) (by omega)
theorem k_acc_all (x t0 al : Int32) (k : Nat) {g : zG} (h : k_len g) (h5 : s_nat g 5 ≤ 100) : k_acc g (s_all x t0 al k g) (k + 1) 0 20 := by
  unfold s_all
  split
  · rename_i hu
    rcases s_next_w g x h5 with e | ⟨c, hc, e, _⟩
    · exfalso
      unfold s_urg at hu
      rw [e] at hu
      simp at hu
    · rw [e, n32_toNat (by omega)]
      have S := k_acc_sends h hc
      cases hp : s_spoilt g c with
      | true =>
        rw [s_sl_true]
        exact k_acc_w (S.2.2 hp) (by omega) (Nat.le_refl _) (Nat.le_refl _)
      | false =>
        have I := k_acc_sl x t0 al k (s_sends g c) (k_len_sends h c) (by rw [s_sends_n5]; exact h5)
        exact k_acc_w (k_acc_t (S.2.1 hp) I) (by omega) (Nat.le_refl _) (by omega)
  · exact k_acc_w (k_acc_sl x t0 al k g h h5) (by omega) (Nat.le_refl _) (Nat.le_refl _)
section POLL
variable {g : zG} {s : Nat}
theorem k_acc_come (g : zG) {a to : Nat} (ha : a < 32) (ht : to < 32) : k_acc g (s_come g a to) 0 0 0 := by
  unfold s_come
  exact k_acc_w (k_acc_t (k_acc_t (k_acc_t (k_acc_t (k_acc_gu _ _ (by omega) (by omega) (by omega) (by omega) (by omega) (by omega)) (k_acc_gu _ _ (by omega) (by omega) (by omega) (by omega) (by omega) (by omega))) (k_acc_gu _ _ (by omega) (by omega) (by omega) (by omega) (by omega) (by omega))) (k_acc_gu _ _ (by omega) (by omega) (by omega) (by omega) (by omega) (by omega))) (k_acc_gu _ _ (by omega) (by omega) (by omega) (by omega) (by omega) (by omega))) (Nat.le_refl _) (Nat.le_refl _) (Nat.le_refl _)
theorem k_acc_1 {g' : zG} {n lo e : Nat} (h : k_acc g g' n lo e) (h1 : g 1 = n32 s) : g' 1 = n32 s := by
  obtain ⟨_, _, _, _, _, _, _, _, _, _, _, _, a⟩ := h
  rw [a]; exact h1
theorem k_acc_poll {a to : Nat} (ha : a < 32) (ht : to < 32) (hs : s ≤ 20) (h1 : g 1 = n32 s) : k_acc g (s_poll g a to) 0 0 22 := by
  have G := k_acc_gu g (k := 18 + 7 * a + 4) (n32 to) (by omega) (by omega) (by omega) (by omega) (by omega) (by omega)
  have T := k_acc_t G (k_acc_takes (gu g (18 + 7 * a + 4) (n32 to)) (t := 1))
  have t1 := k_acc_1 T h1
  unfold s_poll
  split
  · exact k_acc_w (k_acc_t T (k_acc_tick _ hs t1)) (by omega) (by omega) (by omega)
  · unfold s_asked
    split
    · have T2 := k_acc_t T (k_acc_takes (s_takes (gu g (18 + 7 * a + 4) (n32 to)) (n32 1)) (t := 1))
      split
      · exact k_acc_w (k_acc_t T2 (k_acc_tick _ hs (k_acc_1 T2 h1))) (by omega) (by omega) (by omega)
      · exact k_acc_w (k_acc_t T2 (k_acc_come _ ha ht)) (by omega) (by omega) (by omega)
    · exact k_acc_w (k_acc_t T (k_acc_tick _ hs t1)) (by omega) (by omega) (by omega)
theorem k_acc_polls {a : Nat} (ha : a < 32) (nx gp : Nat) (hs : s ≤ 20) (h1 : g 1 = n32 s) : k_acc g (s_polls g a nx gp) 0 0 22 := by
  unfold s_polls
  split
  · split
    · exact k_acc_w (k_acc_r g) (Nat.le_refl _) (Nat.le_refl _) (by omega)
    · exact k_acc_poll ha (s_to_lt _ _ _) hs h1
  · exact k_acc_w (k_acc_r g) (Nat.le_refl _) (Nat.le_refl _) (by omega)
theorem k_acc_tries (nx : Nat) (hs : s ≤ 20) : ∀ (k : Nat) (g : zG), g 1 = n32 s → k_acc g (s_tries nx k g).2 0 (if k = 0 then 0 else 1) (21 * k)
  | 0, g, _ => k_acc_r g
  | k + 1, g, h1 => by
    have T := k_acc_takes g (t := 1)
    rw [s_tries]
    split
    · exact k_acc_w (k_acc_t T (k_acc_gu _ _ (by omega) (by omega) (by omega) (by omega) (by omega) (by omega))) (by omega) (by split <;> omega) (by omega)
    · have K := k_acc_t T (k_acc_tick (s_takes g (n32 1)) hs (k_acc_1 T h1))
      exact k_acc_w (k_acc_t K (k_acc_tries nx hs k _ (k_acc_1 K h1))) (by omega) (by split <;> omega) (by omega)
theorem k_acc_ask (a : Nat) (hs : s ≤ 20) : ∀ (k : Nat) (g : zG) (to : Nat), g 1 = n32 s → k_acc g (s_ask a k g to).1 0 0 (21 * k)
  | 0, g, _, _ => k_acc_r g
  | k + 1, g, to, h1 => by
    have T := k_acc_takes g (t := 1)
    rw [s_ask]
    split
    · exact k_acc_w (k_acc_r g) (Nat.le_refl _) (Nat.le_refl _) (by omega)
    · split
      · exact k_acc_w T (Nat.le_refl _) (by omega) (by omega)
      · have K := k_acc_t T (k_acc_tick (s_takes g (n32 1)) hs (k_acc_1 T h1))
        exact k_acc_w (k_acc_t K (k_acc_ask a hs k _ _ (k_acc_1 K h1))) (by omega) (by omega) (by omega)
theorem k_acc_drop (g : zG) {a nx : Nat} (hx : nx < 32) : k_acc g (s_drop g a nx) 0 0 0 := by
  unfold s_drop
  split
  · exact k_acc_w (k_acc_t (k_acc_gu g _ (by omega) (by omega) (by omega) (by omega) (by omega) (by omega)) (k_acc_gu _ _ (by omega) (by omega) (by omega) (by omega) (by omega) (by omega))) (by omega) (by omega) (by omega)
  · exact k_acc_r g
theorem k_acc_passes {a nx : Nat} (ha : a < 32) (hx : nx < 32) (hs : s ≤ 20) (h1 : g 1 = n32 s) : k_acc g (s_passes g a nx) 0 1 735 := by
  have A := k_acc_tries nx hs 3 g h1
  rw [if_neg (by omega)] at A
  unfold s_passes
  split
  · exact k_acc_w A (by omega) (by omega) (by omega)
  · have D := k_acc_t A (k_acc_drop (s_tries nx 3 g).2 (a := a) hx)
    have E := k_acc_t D (k_acc_ask a hs 32 (s_drop (s_tries nx 3 g).2 a nx) ((nx + 1) % 32) (k_acc_1 D h1))
    unfold s_end
    exact k_acc_w (k_acc_t (k_acc_t E (k_acc_gu _ _ (by omega) (by omega) (by omega) (by omega) (by omega) (by omega))) (k_acc_gu _ _ (by omega) (by omega) (by omega) (by omega) (by omega) (by omega))) (by omega) (by omega) (by omega)
end POLL
