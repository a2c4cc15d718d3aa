/-! WHAT HOLDS OF A LINE, through a visit -/
def k_v (g : zG) : Prop := ∀ x, x < 32 → g (18 + 7 * x + 0) = n32 1 → ∃ v, v ≤ s_nat g 9 ∧ g (18 + 7 * x + 5) = n32 v ∧ ((v = 0 ∧ g (18 + 7 * x + 6) = nn) ∨ (0 < v ∧ ∃ t, t ≤ s_nat g 3 ∧ g (18 + 7 * x + 6) = n32 t))
def k_h (g : zG) : Prop := g 4 = nn ∨ ∃ x, x < 32 ∧ g 4 = n32 x ∧ s_ring g x = true
def k_S (g : zG) : Nat → Nat
  | 0 => 0
  | k + 1 => k_S g k + (if g (18 + 7 * k + 0) = n32 1 then s_nat g (18 + 7 * k + 5) else 0)
def k_s (g : zG) : Prop := k_S g 32 = s_nat g 9
/-- time, ticks of messages, tokens made anew -/
def k_t (g : zG) : Prop := (∃ w, g 15 = n32 w ∧ w ≤ s_nat g 3 ∧ w ≤ 20 * s_nat g 10) ∧ s_nat g 10 ≤ 100 ∧ g 10 = n32 (s_nat g 10) ∧ ∃ l, g 12 = n32 l ∧ l ≤ 100000 ∧ s_nat g 3 ≤ s_nat g 15 + 777 * s_nat g 9 + 1360 * l
def k_l (g : zG) : Prop := (∀ i, i < s_nat g 7 → g (782 + 4 * i + 2) ≤ g 8 ∧ g (782 + 4 * i + 3) ≤ n32 100 ∧ ∃ t, t < s_nat g 3 ∧ g (782 + 4 * i + 0) = n32 t) ∧ ∀ i, i + 1 < s_nat g 7 → s_nat g (782 + 4 * i + 0) < s_nat g (782 + 4 * (i + 1) + 0)
def k_n (g : zG) : Prop := g 6 = n32 0 → g 11 = n32 0
def k_K (g : zG) : Prop := k_v g ∧ k_h g ∧ k_s g ∧ k_t g ∧ k_l g ∧ k_n g
section KEEP
variable {g g' : zG}
theorem k_S_congr : ∀ k, (∀ x, x < k → g' (18 + 7 * x + 0) = g (18 + 7 * x + 0) ∧ g' (18 + 7 * x + 5) = g (18 + 7 * x + 5)) → k_S g' k = k_S g k
  | 0, _ => rfl
  | k + 1, h => by
    have := h k (by omega)
    unfold k_S
    rw [k_S_congr k (fun x hx => h x (by omega)), this.1]
    unfold s_nat
    rw [this.2]
/-- one more visit of the station a -/
theorem k_S_up {a : Nat} (hz : g (18 + 7 * a + 0) = n32 1) (e0 : ∀ x, g' (18 + 7 * x + 0) = g (18 + 7 * x + 0)) (e5 : ∀ x, x ≠ a → g' (18 + 7 * x + 5) = g (18 + 7 * x + 5)) (ea : s_nat g' (18 + 7 * a + 5) = s_nat g (18 + 7 * a + 5) + 1) : ∀ k, (k ≤ a → k_S g' k = k_S g k) ∧ (a < k → k_S g' k = k_S g k + 1)
  | 0 => ⟨fun _ => rfl, fun h => by omega⟩
  | k + 1 => by
    obtain ⟨h1, h2⟩ := k_S_up hz e0 e5 ea k
    refine ⟨fun h => ?_, fun h => ?_⟩
    · unfold k_S
      rw [h1 (by omega), e0 k]
      unfold s_nat
      rw [e5 k (by omega)]
    · unfold k_S
      by_cases hk : k = a
      · subst hk
        rw [h1 (Nat.le_refl _), e0 k, if_pos hz, if_pos hz, ea]
        omega
      · rw [h2 (by omega), e0 k]
        have : s_nat g' (18 + 7 * k + 5) = s_nat g (18 + 7 * k + 5) := by unfold s_nat; rw [e5 k hk]
        rw [this]
        omega
/-- a later time, no shorter log -/
theorem k_l_congr (h7 : g' 7 = g 7) (h8 : g' 8 = g 8) (h3 : s_nat g 3 ≤ s_nat g' 3) (hl : ∀ j, 782 ≤ j → g' j = g j) (H : k_l g) : k_l g' := by
  have e7 : s_nat g' 7 = s_nat g 7 := by unfold s_nat; rw [h7]
  refine ⟨fun i hi => ?_, fun i hi => ?_⟩
  · rw [e7] at hi
    obtain ⟨a, b, t, c, d⟩ := H.1 i hi
    rw [hl (782 + 4 * i + 2) (by omega), hl (782 + 4 * i + 3) (by omega), hl (782 + 4 * i + 0) (by omega), h8]
    exact ⟨a, b, t, by omega, d⟩
  · rw [e7] at hi
    have := H.2 i hi
    unfold s_nat
    rw [hl _ (by omega), hl _ (by omega)]
    exact this
theorem i32_le_t {a b c : Int32} (h : a ≤ b) (h2 : b ≤ c) : a ≤ c := by
  rw [Int32.le_iff_toInt_le] at *
  omega
/-- the log with one entry more -/
theorem k_l_log {k : Nat} (hk : k ≤ 40) (h7 : s_nat g 7 = k) (H : k_l g) {T t0 : Nat} (hT : s_nat g 3 ≤ T) (ht : T ≤ t0) (ht2 : t0 < 2147483648) (hg : ∀ j, 782 ≤ j → g' j = g j) (h8 : g 8 ≤ g' 8) {a r q : Int32} (hr : r ≤ g' 8) (hq : q ≤ n32 100) :
    (∀ i, i < min (k + 1) 40 → s_log g' k (n32 t0) a r q (782 + 4 * i + 2) ≤ g' 8 ∧ s_log g' k (n32 t0) a r q (782 + 4 * i + 3) ≤ n32 100 ∧ ∃ t, t < t0 + 1 ∧ s_log g' k (n32 t0) a r q (782 + 4 * i + 0) = n32 t) ∧ ∀ i, i + 1 < min (k + 1) 40 → s_nat (s_log g' k (n32 t0) a r q) (782 + 4 * i + 0) < s_nat (s_log g' k (n32 t0) a r q) (782 + 4 * (i + 1) + 0) := by
  have old : ∀ i, i < k → g' (782 + 4 * i + 2) ≤ g' 8 ∧ g' (782 + 4 * i + 3) ≤ n32 100 ∧ ∃ t, t < t0 ∧ g' (782 + 4 * i + 0) = n32 t := fun i hi => by
    obtain ⟨x, y, t, z, w⟩ := H.1 i (by omega)
    rw [hg (782 + 4 * i + 2) (by omega), hg (782 + 4 * i + 3) (by omega), hg (782 + 4 * i + 0) (by omega)]
    exact ⟨i32_le_t x h8, y, t, by omega, w⟩
  have asc : ∀ i, i + 1 < k → s_nat g' (782 + 4 * i + 0) < s_nat g' (782 + 4 * (i + 1) + 0) := fun i hi => by
    have := H.2 i (by omega)
    unfold s_nat
    rw [hg _ (by omega), hg _ (by omega)]
    exact this
  have put : ∀ (f : zG) (j : Nat), (s_put f j (n32 t0) a r q (782 + 4 * j + 0) = n32 t0 ∧ s_put f j (n32 t0) a r q (782 + 4 * j + 2) = r ∧ s_put f j (n32 t0) a r q (782 + 4 * j + 3) = q) ∧ ∀ i w, i < j → w < 4 → s_put f j (n32 t0) a r q (782 + 4 * i + w) = f (782 + 4 * i + w) := fun f j => by
    unfold s_put
    refine ⟨⟨?_, ?_, ?_⟩, fun i w hi hw => ?_⟩
    · rw [gu_ne _ _ (by omega), gu_ne _ _ (by omega), gu_ne _ _ (by omega), gu_ne _ _ (by omega), Nat.add_zero, gu_same]
    · rw [gu_ne _ _ (by omega), gu_ne _ _ (by omega), gu_same]
    · rw [gu_ne _ _ (by omega), gu_same]
    · rw [gu_ne _ _ (by omega), gu_ne _ _ (by omega), gu_ne _ _ (by omega), gu_ne _ _ (by omega), gu_ne _ _ (by omega)]
  have nt : ∀ {f : zG} {j t : Nat}, f j = n32 t → t < 2147483648 → s_nat f j = t := fun h1 h2 => s_nat_n32 h1 h2
  unfold s_log
  by_cases hc : k = 40
  · rw [if_pos hc]
    have sh : ∀ i w, i < 39 → w < 4 → gu (s_shift g' 156) 7 (n32 39) (782 + 4 * i + w) = g' (782 + 4 * (i + 1) + w) := fun i w hi hw => by
      rw [gu_ne _ _ (by omega)]
      unfold s_shift
      rw [if_pos (by omega)]
      congr 1
      omega
    generalize gu (s_shift g' 156) 7 (n32 39) = f at sh
    obtain ⟨⟨p0, p2, p3⟩, pl⟩ := put f 39
    refine ⟨fun i hi => ?_, fun i hi => ?_⟩
    · by_cases h39 : i = 39
      · subst h39
        rw [p0, p2, p3]
        exact ⟨hr, hq, t0, by omega, rfl⟩
      · rw [pl i 0 (by omega) (by omega), pl i 2 (by omega) (by omega), pl i 3 (by omega) (by omega), sh i 0 (by omega) (by omega), sh i 2 (by omega) (by omega), sh i 3 (by omega) (by omega)]
        obtain ⟨x, y, t, z, w⟩ := old (i + 1) (by omega)
        exact ⟨x, y, t, by omega, w⟩
    · by_cases h38 : i = 38
      · subst h38
        obtain ⟨x, y, t, z, w⟩ := old 39 (by omega)
        rw [nt (f := s_put f 39 (n32 t0) a r q) (j := 782 + 4 * 38 + 0) (t := t) (by rw [pl 38 0 (by omega) (by omega), sh 38 0 (by omega) (by omega)]; exact w) (by omega), nt p0 ht2]
        exact z
      · have := asc (i + 1) (by omega)
        unfold s_nat at this ⊢
        rw [pl i 0 (by omega) (by omega), pl (i + 1) 0 (by omega) (by omega), sh i 0 (by omega) (by omega), sh (i + 1) 0 (by omega) (by omega)]
        exact this
  · rw [if_neg hc]
    obtain ⟨⟨p0, p2, p3⟩, pl⟩ := put g' k
    refine ⟨fun i hi => ?_, fun i hi => ?_⟩
    · by_cases hik : i = k
      · subst hik
        rw [p0, p2, p3]
        exact ⟨hr, hq, t0, by omega, rfl⟩
      · rw [pl i 0 (by omega) (by omega), pl i 2 (by omega) (by omega), pl i 3 (by omega) (by omega)]
        obtain ⟨x, y, t, z, w⟩ := old i (by omega)
        exact ⟨x, y, t, by omega, w⟩
    · by_cases hik : i + 1 = k
      · obtain ⟨x, y, t, z, w⟩ := old i (by omega)
        rw [nt (f := s_put g' k (n32 t0) a r q) (j := 782 + 4 * i + 0) (t := t) (by rw [pl i 0 (by omega) (by omega)]; exact w) (by omega), hik, nt p0 ht2]
        exact z
      · have := asc i (by omega)
        unfold s_nat at this ⊢
        rw [pl i 0 (by omega) (by omega), pl (i + 1) 0 (by omega) (by omega)]
        exact this
end KEEP
/-! the stations' visits and latest times stay through polls and passing; who is in the ring -/
theorem s_come_56 (g : zG) {h to x w : Nat} (hw : w = 0 ∨ w = 5 ∨ w = 6) : s_come g h to (18 + 7 * x + w) = g (18 + 7 * x + w) := by
  unfold s_come
  rw [gu_ne _ _ (by omega), gu_ne _ _ (by omega), gu_ne _ _ (by omega), gu_ne _ _ (by omega), gu_ne _ _ (by omega)]
theorem s_polls_56 (g : zG) {h nx gp x w : Nat} (hw : w = 0 ∨ w = 5 ∨ w = 6) : s_polls g h nx gp (18 + 7 * x + w) = g (18 + 7 * x + w) := by
  unfold s_polls s_poll s_asked
  split
  · split
    · rfl
    · split
      · rw [s_tick_ne _ (by omega), s_takes_ne _ _ (by omega) (by omega), gu_ne _ _ (by omega)]
      · split
        · split
          · rw [s_tick_ne _ (by omega), s_takes_ne _ _ (by omega) (by omega), s_takes_ne _ _ (by omega) (by omega), gu_ne _ _ (by omega)]
          · rw [s_come_56 _ hw, s_takes_ne _ _ (by omega) (by omega), s_takes_ne _ _ (by omega) (by omega), gu_ne _ _ (by omega)]
        · rw [s_tick_ne _ (by omega), s_takes_ne _ _ (by omega) (by omega), gu_ne _ _ (by omega)]
  · rfl
theorem s_passes_56 (g : zG) {h nx x w : Nat} (hw : w = 0 ∨ w = 5 ∨ w = 6) : s_passes g h nx (18 + 7 * x + w) = g (18 + 7 * x + w) := by
  unfold s_passes
  split
  · exact s_tries_ne _ _ _ (by omega) (by omega) (by omega)
  · have d : s_drop (s_tries nx 3 g).2 h nx (18 + 7 * x + w) = (s_tries nx 3 g).2 (18 + 7 * x + w) := by
      unfold s_drop
      split
      · rw [gu_ne _ _ (by omega), gu_ne _ _ (by omega)]
      · rfl
    unfold s_end
    rw [gu_ne _ _ (by omega), gu_ne _ _ (by omega), s_ask_ne _ _ _ _ (by omega) (by omega), d, s_tries_ne _ _ _ (by omega) (by omega) (by omega)]
theorem s_ring_3 {g g' : zG} {x : Nat} (h0 : g' (18 + 7 * x + 0) = g (18 + 7 * x + 0)) (h1 : g' (18 + 7 * x + 1) = g (18 + 7 * x + 1)) (h2 : g' (18 + 7 * x + 2) = g (18 + 7 * x + 2)) : s_ring g' x = s_ring g x := by
  unfold s_ring
  rw [h0, h1, h2]
theorem s_polls_ring (g : zG) {h nx gp x : Nat} (hr : s_ring g x = true) : s_ring (s_polls g h nx gp) x = true := by
  have gap : ∀ v, s_ring (gu g (18 + 7 * h + 4) v) x = true := fun v => by
    rw [s_ring_3 (g := g) (gu_ne _ _ (by omega)) (gu_ne _ _ (by omega)) (gu_ne _ _ (by omega))]; exact hr
  have tk : ∀ (f : zG) (t : Int32), s_ring f x = true → s_ring (s_takes f t) x = true := fun f t hf => by
    rw [s_ring_3 (g := f) (s_takes_ne _ _ (by omega) (by omega)) (s_takes_ne _ _ (by omega) (by omega)) (s_takes_ne _ _ (by omega) (by omega))]; exact hf
  have ti : ∀ (f : zG), s_ring f x = true → s_ring (s_tick f) x = true := fun f hf => by
    rw [s_ring_3 (g := f) (s_tick_ne _ (by omega)) (s_tick_ne _ (by omega)) (s_tick_ne _ (by omega))]; exact hf
  have co : ∀ (f : zG) (to : Nat), s_ring f x = true → s_ring (s_come f h to) x = true := fun f to hf => by
    simp only [s_ring, Bool.and_eq_true, decide_eq_true_eq] at hf ⊢
    unfold s_come
    refine ⟨⟨?_, ?_⟩, ?_⟩
    · rw [gu_ne _ _ (by omega), gu_ne _ _ (by omega), gu_ne _ _ (by omega), gu_ne _ _ (by omega), gu_ne _ _ (by omega)]; exact hf.1.1
    · rw [gu_ne _ _ (by omega), gu_ne _ _ (by omega), gu_ne _ _ (by omega), gu_ne _ _ (by omega), gu_ne _ _ (by omega)]; exact hf.1.2
    · rw [gu_ne _ _ (by omega), gu_ne _ _ (by omega), gu_ne _ _ (by omega), gu_ne _ _ (by omega)]
      by_cases hx : x = to
      · subst hx; rw [gu_same]
      · rw [gu_ne _ _ (by omega)]; exact hf.2
  unfold s_polls s_poll s_asked
  split
  · split
    · exact hr
    · split
      · exact ti _ (tk _ _ (gap _))
      · split
        · split
          · exact ti _ (tk _ _ (tk _ _ (gap _)))
          · exact co _ _ (tk _ _ (tk _ _ (gap _)))
        · exact ti _ (tk _ _ (gap _))
  · exact hr
theorem s_tries_rg {nx : Nat} : ∀ (k : Nat) (g : zG), (s_tries nx k g).1 = true → (s_tries nx k g).2 4 = n32 nx ∧ s_ring (s_tries nx k g).2 nx = true
  | 0, _, h => by cases h
  | k + 1, g, h => by
    rw [s_tries] at h ⊢
    split
    · rename_i hc
      refine ⟨gu_same (s_takes g (n32 1)) 4 (n32 nx), ?_⟩
      show s_ring (gu (s_takes g (n32 1)) 4 (n32 nx)) nx = true
      rw [s_ring_3 (g := s_takes g (n32 1)) (gu_ne _ _ (by omega)) (gu_ne _ _ (by omega)) (gu_ne _ _ (by omega))]
      exact hc.2
    · rename_i hc
      rw [if_neg hc] at h
      exact s_tries_rg k _ h
theorem s_passes_rg {g : zG} {h nx : Nat} (hh : h < 32) (hx : nx < 32) (hr : s_ring g h = true) : ∃ x, x < 32 ∧ s_passes g h nx 4 = n32 x ∧ s_ring (s_passes g h nx) x = true := by
  unfold s_passes
  split
  · rename_i ht
    exact ⟨nx, hx, s_tries_rg 3 g ht⟩
  · have hm := Nat.mod_lt (nx + 1) (show 32 > 0 by decide)
    obtain ⟨l1, l2⟩ := s_ask_lt h hh 32 (s_drop (s_tries nx 3 g).2 h nx) ((nx + 1) % 32) hm (by omega)
    have tn := fun {j : Nat} (a : j ≠ 3) (b : j ≠ 11) (c : j ≠ 4) => s_tries_ne nx 3 g a b c
    refine ⟨_, l1, by unfold s_end; rw [gu_same], ?_⟩
    have en : ∀ (f : zG) (y : Nat), s_ring (s_end f h y) (s_ask h 32 (s_drop (s_tries nx 3 g).2 h nx) ((nx + 1) % 32)).2 = s_ring f (s_ask h 32 (s_drop (s_tries nx 3 g).2 h nx) ((nx + 1) % 32)).2 := fun f y => by
      unfold s_end
      exact s_ring_3 (by rw [gu_ne _ _ (by omega), gu_ne _ _ (by omega)]) (by rw [gu_ne _ _ (by omega), gu_ne _ _ (by omega)]) (by rw [gu_ne _ _ (by omega), gu_ne _ _ (by omega)])
    rw [en]
    rcases l2 with l2 | l2
    · rw [l2]
      have an : ∀ j, j ≠ 3 → j ≠ 11 → (s_ask h 32 (s_drop (s_tries nx 3 g).2 h nx) ((nx + 1) % 32)).1 j = s_drop (s_tries nx 3 g).2 h nx j := fun j a b => s_ask_ne _ _ _ _ a b
      have dn : ∀ j, j ≠ 14 → j ≠ 18 + 7 * nx + 2 → s_drop (s_tries nx 3 g).2 h nx j = (s_tries nx 3 g).2 j := fun j a b => by
        unfold s_drop
        split
        · rw [gu_ne _ _ a, gu_ne _ _ b]
        · rfl
      have d2 : s_drop (s_tries nx 3 g).2 h nx (18 + 7 * h + 2) = (s_tries nx 3 g).2 (18 + 7 * h + 2) := by
        by_cases hn : nx = h
        · unfold s_drop
          rw [if_neg (by intro hc; exact hc.1 hn)]
        · exact dn _ (by omega) (by omega)
      rw [s_ring_3 (g := g) (by rw [an _ (by omega) (by omega), dn _ (by omega) (by omega), tn (by omega) (by omega) (by omega)]) (by rw [an _ (by omega) (by omega), dn _ (by omega) (by omega), tn (by omega) (by omega) (by omega)]) (by rw [an _ (by omega) (by omega), d2, tn (by omega) (by omega) (by omega)])]
      exact hr
    · exact l2
