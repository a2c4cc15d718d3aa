/-! TWO LINES THAT ARE ALIKE BUT FOR THEIR NOISES -/
theorem s_any_congr {P P' : Nat → Bool} : ∀ k, (∀ m, m < k → P' m = P m) → s_any P' k = s_any P k
  | 0, _ => rfl
  | k + 1, h => by
    unfold s_any
    rw [s_any_congr k (fun m hm => h m (by omega)), h k (by omega)]
theorem s_loud_eq {g g' : zG} (h6 : g' 6 = g 6) (hn : s_nat g 6 ≤ 20) (h : ∀ j, 742 ≤ j → j < 782 → g' j = g j) (f t : Int32) : s_loud g' f t = s_loud g f t := by
  unfold s_loud
  rw [h6]
  refine s_any_congr _ (fun m hm => ?_)
  have : m < 20 := Nat.lt_of_lt_of_le hm hn
  rw [h _ (by omega) (by omega), h _ (by omega) (by omega)]
/-- alike but for the noises, which are loud at the same ticks -/
def s_alk (g g' : zG) : Prop := (∀ j, j ≠ 6 → (j < 742 ∨ 782 ≤ j) → g' j = g j) ∧ s_nat g 6 ≤ 20 ∧ s_nat g' 6 ≤ 20 ∧ ∀ f t, s_loud g' f t = s_loud g f t
section ALK
variable {g g' : zG}
theorem alk_gu (h : s_alk g g') {k : Nat} (k6 : k ≠ 6) (kn : k < 742 ∨ 782 ≤ k) (v : Int32) : s_alk (gu g k v) (gu g' k v) := by
  have n6 : ∀ f : zG, gu f k v 6 = f 6 := fun f => gu_ne _ _ (Ne.symm k6)
  have lo : ∀ (f : zG) (a b : Int32), s_nat f 6 ≤ 20 → s_loud (gu f k v) a b = s_loud f a b := fun f a b hf => s_loud_eq (n6 f) hf (fun j h1 h2 => gu_ne _ _ (by omega)) a b
  refine ⟨fun j h1 h2 => ?_, ?_, ?_, fun f t => ?_⟩
  · unfold gu
    split
    · rfl
    · exact h.1 j h1 h2
  · unfold s_nat; rw [n6]; exact h.2.1
  · unfold s_nat; rw [n6]; exact h.2.2.1
  · rw [lo _ _ _ h.2.2.1, lo _ _ _ h.2.1, h.2.2.2]
theorem alk_at (h : s_alk g g') {j : Nat} (h1 : j ≠ 6) (h2 : j < 742) : g' j = g j := h.1 j h1 (Or.inl h2)
theorem alk_nat (h : s_alk g g') {j : Nat} (h1 : j ≠ 6) (h2 : j < 742) : s_nat g' j = s_nat g j := by unfold s_nat; rw [alk_at h h1 h2]
theorem alk_takes (h : s_alk g g') (t : Int32) : s_alk (s_takes g t) (s_takes g' t) := by
  unfold s_takes
  rw [alk_at h (j := 3) (by omega) (by omega), alk_at h (j := 11) (by omega) (by omega), h.2.2.2]
  exact alk_gu (alk_gu h (by omega) (Or.inl (by omega)) _) (by omega) (Or.inl (by omega)) _
theorem alk_tick (h : s_alk g g') : s_alk (s_tick g) (s_tick g') := by
  unfold s_tick
  rw [alk_at h (j := 3) (by omega) (by omega), alk_at h (j := 1) (by omega) (by omega)]
  exact alk_gu h (by omega) (Or.inl (by omega)) _
theorem alk_nx (h : s_alk g g') (x : Int32) : ∀ k, k ≤ 100 → s_nx g' x nn k = s_nx g x nn k
  | 0, _ => rfl
  | k + 1, hk => by
    have ih := alk_nx h x k (by omega)
    have w : s_wt g' x k = s_wt g x k := by
      unfold s_wt
      rw [alk_at h (by omega) (by omega), alk_at h (by omega) (by omega)]
    have b : (s_nx g x nn k).toNatClampNeg < 100 := by
      rcases s_nx_rng g x nn k with e | ⟨j, hj, e⟩
      · rw [e]; decide
      · rw [e, n32_toNat (by omega)]; omega
    unfold s_nx
    rw [ih, w, s_bh_nn, s_bh_nn, alk_at h (j := 242 + 5 * (s_nx g x nn k).toNatClampNeg + 1) (by omega) (by omega), alk_at h (j := 242 + 5 * k + 1) (by omega) (by omega)]
theorem alk_next (h : s_alk g g') (h5 : s_nat g 5 ≤ 100) (x : Int32) : s_next g' x nn = s_next g x nn := by
  unfold s_next
  rw [alk_at h (j := 5) (by omega) (by omega)]
  exact alk_nx h x _ h5
theorem s_next_lt (h5 : s_nat g 5 ≤ 100) (x : Int32) : (s_next g x nn).toNatClampNeg < 100 := by
  unfold s_next
  rcases s_nx_rng g x nn (g 5).toNatClampNeg with e | ⟨j, hj, e⟩
  · rw [e]; decide
  · have : j < 100 := Nat.lt_of_lt_of_le hj h5
    rw [e, n32_toNat (by omega)]; exact this
theorem alk_spoilt (h : s_alk g g') {m : Nat} (hm : m < 100) : s_spoilt g' m = s_spoilt g m := by
  unfold s_spoilt
  rw [alk_at h (j := 3) (by omega) (by omega), alk_at h (j := 242 + 5 * m + 0) (by omega) (by omega), h.2.2.2]
theorem alk_sends (h : s_alk g g') {m : Nat} (hm : m < 100) : s_alk (s_sends g m) (s_sends g' m) := by
  unfold s_sends
  rw [alk_spoilt h hm, alk_at h (j := 242 + 5 * m + 0) (by omega) (by omega)]
  have T := alk_takes h (g (242 + 5 * m + 0))
  split
  · exact T
  · unfold s_sent
    rw [alk_at h (j := 3) (by omega) (by omega), alk_at h (j := 242 + 5 * m + 3) (by omega) (by omega), alk_at h (j := 10) (by omega) (by omega), alk_at h (j := 15) (by omega) (by omega), alk_at h (j := 242 + 5 * m + 0) (by omega) (by omega)]
    exact alk_gu (alk_gu (alk_gu T (by omega) (Or.inl (by omega)) _) (by omega) (Or.inl (by omega)) _) (by omega) (Or.inl (by omega)) _
theorem s_sends_n5 (g : zG) (m : Nat) : s_nat (s_sends g m) 5 = s_nat g 5 := by
  unfold s_nat; rw [s_sends_ne g m (by omega) (by omega) (by omega) (by omega) (by omega)]
theorem alk_stop (h : s_alk g g') (h5 : s_nat g 5 ≤ 100) (x t0 al : Int32) (sp : Bool) : s_stop x t0 al g' sp = s_stop x t0 al g sp := by
  unfold s_stop
  rw [alk_next h h5, alk_at h (j := 3) (by omega) (by omega)]
theorem alk_sl (x t0 al : Int32) : ∀ (k : Nat) (g g' : zG) (sp : Bool), s_alk g g' → s_nat g 5 ≤ 100 → s_alk (s_sl x t0 al k g sp) (s_sl x t0 al k g' sp)
  | 0, _, _, _, h, _ => h
  | k + 1, g, g', sp, h, h5 => by
    unfold s_sl
    rw [alk_stop h h5, alk_next h h5]
    split
    · exact h
    · have hl := s_next_lt h5 x
      rw [alk_spoilt h hl]
      exact alk_sl x t0 al k _ _ _ (alk_sends h hl) (by rw [s_sends_n5]; exact h5)
theorem alk_all (h : s_alk g g') (h5 : s_nat g 5 ≤ 100) (x t0 al : Int32) (k : Nat) : s_alk (s_all x t0 al k g) (s_all x t0 al k g') := by
  have hl := s_next_lt h5 x
  have u : s_urg g' x = s_urg g x := by
    unfold s_urg
    rw [alk_next h h5, alk_at h (j := 242 + 5 * (s_next g x nn).toNatClampNeg + 1) (by omega) (by omega)]
  unfold s_all
  rw [u, alk_next h h5]
  split
  · rw [alk_spoilt h hl]
    exact alk_sl x t0 al k _ _ _ (alk_sends h hl) (by rw [s_sends_n5]; exact h5)
  · exact alk_sl x t0 al k _ _ _ h h5
theorem alk_put (h : s_alk g g') (k : Nat) (t0 r1 r2 r3 : Int32) : s_alk (s_put g k t0 r1 r2 r3) (s_put g' k t0 r1 r2 r3) := by
  unfold s_put
  exact alk_gu (alk_gu (alk_gu (alk_gu (alk_gu h (by omega) (Or.inr (by omega)) _) (by omega) (Or.inr (by omega)) _) (by omega) (Or.inr (by omega)) _) (by omega) (Or.inr (by omega)) _) (by omega) (Or.inl (by omega)) _
theorem alk_shift (h : s_alk g g') (n : Nat) : s_alk (s_shift g n) (s_shift g' n) := by
  have n6 : ∀ f : zG, s_shift f n 6 = f 6 := fun f => by unfold s_shift; rw [if_neg (by omega)]
  have lo : ∀ (f : zG) (a b : Int32), s_nat f 6 ≤ 20 → s_loud (s_shift f n) a b = s_loud f a b := fun f a b hf => s_loud_eq (n6 f) hf (fun j h1 h2 => by unfold s_shift; rw [if_neg (by omega)]) a b
  refine ⟨fun j h1 h2 => ?_, ?_, ?_, fun f t => ?_⟩
  · unfold s_shift
    split
    · exact h.1 _ (by omega) (by omega)
    · exact h.1 j h1 h2
  · unfold s_nat; rw [n6]; exact h.2.1
  · unfold s_nat; rw [n6]; exact h.2.2.1
  · rw [lo _ _ _ h.2.2.1, lo _ _ _ h.2.1, h.2.2.2]
theorem alk_log (h : s_alk g g') (k : Nat) (t0 r1 r2 r3 : Int32) : s_alk (s_log g k t0 r1 r2 r3) (s_log g' k t0 r1 r2 r3) := by
  unfold s_log
  split
  · exact alk_put (alk_gu (alk_shift h _) (by omega) (Or.inl (by omega)) _) _ _ _ _ _
  · exact alk_put h _ _ _ _ _
theorem alk_l1 (h : s_alk g g') : s_l1 g' = s_l1 g := by
  unfold s_l1
  rw [alk_at h (j := 3) (by omega) (by omega), h.2.2.2]
theorem alk_ring (h : s_alk g g') {x : Nat} (hx : x < 32) : s_ring g' x = s_ring g x := by
  unfold s_ring
  rw [alk_at h (by omega) (by omega), alk_at h (by omega) (by omega), alk_at h (by omega) (by omega)]
theorem alk_isOn (h : s_alk g g') {x : Nat} (hx : x < 32) : s_isOn g' x = s_isOn g x := by
  unfold s_isOn
  rw [alk_at h (by omega) (by omega), alk_at h (by omega) (by omega)]
theorem alk_come (h : s_alk g g') {a to : Nat} (ha : a < 32) (ht : to < 32) : s_alk (s_come g a to) (s_come g' a to) := by
  unfold s_come
  rw [alk_at h (j := 18 + 7 * a + 3) (by omega) (by omega), alk_at h (j := 13) (by omega) (by omega)]
  exact alk_gu (alk_gu (alk_gu (alk_gu (alk_gu h (by omega) (Or.inl (by omega)) _) (by omega) (Or.inl (by omega)) _) (by omega) (Or.inl (by omega)) _) (by omega) (Or.inl (by omega)) _) (by omega) (Or.inl (by omega)) _
theorem alk_asked (h : s_alk g g') {a to : Nat} (ha : a < 32) (ht : to < 32) : s_alk (s_asked g a to) (s_asked g' a to) := by
  have f : s_free g' to = s_free g to := by
    unfold s_free
    rw [alk_at h (by omega) (by omega), alk_at h (by omega) (by omega), alk_at h (by omega) (by omega)]
  unfold s_asked
  rw [f, alk_l1 h]
  split
  · split
    · exact alk_tick (alk_takes h _)
    · exact alk_come (alk_takes h _) ha ht
  · exact alk_tick h
theorem alk_poll (h : s_alk g g') {a to : Nat} (ha : a < 32) (ht : to < 32) : s_alk (s_poll g a to) (s_poll g' a to) := by
  have h1 := alk_gu h (k := 18 + 7 * a + 4) (by omega) (Or.inl (by omega)) (n32 to)
  unfold s_poll
  rw [alk_l1 h1]
  split
  · exact alk_tick (alk_takes h1 _)
  · exact alk_asked (alk_takes h1 _) ha ht
theorem alk_polls (h : s_alk g g') {a : Nat} (ha : a < 32) (nx gp : Nat) : s_alk (s_polls g a nx gp) (s_polls g' a nx gp) := by
  unfold s_polls
  rw [alk_at h (j := 18 + 7 * a + 5) (by omega) (by omega), alk_at h (j := 2) (by omega) (by omega)]
  split
  · split
    · exact h
    · exact alk_poll h ha (s_to_lt _ _ _)
  · exact h
theorem alk_tries {nx : Nat} (hx : nx < 32) : ∀ (k : Nat) (g g' : zG), s_alk g g' → (s_tries nx k g').1 = (s_tries nx k g).1 ∧ s_alk (s_tries nx k g).2 (s_tries nx k g').2
  | 0, _, _, h => ⟨rfl, h⟩
  | k + 1, g, g', h => by
    have T := alk_takes h (n32 1)
    unfold s_tries
    rw [alk_l1 h, alk_ring T hx]
    split
    · exact ⟨rfl, alk_gu T (by omega) (Or.inl (by omega)) _⟩
    · exact alk_tries hx k _ _ (alk_tick T)
theorem alk_ask (a : Nat) : ∀ (k : Nat) (g g' : zG) (to : Nat), to < 32 → s_alk g g' → (s_ask a k g' to).2 = (s_ask a k g to).2 ∧ s_alk (s_ask a k g to).1 (s_ask a k g' to).1
  | 0, _, _, _, _, h => ⟨rfl, h⟩
  | k + 1, g, g', to, ht, h => by
    have T := alk_takes h (n32 1)
    unfold s_ask
    rw [alk_l1 h, alk_ring T ht]
    split
    · exact ⟨rfl, h⟩
    · split
      · exact ⟨rfl, T⟩
      · exact alk_ask a k _ _ _ (Nat.mod_lt _ (by omega)) (alk_tick T)
theorem s_ask_lt32 (a : Nat) : ∀ (k : Nat) (g : zG) (to : Nat), to < 32 → (s_ask a k g to).2 < 32
  | 0, _, _, h => h
  | k + 1, g, to, h => by
    unfold s_ask
    split
    · exact h
    · split
      · exact h
      · exact s_ask_lt32 a k _ _ (Nat.mod_lt _ (by omega))
theorem alk_drop (h : s_alk g g') {a nx : Nat} (hx : nx < 32) : s_alk (s_drop g a nx) (s_drop g' a nx) := by
  unfold s_drop
  rw [alk_ring h hx, alk_at h (j := 14) (by omega) (by omega)]
  split
  · exact alk_gu (alk_gu h (by omega) (Or.inl (by omega)) _) (by omega) (Or.inl (by omega)) _
  · exact h
theorem alk_passes (h : s_alk g g') {a nx : Nat} (ha : a < 32) (hx : nx < 32) : s_alk (s_passes g a nx) (s_passes g' a nx) := by
  obtain ⟨e1, T⟩ := alk_tries hx 3 g g' h
  unfold s_passes
  rw [e1]
  split
  · exact T
  · have D := alk_drop T (a := a) hx
    obtain ⟨e2, A⟩ := alk_ask a 32 _ _ ((nx + 1) % 32) (Nat.mod_lt _ (by omega)) D
    rw [e2]
    unfold s_end
    exact alk_gu (alk_gu A (by omega) (Or.inl (by omega)) _) (by omega) (Or.inl (by omega)) _
theorem alk_rot (h : s_alk g g') {a : Nat} (ha : a < 32) : s_rot g' a = s_rot g a := by
  unfold s_rot
  rw [alk_at h (j := 18 + 7 * a + 6) (by omega) (by omega), alk_at h (j := 3) (by omega) (by omega)]
theorem alk_begin (h : s_alk g g') {a : Nat} (ha : a < 32) : s_alk (s_begin g a) (s_begin g' a) := by
  unfold s_begin
  rw [alk_rot h ha, alk_at h (j := 3) (by omega) (by omega), alk_at h (j := 18 + 7 * a + 5) (by omega) (by omega), alk_at h (j := 9) (by omega) (by omega), alk_at h (j := 8) (by omega) (by omega)]
  exact alk_gu (alk_gu (alk_gu (alk_gu h (by omega) (Or.inl (by omega)) _) (by omega) (Or.inl (by omega)) _) (by omega) (Or.inl (by omega)) _) (by omega) (Or.inl (by omega)) _
theorem s_begin_n5 (g : zG) (a : Nat) : s_nat (s_begin g a) 5 = s_nat g 5 := by unfold s_nat; rw [s_begin_ne g a (by omega) (by omega) (by omega) (by omega)]
theorem alk_mid (h : s_alk g g') (h5 : s_nat g 5 ≤ 100) {a : Nat} (ha : a < 32) (k : Nat) : s_alk (s_mid g a k) (s_mid g' a k) := by
  unfold s_mid
  rw [alk_rot h ha, alk_at h (j := 3) (by omega) (by omega), alk_at h (j := 0) (by omega) (by omega)]
  exact alk_all (alk_begin h ha) (by rw [s_begin_n5]; exact h5) _ _ _ _
theorem alk_logged (h : s_alk g g') (h5 : s_nat g 5 ≤ 100) {a : Nat} (ha : a < 32) (k lg : Nat) : s_alk (s_logged g a k lg) (s_logged g' a k lg) := by
  have M := alk_mid h h5 ha k
  unfold s_logged
  rw [alk_rot h ha, alk_at h (j := 3) (by omega) (by omega), alk_at h (j := 10) (by omega) (by omega), alk_at M (j := 10) (by omega) (by omega)]
  exact alk_log M _ _ _ _ _
theorem alk_vis (h : s_alk g g') (h5 : s_nat g 5 ≤ 100) {a : Nat} (ha : a < 32) (k : Nat) (hx : s_nat (s_pl (s_logged g a k (s_nat g 7)) a) (18 + 7 * a + 3) < 32) : s_alk (s_vis g a k) (s_vis g' a k) := by
  have L := alk_logged h h5 ha k (s_nat g 7)
  have P : s_alk (s_pl (s_logged g a k (s_nat g 7)) a) (s_pl (s_logged g' a k (s_nat g 7)) a) := by
    unfold s_pl
    rw [alk_nat L (j := 18 + 7 * a + 3) (by omega) (by omega), alk_nat L (j := 18 + 7 * a + 4) (by omega) (by omega)]
    exact alk_polls L ha _ _
  unfold s_vis
  rw [alk_nat h (j := 7) (by omega) (by omega)]
  unfold s_ps
  rw [alk_nat P (j := 18 + 7 * a + 3) (by omega) (by omega)]
  exact alk_passes P ha hx
theorem alk_tok (h : s_alk g g') {a : Nat} (ha : a < 32) : s_alk (s_tok g a) (s_tok g' a) := by
  unfold s_tok
  rw [alk_ring h ha, alk_at h (j := 3) (by omega) (by omega), alk_at h (j := 1) (by omega) (by omega), alk_at h (j := 12) (by omega) (by omega)]
  have T := alk_gu h (k := 3) (by omega) (Or.inl (by omega)) (g 3 + g 1 * n32 (6 + 2 * a))
  split
  · exact alk_gu (alk_gu T (by omega) (Or.inl (by omega)) _) (by omega) (Or.inl (by omega)) _
  · exact alk_gu (alk_gu (alk_gu (alk_gu T (by omega) (Or.inl (by omega)) _) (by omega) (Or.inl (by omega)) _) (by omega) (Or.inl (by omega)) _) (by omega) (Or.inl (by omega)) _
theorem s_low_congr {P P' : Nat → Bool} {h0 : Int32} (h : ∀ x, x < 32 → P' x = P x) : ∀ k, s_low P' h0 k = s_low P h0 k
  | 0 => rfl
  | k + 1 => by
    unfold s_low
    rw [s_low_congr h k, h (31 - k) (by omega)]
theorem alk_h2 (h : s_alk g g') : s_h2 g' = s_h2 g := by
  unfold s_h2 s_h1
  rw [s_low_congr (P := s_isOn g) (fun x hx => alk_isOn h hx), s_low_congr (P := s_ring g) (fun x hx => alk_ring h hx)]
/-- the next address of a holder stays one -/
theorem s_pl_nx (hN : s_num g) {a : Nat} (ha : a < 32) (hz : g (18 + 7 * a + 0) = n32 1) (k : Nat) : s_nat (s_pl (s_logged g a k (s_nat g 7)) a) (18 + 7 * a + 3) < 32 := by
  obtain ⟨h5, h52, ⟨z, hz6, h6⟩, _, _, _, hst, _⟩ := hN
  have ob := s_ok_begin (show s_ok g from ⟨⟨z, hz6, h6⟩, ⟨_, h5, h52⟩⟩) a
  have st := hst a ha hz
  obtain ⟨nx, hnx, e3⟩ := st.2.2.2.1
  have l3 : s_logged g a k (s_nat g 7) (18 + 7 * a + 3) = n32 nx := by
    unfold s_logged
    rw [s_log_ne _ _ _ _ _ _ (by omega) (by omega)]
    unfold s_mid
    rw [s_all_ne _ _ _ _ _ (by omega) (by omega) (by omega) (by omega) (Or.inl (by omega)) ob, s_begin_ne _ _ (by omega) (by omega) (by omega) (by omega)]
    exact e3
  unfold s_pl
  obtain ⟨ny, hny, ly⟩ := s_polls_next (gp := s_nat (s_logged g a k (s_nat g 7)) (18 + 7 * a + 4)) (s_logged g a k (s_nat g 7)) ha hnx l3
  rw [s_nat_n32 l3 (by omega)]
  rw [s_nat_n32 ly (by omega)]
  exact hny
theorem alk_visits (h : s_alk g g') {B V : Nat} (hI : s_I g B V) (hB : B ≤ 1800000000) : s_alk (s_visits g) (s_visits g') := by
  have hN := s_I_num hI
  have h5 := hN.1
  unfold s_visits
  rw [alk_at h (j := 4) (by omega) (by omega), alk_h2 h, alk_nat h (j := 4) (by omega) (by omega)]
  split
  · rcases s_h2_on g with e | ⟨x, hx, e, hon⟩
    · rw [if_pos e, if_pos e]; exact h
    · have nh : ¬ s_h2 g = nn := by rw [e, n32_ne (by omega)]; exact not_false
      rw [if_neg nh, if_neg nh, e, n32_toNat (by omega)]
      simp only [s_isOn, Bool.and_eq_true, decide_eq_true_eq] at hon
      obtain ⟨s, hs, h1⟩ := s_I_1 hI
      have b3 := hI.1.2.2.2.1
      have T := s_tok_inv hN hs h1 hx hon.2 (by omega)
      have tz : s_tok g x (18 + 7 * x + 0) = n32 1 := by rw [s_tok_ne g (by omega) (by omega) (by omega) (by omega) (by omega)]; exact hon.1
      exact alk_vis (alk_tok h hx) T.1.1 hx _ (s_pl_nx T.1 hx tz _)
  · rename_i h4
    rcases s_I_hol hI with e | ⟨x, hx, e, hz⟩
    · exact absurd e h4
    · rw [s_nat_n32 e (by omega)]
      exact alk_vis h h5 hx _ (s_pl_nx hN hx hz _)
end ALK
