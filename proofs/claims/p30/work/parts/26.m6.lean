/-! a visit -/
theorem zloop_r {S R : Type} {body : S → Option (S ⊕ R)} {N : Nat} {s : S} {r : R} (h : body s = some (.inr r)) : zloop body (N + 1) s = some r := by
  unfold zloop; rw [h]
theorem zloop_l {S R : Type} {body : S → Option (S ⊕ R)} {N : Nat} {s t : S} (h : body s = some (.inl t)) : zloop body (N + 1) s = zloop body N t := by
  conv => lhs; unfold zloop
  rw [h]
/-- what every row of a visit asks of the array -/
def s_ok (g : zG) : Prop := (∃ n, n ≤ 20 ∧ g 6 = n32 n) ∧ (∃ q, q ≤ 100 ∧ g 5 = n32 q)
def s_stop (x t0 al : Int32) (g : zG) (sp : Bool) : Bool := sp || decide (s_next g x nn = nn) || decide (al ≤ g 3 - t0)
def s_sl (x t0 al : Int32) : Nat → zG → Bool → zG
  | 0, g, _ => g
  | k + 1, g, sp => if s_stop x t0 al g sp = true then g else s_sl x t0 al k (s_sends g (s_next g x nn).toNatClampNeg) (s_spoilt g (s_next g x nn).toNatClampNeg)
/-- the loop ends within so many rounds -/
def s_fin (x t0 al : Int32) : Nat → zG → Bool → Prop
  | 0, g, sp => s_stop x t0 al g sp = true
  | k + 1, g, sp => s_stop x t0 al g sp = true ∨ s_fin x t0 al k (s_sends g (s_next g x nn).toNatClampNeg) (s_spoilt g (s_next g x nn).toNatClampNeg)
theorem s_sends_ne (g : zG) (m : Nat) {j : Nat} (h1 : j ≠ 3) (h2 : j ≠ 11) (h3 : j ≠ 10) (h4 : j ≠ 15) (h5 : j ≠ 242 + 5 * m + 4) : s_sends g m j = g j := by
  unfold s_sends s_sent
  split
  · exact s_takes_ne _ _ h1 h2
  · rw [gu_ne _ _ h4, gu_ne _ _ h3, gu_ne _ _ h5, s_takes_ne _ _ h1 h2]
theorem s_ok_sends {g : zG} (h : s_ok g) (m : Nat) : s_ok (s_sends g m) := by
  obtain ⟨⟨n, h1, h2⟩, ⟨q, h3, h4⟩⟩ := h
  exact ⟨⟨n, h1, by rw [s_sends_ne _ _ (by decide) (by decide) (by decide) (by decide) (by omega)]; exact h2⟩, ⟨q, h3, by rw [s_sends_ne _ _ (by decide) (by decide) (by decide) (by decide) (by omega)]; exact h4⟩⟩
theorem s_next_ok {g : zG} (h : s_ok g) (x b : Int32) : s_next g x b = nn ∨ ∃ j, j < 100 ∧ s_next g x b = n32 j := by
  obtain ⟨_, ⟨q, h3, h4⟩⟩ := h
  rcases s_next_rng g x b h4 h3 with h | ⟨j, h5, h6⟩
  · exact Or.inl h
  · exact Or.inr ⟨j, by omega, h6⟩
def s_urg (g : zG) (x : Int32) : Bool := !(decide (s_next g x nn = nn)) && !(decide (g (242 + 5 * (s_next g x nn).toNatClampNeg + 1) < n32 5))
/-- the first one as well, if it is urgent -/
def s_all (x t0 al : Int32) (k : Nat) (g : zG) : zG :=
  if s_urg g x = true then s_sl x t0 al k (s_sends g (s_next g x nn).toNatClampNeg) (s_spoilt g (s_next g x nn).toNatClampNeg) else s_sl x t0 al k g false
def s_allfin (x t0 al : Int32) (k : Nat) (g : zG) : Prop :=
  if s_urg g x = true then s_fin x t0 al k (s_sends g (s_next g x nn).toNatClampNeg) (s_spoilt g (s_next g x nn).toNatClampNeg) else s_fin x t0 al k g false
def s_shift (g : zG) (n : Nat) : zG := fun j => if 782 ≤ j ∧ j < 782 + n then g (j + 4) else g j
def s_put (g : zG) (k : Nat) (t0 h rot sent : Int32) : zG := gu (gu (gu (gu (gu g (782 + 4 * k) t0) (782 + 4 * k + 1) h) (782 + 4 * k + 2) rot) (782 + 4 * k + 3) sent) 7 (n32 (k + 1))
def s_log (g : zG) (k : Nat) (t0 h rot sent : Int32) : zG := if k = 40 then s_put (gu (s_shift g 156) 7 (n32 39)) 39 t0 h rot sent else s_put g k t0 h rot sent
