def s_tries (nx : Nat) : Nat → zG → Bool × zG
  | 0, g => (false, g)
  | k + 1, g => if s_l1 g = false ∧ s_ring (s_takes g (n32 1)) nx = true then (true, gu (s_takes g (n32 1)) 4 (n32 nx)) else s_tries nx k (s_tick (s_takes g (n32 1)))
def s_ask (h : Nat) : Nat → zG → Nat → zG × Nat
  | 0, g, to => (g, to)
  | k + 1, g, to => if to = h then (g, to) else if s_l1 g = false ∧ s_ring (s_takes g (n32 1)) to = true then (s_takes g (n32 1), to) else s_ask h k (s_tick (s_takes g (n32 1))) ((to + 1) % 32)
def s_end (g : zG) (h to : Nat) : zG := gu (gu g (18 + 7 * h + 3) (n32 to)) 4 (n32 to)
def s_drop (g : zG) (h nx : Nat) : zG := if ¬ nx = h ∧ s_ring g nx = true then gu (gu g (18 + 7 * nx + 2) (n32 0)) 14 (g 14 + n32 1) else g
def s_passes (g : zG) (h nx : Nat) : zG :=
  if (s_tries nx 3 g).1 = true then (s_tries nx 3 g).2 else s_end (s_ask h 32 (s_drop (s_tries nx 3 g).2 h nx) ((nx + 1) % 32)).1 h (s_ask h 32 (s_drop (s_tries nx 3 g).2 h nx) ((nx + 1) % 32)).2
section MODEL
variable {σ : zSt} {M n : Nat}
theorem s_tries_ne (nx : Nat) : ∀ (k : Nat) (g : zG) {j : Nat}, j ≠ 3 → j ≠ 11 → j ≠ 4 → (s_tries nx k g).2 j = g j := by
  intro k
  induction k with
  | zero => intro g j _ _ _; rfl
  | succ k ih =>
    intro g j h3 h11 h4
    unfold s_tries
    split
    · show gu _ 4 _ j = g j
      rw [gu_ne _ _ h4, s_takes_ne _ _ h3 h11]
    · rw [ih _ h3 h11 h4, s_tick_ne _ h3, s_takes_ne _ _ h3 h11]
end MODEL
