def s_go (g : zG) (h : Nat) : Prop := s_okv g h ∧ s_allfin (n32 h) (g 3) (g 0 - s_rot g h) 101 (s_begin g h)
def s_vok (g : zG) : Prop := (g 4 = nn ∧ (s_h2 g = nn ∨ ∃ x, x < 32 ∧ s_h2 g = n32 x ∧ s_go (s_tok g x) x)) ∨ (∃ h, g 4 = n32 h ∧ s_go g h)
def s_visits (g : zG) : zG :=
  if g 4 = nn then (if s_h2 g = nn then g else s_vis (s_tok g (s_h2 g).toNatClampNeg) (s_h2 g).toNatClampNeg 101) else s_vis g (s_nat g 4) 101
theorem s_tok_4 (g : zG) (h : Nat) : s_tok g h 4 = n32 h := by
  unfold s_tok
  rw [gu_ne _ _ (by decide), gu_same]
def s_compl (g : zG) : Nat → Bool
  | 0 => true
  | k + 1 => s_compl g k && (decide (g (18 + 7 * k + 0) = n32 0) || decide (g (18 + 7 * k + 1) = n32 0) || decide (g (18 + 7 * k + 2) = n32 1))
def s_waiting (g : zG) (q : Nat) : Nat → Int32
  | 0 => n32 0
  | k + 1 => s_waiting g q k + (if s_isOn g k = true then n32 (s_cnt (s_wt g (n32 k)) q) else n32 0)
/-- station's value `what` -/
def s_stv (g : zG) (x what q : Nat) : Int32 := if what = 4 then n32 (s_cnt (s_wt g (n32 x)) q) else if what < 4 then g (18 + 7 * x + (1 + what)) else g (18 + 7 * x + what)
def s_set (g : zG) (what : Nat) : Int32 :=
  if what = 3 then s_sum (fun x => g (18 + 7 * x + 0)) 32 else if what = 4 then n32 (s_cnt (s_ring g) 32) else if what = 5 then g 6 else if what = 6 then g 3 else if what = 7 then g 4 else if what = 8 then g 5 else g what
