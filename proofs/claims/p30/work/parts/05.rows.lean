section ROWS2
variable {p : Program} {l : Launch} {e : Env} {R : Room} {s : State} {m : MethodId} {args : Array Value} {below : List Frame} {meth : Method} {c : Code} {H : Heap} {locs : List Loc} {cells slots : Nat} {Q : State → Prop}
variable {D : va_G} {cA : Nat → ClassId} {bs : Nat} {own : String} {cc : ByteArray} {nL : Nat} {ret : Option FieldType} {σ σ' : zSt} {pc : Nat} {ls : Array Slot} {rest : List Value} {q ci k index : Nat}
/-- a write to a field: the world behind it, of any σ' that differs there alone -/
theorem z_putC (hW : z_Ok D cA bs s σ H locs) (hin : k < z_cN ci) (ho : z_sh σ q = some (.inl ci)) {v : Value} (e1 : z_sh σ' = z_sh σ) (e2 : z_nx σ' = z_nx σ) (hc : ∀ a t', a ≠ q → z_cell cA σ' a t' = z_cell cA σ a t')
    (hv : z_val σ' q k (z_kd ci k) = v) (ho2 : ∀ j, j ≠ k → z_val σ' q j (z_kd ci j) = z_val σ q j (z_kd ci j)) {C : String} {T : u_T} (hcl : vwCl[ci]? = some (C, T, z_cN ci)) {H1 : Heap} {i : Nat}
    (g : t_OB q (D.1 ci) (z_cN ci) (D.2 ci) H1 (updV (vp_V (z_fs σ q ci)) k v)) (z : H1.size = H.size) (oq : ∀ a : Nat, a ≠ q → H1[a]? = H[a]?) : z_Ok D cA bs s σ' H1 (locs ++ [⟨q, i⟩]) := by
  refine ⟨z_Wd.put hW.1 ho e1 e2 z oq hc ?_, hW.2.put z oq (hW.1.2.2 q _ ho).1⟩
  refine ⟨_, hcl, t_OB.to g fun j hj => ?_⟩
  rw [← z_fs_set hin hv ho2]
  exact vp_updV_set (by rw [z_fs_len]; exact hin) v j
theorem z_putV (B : z_B p s m args meth c D cA bs own cc nL ret) (hW : z_Ok D cA bs s σ H locs) (F : z_F own index ci k) (ho : z_ob σ q ci = true) {v : Value} (e1 : z_sh σ' = z_sh σ) (e2 : z_nx σ' = z_nx σ) (hc : ∀ a t', a ≠ q → z_cell cA σ' a t' = z_cell cA σ a t')
    (hv : z_val σ' q k (z_kd ci k) = v) (ho2 : ∀ j, j ≠ k → z_val σ' q j (z_kd ci j) = z_val σ q j (z_kd ci j)) (hn : narrow (z_ty ci k) v = v) (hfit : fits (z_ty ci k) v = true) (hdg : decode cc pc = .ok (.putfield index, 3))
    (kk : ∀ (H : Heap) (locs : List Loc), z_Ok D cA bs s σ' H locs → W p l e R s m args below meth c H locs cells slots Q (F0 m (pc + 3) ls rest)) : W p l e R s m args below meth c H locs cells slots Q (F0 m pc ls (v :: .ref q :: rest)) := by
  obtain ⟨hx, hb, hml, hown, hts, -, -, hKT, -⟩ := B
  obtain ⟨C, T, hcl, hk, hlk, hin, hdc, hty, hnm, hfin⟩ := F
  have hap := va_apart (own := own) hts hin (z_ty ci) hty hnm hKT.1 hcl
  have hsh := z_ob_sh ho
  obtain ⟨r, h1, cell, q1, q2, q3, q4⟩ := (hW.1.2.2 q _ hsh).2
  have hr : r = (C, T, z_cN ci) := Option.some.inj (h1.symm.trans hcl)
  subst hr
  obtain ⟨hS, hfc, kC, hkC, hkind⟩ := hKT.1.1 ci _ hcl
  obtain ⟨cf, kf, fi, f, hi, hsl⟩ := hS k hk
  have hlay := hts _ (hin _ (u_in_lay hk))
  unfold u_lay at hlay
  rw [if_neg (by rw [hfin]; decide)] at hlay
  have hst := (u_facts hfc hkC (u_lays hts hin hk) hi).1
  have h6 := u_store hfc hkC hkind hlay hi (hty k hk) hn hfit
  refine W.putK hx hb (f := f) ⟨hown, hts _ hlk, ⟨_, _, _, by rw [hdc] at hi; exact hi⟩, hst⟩ (by rw [q2]; exact h6) q1 q3 (by rw [hsl]; exact k2_hasslot (q4 k hk)) rfl rfl hdg fun H' e1' e2' e3' => ?_
  rw [hsl] at e1' ⊢
  exact kk H' _ (z_putC hW hk hsh e1 e2 hc hv ho2 hcl ⟨_, e1', q2, q3, t_set q4 hap hk v⟩ e2' e3')
theorem z_putVF (B : z_B p s m args meth c D cA bs own cc nL ret) (hin2 : meth.name = "<init>") (hW : z_Ok D cA bs s σ H locs) (F : z_FF own index ci k) (hd2 : ∀ C T, vwCl[ci]? = some (C, T, z_cN ci) → C = own) (ho : z_ob σ q ci = true) {v : Value} (e1 : z_sh σ' = z_sh σ) (e2 : z_nx σ' = z_nx σ) (hc : ∀ a t', a ≠ q → z_cell cA σ' a t' = z_cell cA σ a t')
    (hv : z_val σ' q k (z_kd ci k) = v) (ho2 : ∀ j, j ≠ k → z_val σ' q j (z_kd ci j) = z_val σ q j (z_kd ci j)) (hn : narrow (z_ty ci k) v = v) (hfit : fits (z_ty ci k) v = true) (hdg : decode cc pc = .ok (.putfield index, 3))
    (kk : ∀ (H : Heap) (locs : List Loc), z_Ok D cA bs s σ' H locs → W p l e R s m args below meth c H locs cells slots Q (F0 m (pc + 3) ls rest)) : W p l e R s m args below meth c H locs cells slots Q (F0 m pc ls (v :: .ref q :: rest)) := by
  obtain ⟨hx, hb, hml, hown, hts, -, -, hKT, -⟩ := B
  obtain ⟨C, T, hcl, hk, hlk, hin, hdc, hty, hnm, hfin⟩ := F
  have hap := va_apart (own := own) hts hin (z_ty ci) hty hnm hKT.1 hcl
  have hsh := z_ob_sh ho
  obtain ⟨r, h1, cell, q1, q2, q3, q4⟩ := (hW.1.2.2 q _ hsh).2
  have hr : r = (C, T, z_cN ci) := Option.some.inj (h1.symm.trans hcl)
  subst hr
  obtain ⟨hS, hfc, kC, hkC, hkind⟩ := hKT.1.1 ci _ hcl
  obtain ⟨cf, kf, fi, f, hi, hsl⟩ := hS k hk
  have hlay := hts _ (hin _ (u_in_lay hk))
  unfold u_lay at hlay
  rw [if_pos hfin] at hlay
  have hst := (u_facts hfc hkC (u_lays hts hin hk) hi).1
  have hcf : m.cls = cf := by
    obtain ⟨_, _, c', _, _, _, -, -, hf', -, -, -, hown2, -⟩ := Cond.laysFinal_spec hlay
    have e1 : c' = cf := by have := hi.symm.trans hf'; simp at this; exact this.1.symm
    rw [hdc, hd2 _ _ hcl] at hown2
    rw [← e1]; exact Option.some.inj (hown.symm.trans hown2)
  have h6 := u_fits hfc hkC hkind (Or.inr hlay) hi (hty k hk) hn hfit
  refine W.putFinK hx hb hown (hts _ hlk) (by rw [hdc] at hi; exact hi) hst hcf hin2 (by rw [q2]; exact h6) q1 q3 (by rw [hsl]; exact k2_hasslot (q4 k hk)) rfl rfl hdg fun H' e1' e2' e3' => ?_
  rw [hsl] at e1' ⊢
  exact kk H' _ (z_putC hW hk hsh e1 e2 hc hv ho2 hcl ⟨_, e1', q2, q3, t_set q4 hap hk v⟩ e2' e3')
theorem z_valI {x : Int32} (hk : z_kd ci k = 0) : z_val (z_pI σ q k x) q k (z_kd ci k) = .int x := by
  rw [hk]; simp [z_val, z_I_pI]
theorem z_valJ {x : Int64} (hk : z_kd ci k = 1) : z_val (z_pJ σ q k x) q k (z_kd ci k) = .long x := by
  rw [hk]; simp [z_val, z_J_pJ]
theorem z_valR {x : Option Nat} (hk : z_kd ci k = 2) : z_val (z_pR σ q k x) q k (z_kd ci k) = va_rf x := by
  rw [hk]; simp [z_val, z_R_pR]
theorem z_valI' {x : Int32} {j kd : Nat} (h : j ≠ k) : z_val (z_pI σ q k x) q j kd = z_val σ q j kd := by
  unfold z_val; split <;> simp [z_I_pI, z_J_pI, z_R_pI, h]
theorem z_valJ' {x : Int64} {j kd : Nat} (h : j ≠ k) : z_val (z_pJ σ q k x) q j kd = z_val σ q j kd := by
  unfold z_val; split <;> simp [z_J_pJ, z_I_pJ, z_R_pJ, h]
theorem z_valR' {x : Option Nat} {j kd : Nat} (h : j ≠ k) : z_val (z_pR σ q k x) q j kd = z_val σ q j kd := by
  unfold z_val; split <;> simp [z_R_pR, z_I_pR, z_J_pR, h]
theorem z_celI {x : Int32} {j a : Nat} (h : a ≠ q) (t : zSh) : z_cell cA (z_pI σ q j x) a t = z_cell cA σ a t := z_cell_ext (σ' := z_pI σ q j x) (σ := σ) (show z_u σ.2.2.1 q j x a = σ.2.2.1 a from z_u_ne h) rfl rfl t
theorem z_celJ {x : Int64} {j a : Nat} (h : a ≠ q) (t : zSh) : z_cell cA (z_pJ σ q j x) a t = z_cell cA σ a t := z_cell_ext (σ' := z_pJ σ q j x) (σ := σ) rfl (show z_u σ.2.2.2.1 q j x a = σ.2.2.2.1 a from z_u_ne h) rfl t
theorem z_celR {x : Option Nat} {j a : Nat} (h : a ≠ q) (t : zSh) : z_cell cA (z_pR σ q j x) a t = z_cell cA σ a t := z_cell_ext (σ' := z_pR σ q j x) (σ := σ) rfl rfl (show z_u σ.2.2.2.2 q j x a = σ.2.2.2.2 a from z_u_ne h) t
theorem z_bln {x : Int32} (h : z_bl x = true) : narrow .boolean (.int x) = .int x ∧ fits .boolean (.int x) = true := by
  simp only [z_bl, Bool.or_eq_true, beq_iff_eq] at h
  rcases h with rfl | rfl <;> decide
/-- what an int field takes: an int field anything, a boolean field 0 and 1 -/
def z_fi (ci k : Nat) (x : Int32) : Bool := match z_ty ci k with
  | .int => true
  | .boolean => z_bl x
  | _ => false
theorem z_fiN {x : Int32} (h : z_fi ci k x = true) : z_kd ci k = 0 ∧ narrow (z_ty ci k) (.int x) = .int x ∧ fits (z_ty ci k) (.int x) = true := by
  unfold z_fi at h
  unfold z_kd
  split at h
  · rename_i ht; rw [ht]; exact ⟨rfl, rfl, rfl⟩
  · rename_i ht; rw [ht]; exact ⟨rfl, z_bln h⟩
  · cases h
theorem z_putI (B : z_B p s m args meth c D cA bs own cc nL ret) (hW : z_Ok D cA bs s σ H locs) (F : z_F own index ci k) (ho : z_ob σ q ci = true) {x : Int32} (hx : z_fi ci k x = true) (hσ : z_pI σ q k x = σ') (hdg : decode cc pc = .ok (.putfield index, 3))
    (kk : ∀ (H : Heap) (locs : List Loc), z_Ok D cA bs s σ' H locs → W p l e R s m args below meth c H locs cells slots Q (F0 m (pc + 3) ls rest)) : W p l e R s m args below meth c H locs cells slots Q (F0 m pc ls (.int x :: .ref q :: rest)) := by
  subst hσ
  obtain ⟨g1, g2, g3⟩ := z_fiN hx
  exact z_putV (σ' := z_pI σ q k x) B hW F ho rfl rfl (fun a t h => z_celI h t) (z_valI g1) (fun j hj => z_valI' hj) g2 g3 hdg kk
theorem z_putJ (B : z_B p s m args meth c D cA bs own cc nL ret) (hW : z_Ok D cA bs s σ H locs) (F : z_F own index ci k) (hk : z_ty ci k = .long) (ho : z_ob σ q ci = true) {x : Int64} (hσ : z_pJ σ q k x = σ') (hdg : decode cc pc = .ok (.putfield index, 3))
    (kk : ∀ (H : Heap) (locs : List Loc), z_Ok D cA bs s σ' H locs → W p l e R s m args below meth c H locs cells slots Q (F0 m (pc + 3) ls rest)) : W p l e R s m args below meth c H locs cells slots Q (F0 m pc ls (.long x :: .ref q :: rest)) := by
  subst hσ
  exact z_putV (σ' := z_pJ σ q k x) B hW F ho rfl rfl (fun a t h => z_celJ h t) (z_valJ (by unfold z_kd; rw [hk]; rfl)) (fun j hj => z_valJ' hj) (by rw [hk]; rfl) (by rw [hk]; rfl) hdg kk
theorem z_refN {v : Option Nat} (hk : z_kd ci k = 2) : narrow (z_ty ci k) (va_rf v) = va_rf v ∧ fits (z_ty ci k) (va_rf v) = true := by
  unfold z_kd at hk
  generalize z_ty ci k = ty at hk
  cases ty <;> first | (cases hk; done) | (cases v <;> exact ⟨rfl, rfl⟩)
theorem z_putR (B : z_B p s m args meth c D cA bs own cc nL ret) (hW : z_Ok D cA bs s σ H locs) (F : z_F own index ci k) (hk : z_kd ci k = 2) (ho : z_ob σ q ci = true) {v : Option Nat} (hσ : z_pR σ q k v = σ') (hdg : decode cc pc = .ok (.putfield index, 3))
    (kk : ∀ (H : Heap) (locs : List Loc), z_Ok D cA bs s σ' H locs → W p l e R s m args below meth c H locs cells slots Q (F0 m (pc + 3) ls rest)) : W p l e R s m args below meth c H locs cells slots Q (F0 m pc ls (va_rf v :: .ref q :: rest)) := by
  subst hσ
  exact z_putV (σ' := z_pR σ q k v) B hW F ho rfl rfl (fun a t h => z_celR h t) (z_valR hk) (fun j hj => z_valR' hj) (z_refN hk).1 (z_refN hk).2 hdg kk
theorem z_putIF (B : z_B p s m args meth c D cA bs own cc nL ret) (hin : meth.name = "<init>") (hW : z_Ok D cA bs s σ H locs) (F : z_FF own index ci k) (hd : ∀ C T, vwCl[ci]? = some (C, T, z_cN ci) → C = own) (ho : z_ob σ q ci = true) {x : Int32} (hx : z_fi ci k x = true) (hσ : z_pI σ q k x = σ') (hdg : decode cc pc = .ok (.putfield index, 3))
    (kk : ∀ (H : Heap) (locs : List Loc), z_Ok D cA bs s σ' H locs → W p l e R s m args below meth c H locs cells slots Q (F0 m (pc + 3) ls rest)) : W p l e R s m args below meth c H locs cells slots Q (F0 m pc ls (.int x :: .ref q :: rest)) := by
  subst hσ
  obtain ⟨g1, g2, g3⟩ := z_fiN hx
  exact z_putVF (σ' := z_pI σ q k x) B hin hW F hd ho rfl rfl (fun a t h => z_celI h t) (z_valI g1) (fun j hj => z_valI' hj) g2 g3 hdg kk
theorem z_putRF (B : z_B p s m args meth c D cA bs own cc nL ret) (hin : meth.name = "<init>") (hW : z_Ok D cA bs s σ H locs) (F : z_FF own index ci k) (hd : ∀ C T, vwCl[ci]? = some (C, T, z_cN ci) → C = own) (hk : z_kd ci k = 2) (ho : z_ob σ q ci = true) {v : Option Nat} (hσ : z_pR σ q k v = σ') (hdg : decode cc pc = .ok (.putfield index, 3))
    (kk : ∀ (H : Heap) (locs : List Loc), z_Ok D cA bs s σ' H locs → W p l e R s m args below meth c H locs cells slots Q (F0 m (pc + 3) ls rest)) : W p l e R s m args below meth c H locs cells slots Q (F0 m pc ls (va_rf v :: .ref q :: rest)) := by
  subst hσ
  exact z_putVF (σ' := z_pR σ q k v) B hin hW F hd ho rfl rfl (fun a t h => z_celR h t) (z_valR hk) (fun j hj => z_valR' hj) (z_refN hk).1 (z_refN hk).2 hdg kk
/-! arrays -/
theorem z_arP {t : Nat} (hW : z_Ok D cA bs s σ H locs) (ho : z_ar σ q t = true) : va_P D vwCl [(q, .inl (cA t, z_el σ q t (z_ln σ q)))] H := fun i x hi => by
  cases i with
  | zero => cases hi; exact (hW.1.2.2 q _ (z_ar_sh ho)).2
  | succ i => cases hi
theorem z_ald (B : z_B p s m args meth c D cA bs own cc nL ret) (hW : z_Ok D cA bs s σ H locs) (ho : z_ar σ q 0 = true) {i : Int32} (hi : z_ix i (z_ln σ q) = true) (hdg : decode cc pc = .ok (.iaload, 1))
    (kk : W p l e R s m args below meth c H locs cells slots Q (F0 m (pc + 1) ls (.int (z_I σ q i.toNatClampNeg) :: rest))) : W p l e R s m args below meth c H locs cells slots Q (F0 m pc ls (.int i :: .ref q :: rest)) :=
  va_iald B.1 B.2.1 B.2.2.2.2.2.2.2.1.1 (z_arP hW ho) 0 0 rfl rfl (z_ix_in hi) hdg kk
theorem z_bald (B : z_B p s m args meth c D cA bs own cc nL ret) (hW : z_Ok D cA bs s σ H locs) (ho : z_ar σ q 1 = true) {i : Int32} (hi : z_ix i (z_ln σ q) = true) (hdg : decode cc pc = .ok (.baload, 1))
    (kk : W p l e R s m args below meth c H locs cells slots Q (F0 m (pc + 1) ls (.int (z_I σ q i.toNatClampNeg) :: rest))) : W p l e R s m args below meth c H locs cells slots Q (F0 m pc ls (.int i :: .ref q :: rest)) :=
  va_bald B.1 B.2.1 B.2.2.2.2.2.2.2.1.1 (z_arP hW ho) 0 1 rfl rfl (z_ix_in hi) hdg kk
theorem z_aald {t : Nat} (ht : t = 3 ∨ t = 4) (B : z_B p s m args meth c D cA bs own cc nL ret) (hW : z_Ok D cA bs s σ H locs) (ho : z_ar σ q t = true) {i : Int32} (hi : z_ix i (z_ln σ q) = true) {v : Option Nat} (hv : z_R σ q i.toNatClampNeg = v) (hdg : decode cc pc = .ok (.aaload, 1))
    (kk : W p l e R s m args below meth c H locs cells slots Q (F0 m (pc + 1) ls (va_rf v :: rest))) : W p l e R s m args below meth c H locs cells slots Q (F0 m pc ls (.int i :: .ref q :: rest)) := by
  subst hv
  rcases ht with rfl | rfl
  · exact va_aldq B.1 B.2.1 B.2.2.2.2.2.2.2.1.1 (z_arP hW ho) 0 3 rfl rfl (z_ix_in hi) hdg kk
  · exact va_aldq B.1 B.2.1 B.2.2.2.2.2.2.2.1.1 (z_arP hW ho) 0 4 rfl rfl (z_ix_in hi) hdg kk
theorem z_alen {t : Nat} (ht : t < 5) (B : z_B p s m args meth c D cA bs own cc nL ret) (hW : z_Ok D cA bs s σ H locs) (ho : z_ar σ q t = true) (hdg : decode cc pc = .ok (.arraylength, 1))
    (kk : W p l e R s m args below meth c H locs cells slots Q (F0 m (pc + 1) ls (.int (Int32.ofNat (z_ln σ q)) :: rest))) : W p l e R s m args below meth c H locs cells slots Q (F0 m pc ls (.ref q :: rest)) := by
  have hty : (z_tys cA)[t]? = some (cA t, z_at t) := by
    rcases (by omega : t = 0 ∨ t = 1 ∨ t = 2 ∨ t = 3 ∨ t = 4) with rfl | rfl | rfl | rfl | rfl <;> rfl
  refine va_alen B.1 B.2.1 B.2.2.2.2.2.2.2.1.1 (z_arP hW ho) 0 t rfl hty ?_ hdg kk
  unfold z_el
  split <;> rfl
end ROWS2
