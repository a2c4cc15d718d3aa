section ROWS3
variable {p : Program} {l : Launch} {e : Env} {R : Room} {s : State} {m : MethodId} {args : Array Value} {below : List Frame} {meth : Method} {c : Code} {H : Heap} {locs : List Loc} {cells slots : Nat} {Q : State → Prop}
variable {D : va_G} {cA : Nat → ClassId} {bs : Nat} {own : String} {cc : ByteArray} {nL : Nat} {ret : Option FieldType} {σ σ' : zSt} {pc : Nat} {ls : Array Slot} {rest : List Value} {q ci k index : Nat}
theorem z_u_at {α : Type} (f : Nat → Nat → α) (q j : Nat) (x : α) : z_u f q j x q = fun b => if b = j then x else f q b := by
  funext b
  simp [z_u]
theorem z_ast (B : z_B p s m args meth c D cA bs own cc nL ret) (hW : z_Ok D cA bs s σ H locs) (ho : z_ar σ q 0 = true) {i x : Int32} (hi : z_ix i (z_ln σ q) = true) (hσ : z_pI σ q i.toNatClampNeg x = σ') (hdg : decode cc pc = .ok (.iastore, 1))
    (kk : ∀ (H : Heap) (locs : List Loc), z_Ok D cA bs s σ' H locs → W p l e R s m args below meth c H locs cells slots Q (F0 m (pc + 1) ls rest)) : W p l e R s m args below meth c H locs cells slots Q (F0 m pc ls (.int x :: .int i :: .ref q :: rest)) := by
  subst hσ
  have hP := z_arP hW ho
  have hsh := z_ar_sh ho
  refine W.iast B.1 B.2.1 (hP 0 _ rfl) ((B.2.2.2.2.2.2.2.1.1.2 0 _ rfl).1 (z_ln σ q) (fun j => .int (z_I σ q j))) (fun q => by cases q) (by show ¬ (i < 0 ∨ (arrV _ _ _).slots.size ≤ _); rw [arrV_size]; exact z_ix_in hi) rfl rfl hdg fun H1 e1 z oq => ?_
  refine kk H1 _ ⟨z_Wd.put hW.1 hsh rfl rfl z oq (fun a t h => z_celI h t) ?_, hW.2.put z oq (hW.1.2.2 q _ hsh).1⟩
  show H1[q]? = some (vp_cell _ _)
  rw [e1]
  show some ((vp_cell _ (_, Sum.inl _)).setSlot _ _) = some (vp_cell _ (_, Sum.inl _))
  rw [vp_cell_i, vp_cell_i, arrV_store]
  congr 2
  funext b
  by_cases hq : b = i.toNatClampNeg
  · subst hq
    simp [updV, z_I_pI]
  · simp [updV, z_I_pI, hq]
theorem z_bast (B : z_B p s m args meth c D cA bs own cc nL ret) (hW : z_Ok D cA bs s σ H locs) (ho : z_ar σ q 1 = true) {i x : Int32} (hi : z_ix i (z_ln σ q) = true) (hσ : z_pI σ q i.toNatClampNeg (vp_nar .byte x) = σ') (hdg : decode cc pc = .ok (.bastore, 1))
    (kk : ∀ (H : Heap) (locs : List Loc), z_Ok D cA bs s σ' H locs → W p l e R s m args below meth c H locs cells slots Q (F0 m (pc + 1) ls rest)) : W p l e R s m args below meth c H locs cells slots Q (F0 m pc ls (.int x :: .int i :: .ref q :: rest)) := by
  subst hσ
  have hP := z_arP hW ho
  have hsh := z_ar_sh ho
  refine W.bast B.1 B.2.1 (hP 0 _ rfl) ((B.2.2.2.2.2.2.2.1.1.2 1 _ rfl).1 (z_ln σ q) (fun j => .int (z_I σ q j))) (fun q => by cases q) (by show ¬ (i < 0 ∨ (arrV _ _ _).slots.size ≤ _); rw [arrV_size]; exact z_ix_in hi) rfl rfl hdg fun H1 e1 z oq => ?_
  refine kk H1 _ ⟨z_Wd.put hW.1 hsh rfl rfl z oq (fun a t h => z_celI h t) ?_, hW.2.put z oq (hW.1.2.2 q _ hsh).1⟩
  show H1[q]? = some (vp_cell _ _)
  rw [e1]
  show some ((vp_cell _ (_, Sum.inl _)).setSlot _ _) = some (vp_cell _ (_, Sum.inl _))
  rw [vp_cell_i, vp_cell_i, arrV_store]
  congr 2
  funext b
  by_cases hq : b = i.toNatClampNeg
  · subst hq
    simp [updV, z_I_pI, vp_nar, narrow]
  · simp [updV, z_I_pI, hq]
theorem z_aast {t ci v : Nat} (ht : (t = 3 ∧ ci = 6) ∨ (t = 4 ∧ ci = 2)) (B : z_B p s m args meth c D cA bs own cc nL ret) (hW : z_Ok D cA bs s σ H locs) (ho : z_ar σ q t = true) {i : Int32} (hi : z_ix i (z_ln σ q) = true) (hv : z_ob σ v ci = true) (hσ : z_pR σ q i.toNatClampNeg (some v) = σ') (hdg : decode cc pc = .ok (.aastore, 1))
    (kk : ∀ (H : Heap) (locs : List Loc), z_Ok D cA bs s σ' H locs → W p l e R s m args below meth c H locs cells slots Q (F0 m (pc + 1) ls rest)) : W p l e R s m args below meth c H locs cells slots Q (F0 m pc ls (.ref v :: .int i :: .ref q :: rest)) := by
  subst hσ
  have hP := z_arP hW ho
  have hsh := z_ar_sh ho
  have hshv := z_ob_sh hv
  have hin := z_ix_in hi
  have hlt : i.toNatClampNeg < z_ln σ q := Nat.not_le.mp fun q => hin (Or.inr q)
  have h0 : ¬ i < 0 := fun q => hin (Or.inl q)
  obtain ⟨r', hr', cellV, g1, g2, g3, -⟩ := (hW.1.2.2 v _ hshv).2
  have key : ∀ (r : vw_C), vwCl[ci]? = some r → (z_tys cA)[t]? = some (cA t, .object r.1) → z_el σ q t (z_ln σ q) = (z_ln σ q, .inr (.inr (.inr (.inr (z_R σ q))))) → z_el (z_pR σ q i.toNatClampNeg (some v)) q t (z_ln σ q) = (z_ln σ q, .inr (.inr (.inr (.inr (z_R (z_pR σ q i.toNatClampNeg (some v)) q))))) → W p l e R s m args below meth c H locs cells slots Q (F0 m pc ls (.ref v :: .int i :: .ref q :: rest)) := by
    intro r hc htt hel hel'
    have hK := B.2.2.2.2.2.2.2.1.1
    have hcls := (hK.1 ci r hc).2
    obtain ⟨kA, comp, k1, k2, k3, -⟩ := (hK.2 t _ htt).2
    have hcomp : comp = D.1 ci := Option.some.inj (k3.symm.trans hcls.1)
    subst hcomp
    obtain ⟨kC, hkC, -⟩ := hcls.2
    have hcell : H[q]? = some (vp_cell (cA t) (z_ln σ q, .inr (.inr (.inr (.inr (z_R σ q)))))) := by rw [← hel]; exact hP 0 _ rfl
    refine W.aast B.1 B.2.1 hcell (fun q h => by cases h) (fun h => by cases h) k1 k2 rfl hkC ⟨h0, by show _ < (arrV _ _ _).slots.size; rw [arrV_size]; exact hlt⟩ g1 (fun q h => by rw [g3] at h; cases h) (by rw [g2]; exact hkC) (by rw [g2]; exact va_assign hcls) rfl rfl hdg fun H1 e1 z oq => ?_
    refine kk H1 _ ⟨z_Wd.put hW.1 hsh rfl rfl z oq (fun a t h => z_celR h t) ?_, hW.2.put z oq (hW.1.2.2 q _ hsh).1⟩
    show H1[q]? = some (vp_cell _ (z_el _ _ _ _))
    rw [e1, hel', vp_cell_q, vp_cell_q, arrV_store]
    congr 2
    funext b
    by_cases hq : b = i.toNatClampNeg
    · subst hq
      simp [updV, z_R_pR, va_rf]
    · simp [updV, z_R_pR, hq]
  rcases ht with ⟨rfl, rfl⟩ | ⟨rfl, rfl⟩
  · exact key _ rfl rfl rfl rfl
  · exact key _ rfl rfl rfl rfl
/-! cells made -/
theorem z_sh_lt (hW : z_Wd D cA bs σ H) {t : zSh} (h : z_sh σ q = some t) : q < z_nx σ := by
  rw [← hW.1]
  exact (hW.2.2 q t h).2.lt
theorem z_Wd.new {H1 : Heap} {t : zSh} (h : z_Wd D cA bs σ H) (z : H1.size = H.size + 1) (o : ∀ q : Nat, q < H.size → H1[q]? = H[q]?) (hn : va_at D vwCl (z_nx σ, z_cell cA (z_nw σ t) (z_nx σ) t) H1) : z_Wd D cA bs (z_nw σ t) H1 := by
  refine ⟨by rw [z, h.1]; rfl, Nat.le_trans h.2.1 (Nat.le_succ _), fun q t' hq => ?_⟩
  rw [z_sh_nw] at hq
  by_cases hqn : q = z_nx σ
  · rw [if_pos hqn] at hq
    cases hq
    subst hqn
    exact ⟨h.2.1, hn⟩
  · rw [if_neg hqn] at hq
    have hlt : q < H.size := by rw [h.1]; exact z_sh_lt h hq
    have ec : z_cell cA (z_nw σ t) q t' = z_cell cA σ q t' := z_cell_ext (by funext b; rw [z_I_nw, if_neg hqn]) (by funext b; rw [z_J_nw, if_neg hqn]) (by funext b; rw [z_R_nw, if_neg hqn]) t'
    rw [ec]
    exact ⟨(h.2.2 q t' hq).1, (h.2.2 q t' hq).2.kept (o q hlt)⟩
theorem z_S_new {H0 H1 : Heap} {A : Nat → Prop} (hS : va_S A H0 H locs) (z : H1.size = H.size + 1) (o : ∀ q : Nat, q < H.size → H1[q]? = H[q]?) : va_S A H0 H1 locs :=
  ⟨Nat.le_trans hS.1 (by omega), fun x h1 h2 => (o x (Nat.lt_of_lt_of_le h1 hS.1)).trans (hS.2.1 x h1 h2), hS.2.2⟩
theorem z_newO {C : String} {T : u_T} (B : z_B p s m args meth c D cA bs own cc nL ret) (hW : z_Ok D cA bs s σ H locs) (hcl : vwCl[ci]? = some (C, T, z_cN ci)) (hty : ∀ k, k < z_cN ci → parseFieldDescriptor (T k).2.2.1 = some (z_ty ci k)) (hin : ∀ w ∈ u_ws C T (z_cN ci), w ∈ zWS)
    (h1 : Cond.classLink own index C ∈ zWS) (h2 : Cond.instantiable C (z_cN ci) ∈ zWS) (h3 : Cond.initialized C ∈ zWS) (hfs : ∀ j, j < z_cN ci → defaultValue (z_ty ci j) = z_val (z_nw σ (.inl ci)) (z_nx σ) j (z_kd ci j)) (hσ : z_nw σ (.inl ci) = σ') (hcells : cells + 1 ≤ R.cells) (hslots : slots + z_cN ci ≤ R.slots) (hdg : decode cc pc = .ok (.new index, 3))
    (kk : ∀ (H : Heap), z_Ok D cA bs s σ' H locs → W p l e R s m args below meth c H locs (cells + 1) (slots + z_cN ci) Q (F0 m (pc + 3) ls (.ref (z_nx σ) :: rest))) : W p l e R s m args below meth c H locs cells slots Q (F0 m pc ls rest) := by
  subst hσ
  obtain ⟨hx, hb, hml, hown, hts, -, -, hKT, -⟩ := B
  have hKn := hKT.1.1 ci _ hcl
  refine W.newcK hx hb hown (hts _ h1) (hts _ h2) (hts _ h3) rfl hdg hcells hslots hKn.2.1 hW.1.1 fun H1 kC hkC e1 z1 o1 => ?_
  rw [← hW.1.1] at z1 o1
  refine kk H1 ⟨hW.1.new z1 o1 ⟨_, hcl, (u_born (z_ty ci) hts hin hKn hkC e1 hty).to fun j hj => ?_⟩, z_S_new hW.2 z1 o1⟩
  rw [hfs j hj]
  simp [vp_V, z_fs_get hj]
theorem z_newA {t : Nat} {atype : ArrayType} (B : z_B p s m args meth c D cA bs own cc nL ret) (hW : z_Ok D cA bs s σ H locs) (hat : (newarray.typeOf atype = .int ∧ t = 0) ∨ (newarray.typeOf atype = .byte ∧ t = 1)) (hw : Cond.arrayClass (newarray.typeOf atype) ∈ zWS)
    {n : Int32} {N : Nat} (hn : ¬ n < 0) (hN : n.toNatClampNeg = N) (hbytes : N * 8 ≤ 536870912) (hσ : z_nw σ (.inr (t, N)) = σ') (hcells : cells + 1 ≤ R.cells) (hslots : slots + N ≤ R.slots) (hdg : decode cc pc = .ok (.newarray atype, 2))
    (kk : ∀ (H : Heap), z_Ok D cA bs s σ' H locs → W p l e R s m args below meth c H locs (cells + 1) (slots + N) Q (F0 m (pc + 2) ls (.ref (z_nx σ) :: rest))) : W p l e R s m args below meth c H locs cells slots Q (F0 m pc ls (.int n :: rest)) := by
  subst hσ
  obtain ⟨hx, hb, hml, hown, hts, -, -, hKT, -⟩ := B
  have hbytes' : N * componentBytes (newarray.typeOf atype) ≤ 536870912 := by
    refine Nat.le_trans (Nat.mul_le_mul_left N ?_) hbytes
    rcases hat with ⟨h, -⟩ | ⟨h, -⟩ <;> rw [h] <;> decide
  refine va_newaK hx hb (hts _ hw) rfl hdg rfl hn hN hbytes' hcells hslots hW.1.1 fun H1 cB e1 z1 o1 hAr hNm => ?_
  rw [← hW.1.1] at z1 o1
  refine kk H1 ⟨hW.1.new z1 o1 ?_, z_S_new hW.2 z1 o1⟩
  rcases hat with ⟨h, rfl⟩ | ⟨h, rfl⟩
  · rw [h] at e1 hNm
    have ec : cB = cA 0 := Option.some.inj (hNm.symm.trans (hKT.1.2 0 _ rfl).2)
    subst ec
    refine e1.trans (congrArg some ?_)
    show _ = vp_cell _ (N, Sum.inl _)
    rw [vp_cell_i]
    congr 1
    funext b
    simp [z_I_nw, defaultValue]
  · rw [h] at e1 hNm
    have ec : cB = cA 1 := Option.some.inj (hNm.symm.trans (hKT.1.2 1 _ rfl).2)
    subst ec
    refine e1.trans (congrArg some ?_)
    show _ = vp_cell _ (N, Sum.inl _)
    rw [vp_cell_i]
    congr 1
    funext b
    simp [z_I_nw, defaultValue]
theorem z_newQ {t : Nat} {C : String} (B : z_B p s m args meth c D cA bs own cc nL ret) (hW : z_Ok D cA bs s σ H locs) (hat : (C = RX6 ∧ t = 3) ∨ (C = RX2 ∧ t = 4)) (hw : Cond.classLink own index C ∈ zWS)
    {n : Int32} {N : Nat} (hn : ¬ n < 0) (hN : n.toNatClampNeg = N) (hbytes : N * 4 ≤ 536870912) (hσ : z_nw σ (.inr (t, N)) = σ') (hcells : cells + 1 ≤ R.cells) (hslots : slots + N ≤ R.slots) (hdg : decode cc pc = .ok (.anewarray index, 3))
    (kk : ∀ (H : Heap), z_Ok D cA bs s σ' H locs → W p l e R s m args below meth c H locs (cells + 1) (slots + N) Q (F0 m (pc + 3) ls (.ref (z_nx σ) :: rest))) : W p l e R s m args below meth c H locs cells slots Q (F0 m pc ls (.int n :: rest)) := by
  subst hσ
  subst hN
  obtain ⟨hx, hb, hml, hown, hts, -, -, hKT, -⟩ := B
  have hover : va_AO C s := by rcases hat with ⟨rfl, -⟩ | ⟨rfl, -⟩; exact hKT.2.2.1; exact hKT.2.2.2
  refine W.anew hx hb hown (hts _ hw) (va_AO.use hover) rfl hdg rfl hn hbytes hcells hslots fun cB kA comp f1 f2 f3 f4 => ?_
  generalize hH1 : H.push ({ cls := cB, slots := Array.replicate n.toNatClampNeg .null, vm := .none } : Cell) = H1
  have z1 : H1.size = H.size + 1 := by rw [← hH1, Array.size_push]
  have e1 : H1[H.size]? = some (arrV cB n.toNatClampNeg (fun _ => .null)) := by rw [← hH1, Array.getElem?_push_size, ← arrV_new]
  have o1 : ∀ q : Nat, q < H.size → H1[q]? = H[q]? := fun q hq => by rw [← hH1, Array.getElem?_push, if_neg (Nat.ne_of_lt hq)]
  rw [show (Value.ref H.size) = .ref (z_nx σ) by rw [hW.1.1]]
  refine kk H1 ⟨hW.1.new z1 o1 ?_, z_S_new hW.2 z1 o1⟩
  rw [hW.1.1] at e1
  rcases hat with ⟨rfl, rfl⟩ | ⟨rfl, rfl⟩
  · obtain ⟨kA', comp', g1, g2, g3, g4⟩ := (hKT.1.2 3 _ rfl).2
    have ec : cB = cA 3 := Option.some.inj (f1.symm.trans g4)
    subst ec
    refine e1.trans (congrArg some ?_)
    show _ = vp_cell _ (n.toNatClampNeg, Sum.inr (Sum.inr (Sum.inr (Sum.inr _))))
    rw [vp_cell_q]
    congr 1
    funext b
    simp [z_R_nw, va_rf]
  · obtain ⟨kA', comp', g1, g2, g3, g4⟩ := (hKT.1.2 4 _ rfl).2
    have ec : cB = cA 4 := Option.some.inj (f1.symm.trans g4)
    subst ec
    refine e1.trans (congrArg some ?_)
    show _ = vp_cell _ (n.toNatClampNeg, Sum.inr (Sum.inr (Sum.inr (Sum.inr _))))
    rw [vp_cell_q]
    congr 1
    funext b
    simp [z_R_nw, va_rf]
end ROWS3
