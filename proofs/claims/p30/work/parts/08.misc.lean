/-- what a class's tables give for its objects' making -/
def z_NW (own : String) (index ci : Nat) : Prop := ∃ (C : String) (T : u_T), vwCl[ci]? = some (C, T, z_cN ci) ∧ (∀ k, k < z_cN ci → parseFieldDescriptor (T k).2.2.1 = some (z_ty ci k)) ∧ (∀ w ∈ u_ws C T (z_cN ci), w ∈ zWS) ∧ Cond.classLink own index C ∈ zWS ∧ Cond.instantiable C (z_cN ci) ∈ zWS ∧ Cond.initialized C ∈ zWS ∧ (List.range (z_cN ci)).all (fun j => match z_ty ci j with | .float => false | .double => false | _ => true) = true
theorem z_dfl {σ : zSt} {ci j : Nat} {t : zSh} (h : (match z_ty ci j with | .float => false | .double => false | _ => true) = true) : defaultValue (z_ty ci j) = z_val (z_nw σ t) (z_nx σ) j (z_kd ci j) := by
  unfold z_kd
  generalize z_ty ci j = ty at h
  cases ty <;> first | (cases h; done) | simp [defaultValue, z_kf, z_val, z_I_nw, z_J_nw, z_R_nw, va_rf]
def z_nl (n : Int32) (cap : Nat) : Bool := decide (¬ n < 0) && decide (n.toNatClampNeg ≤ cap)
theorem z_nl0 {n : Int32} {cap : Nat} (h : z_nl n cap = true) : ¬ n < 0 := by
  simp only [z_nl, Bool.and_eq_true, decide_eq_true_eq] at h
  exact h.1
theorem z_nl1 {n : Int32} {cap : Nat} (h : z_nl n cap = true) : n.toNatClampNeg ≤ cap := by
  simp only [z_nl, Bool.and_eq_true, decide_eq_true_eq] at h
  exact h.2
def z_MM (own : String) (index : Nat) (y : MethodName) (code : ByteArray) : Prop := Cond.methodLink own index y ∈ zWS ∧ Cond.static y ∈ zWS ∧ Cond.initialized "java/lang/Math" ∈ zWS ∧ Cond.code y code 2 (some .int) ∈ zWS
def z_CP (own : String) (index : Nat) : Prop := Cond.methodLink own index arraycopyName ∈ zWS ∧ Cond.native arraycopyName ∈ zWS ∧ Cond.static arraycopyName ∈ zWS ∧ Cond.initialized "java/lang/System" ∈ zWS
/-- ints of q0 from sp on laid into q1 from dp on -/
def z_cp (σ : zSt) (q0 q1 : Nat) (sp dp n : Int32) : zSt := (σ.1, σ.2.1, fun a j => if a = q1 then va_cpy (σ.2.2.1 q0) (σ.2.2.1 q1) sp.toNatClampNeg dp.toNatClampNeg n.toNatClampNeg j else σ.2.2.1 a j, σ.2.2.2.1, σ.2.2.2.2)
def z_cpg (q0 q1 : Nat) (sp dp n : Int32) (n0 n1 : Nat) : Bool := decide (¬ q0 = q1) && (decide (¬ sp < 0) && (decide (¬ dp < 0) && (decide (¬ n < 0) && (decide (sp.toNatClampNeg + n.toNatClampNeg ≤ n0) && decide (dp.toNatClampNeg + n.toNatClampNeg ≤ n1)))))
def vf_n64b (r : UInt64) : Bool := decide (r &&& 0x7fffffffffffffff ≤ 0x7ff0000000000000)
theorem vf_n64b_of {r : UInt64} (h : vf_n64b r = true) : vf_n64 r := by
  simp only [vf_n64b, decide_eq_true_eq] at h
  exact h
theorem z_tout {x : Int32} {lo hi : Int} (h : ∀ k : Int, lo ≤ k → k ≤ hi → ¬ x = Int32.ofInt k) : x.toInt < lo ∨ hi < x.toInt := by
  rcases Int.lt_or_le x.toInt lo with h1 | h1
  · exact Or.inl h1
  · rcases Int.lt_or_le hi x.toInt with h2 | h2
    · exact Or.inr h2
    · exact absurd (Int32.ofInt_toInt x).symm (h _ h1 h2)
section MISC
variable {p : Program} {l : Launch} {e : Env} {R : Room} {s : State} {m : MethodId} {args : Array Value} {below : List Frame} {meth : Method} {c : Code} {H : Heap} {locs : List Loc} {cells slots : Nat} {Q : State → Prop}
variable {D : va_G} {cA : Nat → ClassId} {bs : Nat} {own : String} {cc : ByteArray} {nL : Nat} {ret : Option FieldType} {σ σ' : zSt} {pc : Nat} {ls : Array Slot} {rest : List Value} {q ci k index : Nat}
theorem z_newOb (B : z_B p s m args meth c D cA bs own cc nL ret) (hW : z_Ok D cA bs s σ H locs) (F : z_NW own index ci) (hσ : z_nw σ (.inl ci) = σ') (hcells : cells + 1 ≤ R.cells) (hslots : slots + z_cN ci ≤ R.slots) (hdg : decode cc pc = .ok (.new index, 3))
    (kk : ∀ (H : Heap), z_Ok D cA bs s σ' H locs → W p l e R s m args below meth c H locs (cells + 1) (slots + z_cN ci) Q (F0 m (pc + 3) ls (.ref (z_nx σ) :: rest))) : W p l e R s m args below meth c H locs cells slots Q (F0 m pc ls rest) := by
  obtain ⟨C, T, h1, h2, h3, h4, h5, h6, h7⟩ := F
  exact z_newO B hW h1 h2 h3 h4 h5 h6 (fun j hj => z_dfl (List.all_eq_true.mp h7 j (List.mem_range.mpr hj))) hσ hcells hslots hdg kk
theorem z_copy {q0 q1 : Nat} {sp dp n : Int32} (B : z_B p s m args meth c D cA bs own cc nL ret) (hW : z_Ok D cA bs s σ H locs) (F : z_CP own index) (ho0 : z_ar σ q0 0 = true) (ho1 : z_ar σ q1 0 = true) (hg : z_cpg q0 q1 sp dp n (z_ln σ q0) (z_ln σ q1) = true) (hσ : z_cp σ q0 q1 sp dp n = σ') (hls : ls.size = nL)
    (hframes : 1 ≤ R.frames) (hlocals : (rest.map fun v => v.category).sum + (nativeFrameWords "java/lang/System" "arraycopy" 5 + 11) ≤ R.locals) (hdg : decode cc pc = .ok (.invokestatic index, 3))
    (kk : ∀ (H : Heap) (locs : List Loc), z_Ok D cA bs s σ' H locs → W p l e R s m args below meth c H locs cells slots Q (F0 m (pc + 3) ls rest)) : W p l e R s m args below meth c H locs cells slots Q (F0 m pc ls (.int n :: .int dp :: .ref q1 :: .int sp :: .ref q0 :: rest)) := by
  subst hσ
  simp only [z_cpg, Bool.and_eq_true, decide_eq_true_eq] at hg
  obtain ⟨hne, h1, h2, h3, h4, h5⟩ := hg
  obtain ⟨hx, hb, hml, hown, hts, -, -, hKT, -⟩ := B
  have hK := hKT.1
  have nn : ∀ z : Int32, ¬ z < 0 → z.toInt = (z.toNatClampNeg : Int) := by
    intro z hz
    have hz0 : (0 : Int) ≤ z.toInt := by
      have := Int32.not_lt.mp hz
      simpa using Int32.le_iff_toInt_le.mp this
    show z.toInt = ((z.toInt.toNat : Nat) : Int)
    omega
  have hs0 := z_ar_sh ho0
  have hs1 := z_ar_sh ho1
  intro T hT X
  have hc0 : H[q0]? = some (vp_cell (cA 0) (z_ln σ q0, .inl (z_I σ q0))) := (hW.1.2.2 q0 _ hs0).2
  have hc1 : H[q1]? = some (vp_cell (cA 0) (z_ln σ q1, .inl (z_I σ q1))) := (hW.1.2.2 q1 _ hs1).2
  obtain ⟨-, k0, hk0, cm0, hkk0⟩ := (hK.2 0 _ rfl).1 (z_ln σ q0) (fun j => .int (z_I σ q0 j))
  obtain ⟨vm', X', step⟩ := X.arraycopy hx hown (hts _ F.1) (hts _ F.2.1) (hts _ F.2.2.1) (hts _ F.2.2.2) (src := q0) (dst := q1) (cs := vp_cell (cA 0) (z_ln σ q0, .inl (z_I σ q0))) (cd := vp_cell (cA 0) (z_ln σ q1, .inl (z_I σ q1))) (srcPos := sp) (destPos := dp) (n := n) (by rw [hT]; exact hc0) (by rw [hT]; exact hc1)
    (fun _ h => by cases h) (fun _ h => by cases h) (fun h => by cases h) (fun h => by cases h) hk0 hk0 hkk0 hkk0 (by simp [refKind]) h1 h2 h3
    (by rw [nn sp h1, nn n h3]; show ¬ _ > ((arrV (cA 0) (z_ln σ q0) (fun j => .int (z_I σ q0 j))).slots.size : Int); rw [arrV_size]; omega)
    (by rw [nn dp h2, nn n h3]; show ¬ _ > ((arrV (cA 0) (z_ln σ q1) (fun j => .int (z_I σ q1 j))).slots.size : Int); rw [arrV_size]; omega)
    (fun vm₁ _ i hi => by
      have e1 : (vp_cell (cA 0) (z_ln σ q0, .inl (z_I σ q0))).slots.getD (sp.toNatClampNeg + i) .null = .int (z_I σ q0 (sp.toNatClampNeg + i)) := by
        show (arrV (cA 0) (z_ln σ q0) (fun j => .int (z_I σ q0 j))).slots.getD _ _ = _
        rw [Array.getD_eq_getD_getElem?, arrV_read _ _ (by omega)]
        rfl
      refine ⟨?_, ?_⟩
      · rw [e1]
        rfl
      · rw [e1]
        exact trivial)
    (g := F0 m pc ls (.int n :: .int dp :: .ref q1 :: .int sp :: .ref q0 :: rest)) rfl (by rw [hml]; exact hls) (rest := rest) rfl (by rw [hb]; exact hdg) hframes (by show 2 * 0 + _ + _ ≤ _; omega)
  have e1 : copied (vp_cell (cA 0) (z_ln σ q0, .inl (z_I σ q0))) (vp_cell (cA 0) (z_ln σ q1, .inl (z_I σ q1))) sp dp n = vp_cell (cA 0) (z_ln σ q1, .inl (va_cpy (z_I σ q0) (z_I σ q1) sp.toNatClampNeg dp.toNatClampNeg n.toNatClampNeg)) := va_copied (fun z => .int z) (cA 0) (cA 0) (z_I σ q0) (z_I σ q1) h4
  rw [e1] at X' step
  have hl : q1 < H.size := (Array.getElem?_eq_some_iff.mp hc1).1
  have hheap : ((T.setVm vm').setCell q1 (vp_cell (cA 0) (z_ln σ q1, .inl (va_cpy (z_I σ q0) (z_I σ q1) sp.toNatClampNeg dp.toNatClampNeg n.toNatClampNeg)))).heap = H.setIfInBounds q1 (vp_cell (cA 0) (z_ln σ q1, .inl (va_cpy (z_I σ q0) (z_I σ q1) sp.toNatClampNeg dp.toNatClampNeg n.toNatClampNeg))) := by rw [← hT]; rfl
  have oq : ∀ a : Nat, a ≠ q1 → (H.setIfInBounds q1 (vp_cell (cA 0) (z_ln σ q1, .inl (va_cpy (z_I σ q0) (z_I σ q1) sp.toNatClampNeg dp.toNatClampNeg n.toNatClampNeg))))[a]? = H[a]? := fun a ha => by simp [Array.getElem?_setIfInBounds, Ne.symm ha]
  have hI : z_I (z_cp σ q0 q1 sp dp n) q1 = va_cpy (z_I σ q0) (z_I σ q1) sp.toNatClampNeg dp.toNatClampNeg n.toNatClampNeg := by
    funext b
    show (if q1 = q1 then _ else _) = _
    rw [if_pos rfl]
    rfl
  have hO : ∀ a t, a ≠ q1 → z_cell cA (z_cp σ q0 q1 sp dp n) a t = z_cell cA σ a t := fun a t ha => z_cell_ext (σ := σ) (σ' := z_cp σ q0 q1 sp dp n) (by
    funext b
    show (if a = q1 then _ else σ.2.2.1 a b) = σ.2.2.1 a b
    rw [if_neg ha]) rfl rfl t
  obtain ⟨t, a1, b1⟩ := kk _ _ ⟨z_Wd.put hW.1 hs1 rfl rfl (by simp) oq hO (by
      show (H.setIfInBounds q1 _)[q1]? = some (vp_cell _ (_, Sum.inl (z_I (z_cp σ q0 q1 sp dp n) q1)))
      rw [hI]
      simp [Array.getElem?_setIfInBounds, hl]), ⟨by simp; exact hW.2.1, fun a g1 g2 => by
      rw [oq a (fun e => g2 (by rw [e]; exact (hW.1.2.2 q1 _ hs1).1))]
      exact hW.2.2.1 a g1 g2, fun a ha => by
      rcases List.mem_append.mp ha with h | h
      · exact hW.2.2.2 a h
      · obtain ⟨z, -, hz⟩ := List.mem_map.mp h
        rw [← hz]
        exact (hW.1.2.2 q1 _ hs1).1⟩⟩ _ hheap X'
  exact ⟨t, step t a1, b1⟩
end MISC
