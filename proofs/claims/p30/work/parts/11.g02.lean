section GEN
variable {p : Program} {l : Launch} {e : Env} {s : State} {m : MethodId} {args : Array Value} {below : List Frame} {meth : Method} {c : Code} {D : va_G} {cA : Nat → ClassId} {bs : Nat}
set_option maxRecDepth 100000 in
def f_X2_init (σ : zSt) (l0 : Nat) : Option (zSt) :=
(zl (z_nw σ (.inr (3, 8))) (fun σ1 => (if z_ob σ1 l0 2 then (zl (z_pR σ1 l0 0 (some (z_nx σ))) (fun σ4 => (zl (z_nw σ4 (.inl 3)) (fun σ6 => (zb (f_X3_init σ6 (z_nx σ4)) (fun σ9 => (if z_ob σ9 l0 2 then (zl (z_pR σ9 l0 1 (some (z_nx σ4))) (fun σ11 => (zl (z_nw σ11 (.inl 4)) (fun σ13 => (zb (f_X4_init σ13 (z_nx σ11)) (fun σ16 => (if z_ob σ16 l0 2 then (zl (z_pR σ16 l0 2 (some (z_nx σ11))) (fun σ18 => (zl (z_nw σ18 (.inl 0)) (fun σ20 => (zb (f_X0_init σ20 (z_nx σ18)) (fun r23 => (if z_ob σ20 l0 2 then (zl (z_pR σ20 l0 3 (some (z_nx σ18))) (fun σ25 => (zl (z_nw σ25 (.inl 7)) (fun σ27 => (zb (f_X7_init σ27 (z_nx σ25) (40 : Int32) (4 : Int32)) (fun σ30 => (if z_ob σ30 l0 2 then (zl (z_pR σ30 l0 4 (some (z_nx σ25))) (fun σ32 => (if z_ob σ32 l0 2 then (zl (z_pI σ32 l0 6 (60 : Int32)) (fun σ35 => (if z_ob σ35 l0 2 then (zl (z_pI σ35 l0 7 (4 : Int32)) (fun σ38 => (if z_ob σ38 l0 2 then (zl (z_pI σ38 l0 8 (3 : Int32)) (fun σ41 => (if z_ob σ41 l0 2 then (zl (z_pI σ41 l0 10 (-1 : Int32)) (fun σ44 => (if z_ob σ44 l0 2 then (zc (z_R σ44 l0 0) none (fun q47 => (if z_ar σ44 q47 3 then (if (Int32.ofNat (z_ln σ44 q47)) ≤ (0 : Int32) then
(some σ44)
else
(zc (z_R σ44 l0 0) none (fun q50 => (zl (z_nw σ44 (.inl 6)) (fun σ52 => (zb (f_X6_init σ52 (z_nx σ44)) (fun r55 => (if z_ar σ52 q50 3 then (if z_ix (0 : Int32) (z_ln σ52 q50) then (if z_ob σ52 (z_nx σ44) 6 then (zl (z_pR σ52 q50 (0 : Int32).toNatClampNeg (some (z_nx σ44))) (fun σ59 => (if z_ob σ59 l0 2 then (zc (z_R σ59 l0 0) none (fun q62 => (if z_ar σ59 q62 3 then (if (Int32.ofNat (z_ln σ59 q62)) ≤ (1 : Int32) then
(some σ59)
else
(zc (z_R σ59 l0 0) none (fun q65 => (zl (z_nw σ59 (.inl 6)) (fun σ67 => (zb (f_X6_init σ67 (z_nx σ59)) (fun r70 => (if z_ar σ67 q65 3 then (if z_ix (1 : Int32) (z_ln σ67 q65) then (if z_ob σ67 (z_nx σ59) 6 then (zl (z_pR σ67 q65 (1 : Int32).toNatClampNeg (some (z_nx σ59))) (fun σ74 => (if z_ob σ74 l0 2 then (zc (z_R σ74 l0 0) none (fun q77 => (if z_ar σ74 q77 3 then (if (Int32.ofNat (z_ln σ74 q77)) ≤ (2 : Int32) then
(some σ74)
else
(zc (z_R σ74 l0 0) none (fun q80 => (zl (z_nw σ74 (.inl 6)) (fun σ82 => (zb (f_X6_init σ82 (z_nx σ74)) (fun r85 => (if z_ar σ82 q80 3 then (if z_ix (2 : Int32) (z_ln σ82 q80) then (if z_ob σ82 (z_nx σ74) 6 then (zl (z_pR σ82 q80 (2 : Int32).toNatClampNeg (some (z_nx σ74))) (fun σ89 => (if z_ob σ89 l0 2 then (zc (z_R σ89 l0 0) none (fun q92 => (if z_ar σ89 q92 3 then (if (Int32.ofNat (z_ln σ89 q92)) ≤ (3 : Int32) then
(some σ89)
else
(zc (z_R σ89 l0 0) none (fun q95 => (zl (z_nw σ89 (.inl 6)) (fun σ97 => (zb (f_X6_init σ97 (z_nx σ89)) (fun r100 => (if z_ar σ97 q95 3 then (if z_ix (3 : Int32) (z_ln σ97 q95) then (if z_ob σ97 (z_nx σ89) 6 then (zl (z_pR σ97 q95 (3 : Int32).toNatClampNeg (some (z_nx σ89))) (fun σ104 => (if z_ob σ104 l0 2 then (zc (z_R σ104 l0 0) none (fun q107 => (if z_ar σ104 q107 3 then (if (Int32.ofNat (z_ln σ104 q107)) ≤ (4 : Int32) then
(some σ104)
else
(zc (z_R σ104 l0 0) none (fun q110 => (zl (z_nw σ104 (.inl 6)) (fun σ112 => (zb (f_X6_init σ112 (z_nx σ104)) (fun r115 => (if z_ar σ112 q110 3 then (if z_ix (4 : Int32) (z_ln σ112 q110) then (if z_ob σ112 (z_nx σ104) 6 then (zl (z_pR σ112 q110 (4 : Int32).toNatClampNeg (some (z_nx σ104))) (fun σ119 => (if z_ob σ119 l0 2 then (zc (z_R σ119 l0 0) none (fun q122 => (if z_ar σ119 q122 3 then (if (Int32.ofNat (z_ln σ119 q122)) ≤ (5 : Int32) then
(some σ119)
else
(zc (z_R σ119 l0 0) none (fun q125 => (zl (z_nw σ119 (.inl 6)) (fun σ127 => (zb (f_X6_init σ127 (z_nx σ119)) (fun r130 => (if z_ar σ127 q125 3 then (if z_ix (5 : Int32) (z_ln σ127 q125) then (if z_ob σ127 (z_nx σ119) 6 then (zl (z_pR σ127 q125 (5 : Int32).toNatClampNeg (some (z_nx σ119))) (fun σ134 => (if z_ob σ134 l0 2 then (zc (z_R σ134 l0 0) none (fun q137 => (if z_ar σ134 q137 3 then (if (Int32.ofNat (z_ln σ134 q137)) ≤ (6 : Int32) then
(some σ134)
else
(zc (z_R σ134 l0 0) none (fun q140 => (zl (z_nw σ134 (.inl 6)) (fun σ142 => (zb (f_X6_init σ142 (z_nx σ134)) (fun r145 => (if z_ar σ142 q140 3 then (if z_ix (6 : Int32) (z_ln σ142 q140) then (if z_ob σ142 (z_nx σ134) 6 then (zl (z_pR σ142 q140 (6 : Int32).toNatClampNeg (some (z_nx σ134))) (fun σ149 => (if z_ob σ149 l0 2 then (zc (z_R σ149 l0 0) none (fun q152 => (if z_ar σ149 q152 3 then (if (Int32.ofNat (z_ln σ149 q152)) ≤ (7 : Int32) then
(some σ149)
else
(zc (z_R σ149 l0 0) none (fun q155 => (zl (z_nw σ149 (.inl 6)) (fun σ157 => (zb (f_X6_init σ157 (z_nx σ149)) (fun r160 => (if z_ar σ157 q155 3 then (if z_ix (7 : Int32) (z_ln σ157 q155) then (if z_ob σ157 (z_nx σ149) 6 then (zl (z_pR σ157 q155 (7 : Int32).toNatClampNeg (some (z_nx σ149))) (fun σ164 => (if z_ob σ164 l0 2 then (zc (z_R σ164 l0 0) none (fun q167 => (if z_ar σ164 q167 3 then (if (Int32.ofNat (z_ln σ164 q167)) ≤ (8 : Int32) then
(some σ164)
else
(zc (z_R σ164 l0 0) none (fun q170 => (zl (z_nw σ164 (.inl 6)) (fun σ172 => (zb (f_X6_init σ172 (z_nx σ164)) (fun r175 => (if z_ar σ172 q170 3 then (if z_ix (8 : Int32) (z_ln σ172 q170) then (if z_ob σ172 (z_nx σ164) 6 then (zl (z_pR σ172 q170 (8 : Int32).toNatClampNeg (some (z_nx σ164))) (fun σ179 => none)) else none) else none) else none)))))))) else none))) else none))) else none) else none) else none)))))))) else none))) else none))) else none) else none) else none)))))))) else none))) else none))) else none) else none) else none)))))))) else none))) else none))) else none) else none) else none)))))))) else none))) else none))) else none) else none) else none)))))))) else none))) else none))) else none) else none) else none)))))))) else none))) else none))) else none) else none) else none)))))))) else none))) else none))) else none) else none) else none)))))))) else none))) else none))) else none))) else none))) else none))) else none))) else none))))))) else none))))))) else none))))))) else none))))))) else none)))
set_option maxRecDepth 20000 in
set_option maxHeartbeats 4000000 in
theorem K_X2_init {σ : zSt} {l0 : Nat}  {σ' : zSt} (hf : f_X2_init σ l0 = some σ') : z_M l D cA bs yX2_init cX2_init 2 none 3 67 19 1348 [.ref l0] σ (z_Qv D cA bs σ') := by
  refine z_met (own := RX2) (lv := [(0, .ref l0)]) (by decide) rfl (Nat.le_of_ble_eq_true rfl) rfl (fun p e s m below meth c ls B hnm hW hl => ?_)
  have hx := B.1
  have hb := B.2.1
  have hown := B.2.2.2.1
  have hts := B.2.2.2.2.1
  unfold f_X2_init at hf
  refine lv_aload_n hx hb dX2_init_0 rfl (lv_at hl 0 rfl) ?_
  refine W.objInit hx hb hown (hts _ zoi_X2_3) (hts _ zoi_a) (hts _ zoi_b) rfl (by rw [B.2.2.1]; exact hl.1) rfl dX2_init_1 (Nat.le_of_ble_eq_true rfl) (Nat.le_of_ble_eq_true rfl) ?_
  refine W.eq (g2 := F0 m 4 ls []) rfl ?_
  refine lv_aload_n hx hb dX2_init_4 rfl (lv_at hl 0 rfl) ?_
  refine lv_bipush (v := (8 : Int32)) hx hb dX2_init_5 (by decide) ?_
  obtain ⟨σ1, hs2, hf⟩ := z_l hf
  refine z_newQ B hW (by decide) zcl_X2_9 (N := 8) (by decide) (by decide) (by decide) hs2 (Nat.le_of_ble_eq_true rfl) (Nat.le_of_ble_eq_true rfl) dX2_init_7 (fun H hW => ?_)
  obtain ⟨hg3, hf⟩ := z_g hf
  obtain ⟨σ4, hs5, hf⟩ := z_l hf
  refine z_putRF B hnm hW zf_X2_11 (fun C T h => by cases h; rfl) rfl hg3 (v := (some (z_nx σ))) hs5 dX2_init_10 (fun H locs hW => ?_)
  refine lv_aload_n hx hb dX2_init_13 rfl (lv_at hl 0 rfl) ?_
  obtain ⟨σ6, hs7, hf⟩ := z_l hf
  refine z_newOb B hW zw_X2_17 hs7 (Nat.le_of_ble_eq_true rfl) (Nat.le_of_ble_eq_true rfl) dX2_init_14 (fun H hW => ?_)
  refine lv_dup hx hb dX2_init_17 rfl ?_
  obtain ⟨σ9, hq8, hf⟩ := z_b hf
  refine z_cv hW (z_runIN (As := []) (rest := [.ref (z_nx σ4), .ref l0]) B hW zv_X2_19 (K_X3_init hq8) rfl rfl (Nat.le_of_ble_eq_true rfl) hl.1 ⟨Nat.le_of_ble_eq_true rfl, Nat.le_of_ble_eq_true rfl⟩ dX2_init_18 ⟨Nat.le_of_ble_eq_true rfl, Nat.le_of_ble_eq_true rfl⟩) (fun H locs hW => ?_)
  obtain ⟨hg10, hf⟩ := z_g hf
  obtain ⟨σ11, hs12, hf⟩ := z_l hf
  refine z_putRF B hnm hW zf_X2_20 (fun C T h => by cases h; rfl) rfl hg10 (v := (some (z_nx σ4))) hs12 dX2_init_21 (fun H locs hW => ?_)
  refine lv_aload_n hx hb dX2_init_24 rfl (lv_at hl 0 rfl) ?_
  obtain ⟨σ13, hs14, hf⟩ := z_l hf
  refine z_newOb B hW zw_X2_24 hs14 (Nat.le_of_ble_eq_true rfl) (Nat.le_of_ble_eq_true rfl) dX2_init_25 (fun H hW => ?_)
  refine lv_dup hx hb dX2_init_28 rfl ?_
  obtain ⟨σ16, hq15, hf⟩ := z_b hf
  refine z_cv hW (z_runIN (As := []) (rest := [.ref (z_nx σ11), .ref l0]) B hW zv_X2_26 (K_X4_init hq15) rfl rfl (Nat.le_of_ble_eq_true rfl) hl.1 ⟨Nat.le_of_ble_eq_true rfl, Nat.le_of_ble_eq_true rfl⟩ dX2_init_29 ⟨Nat.le_of_ble_eq_true rfl, Nat.le_of_ble_eq_true rfl⟩) (fun H locs hW => ?_)
  obtain ⟨hg17, hf⟩ := z_g hf
  obtain ⟨σ18, hs19, hf⟩ := z_l hf
  refine z_putRF B hnm hW zf_X2_27 (fun C T h => by cases h; rfl) rfl hg17 (v := (some (z_nx σ11))) hs19 dX2_init_32 (fun H locs hW => ?_)
  refine lv_aload_n hx hb dX2_init_35 rfl (lv_at hl 0 rfl) ?_
  obtain ⟨σ20, hs21, hf⟩ := z_l hf
  refine z_newOb B hW zw_X2_31 hs21 (Nat.le_of_ble_eq_true rfl) (Nat.le_of_ble_eq_true rfl) dX2_init_36 (fun H hW => ?_)
  refine lv_dup hx hb dX2_init_39 rfl ?_
  obtain ⟨r23, hq22, hf⟩ := z_b hf
  refine z_cv hW (z_runIN (As := []) (rest := [.ref (z_nx σ18), .ref l0]) B hW zv_X2_33 (K_X0_init hq22) rfl rfl (Nat.le_of_ble_eq_true rfl) hl.1 ⟨Nat.le_of_ble_eq_true rfl, Nat.le_of_ble_eq_true rfl⟩ dX2_init_40 ⟨Nat.le_of_ble_eq_true rfl, Nat.le_of_ble_eq_true rfl⟩) (fun H locs hW => ?_)
  obtain ⟨hg24, hf⟩ := z_g hf
  obtain ⟨σ25, hs26, hf⟩ := z_l hf
  refine z_putRF B hnm hW zf_X2_34 (fun C T h => by cases h; rfl) rfl hg24 (v := (some (z_nx σ18))) hs26 dX2_init_43 (fun H locs hW => ?_)
  refine lv_aload_n hx hb dX2_init_46 rfl (lv_at hl 0 rfl) ?_
  obtain ⟨σ27, hs28, hf⟩ := z_l hf
  refine z_newOb B hW zw_X2_38 hs28 (Nat.le_of_ble_eq_true rfl) (Nat.le_of_ble_eq_true rfl) dX2_init_47 (fun H hW => ?_)
  refine lv_dup hx hb dX2_init_50 rfl ?_
  refine lv_bipush (v := (40 : Int32)) hx hb dX2_init_51 (by decide) ?_
  refine lv_iconst (v := (4 : Int32)) hx hb dX2_init_53 (by decide) ?_
  obtain ⟨σ30, hq29, hf⟩ := z_b hf
  refine z_cv hW (z_runI (As := [.int (40 : Int32), .int (4 : Int32)]) (rest := [.ref (z_nx σ25), .ref l0]) B hW zv_X2_40 (K_X7_init hq29) rfl rfl (Nat.le_of_ble_eq_true rfl) hl.1 ⟨Nat.le_of_ble_eq_true rfl, Nat.le_of_ble_eq_true rfl⟩ dX2_init_54 ⟨Nat.le_of_ble_eq_true rfl, Nat.le_of_ble_eq_true rfl⟩) (fun H locs hW => ?_)
  obtain ⟨hg31, hf⟩ := z_g hf
  obtain ⟨σ32, hs33, hf⟩ := z_l hf
  refine z_putRF B hnm hW zf_X2_43 (fun C T h => by cases h; rfl) rfl hg31 (v := (some (z_nx σ25))) hs33 dX2_init_57 (fun H locs hW => ?_)
  refine lv_aload_n hx hb dX2_init_60 rfl (lv_at hl 0 rfl) ?_
  refine lv_bipush (v := (60 : Int32)) hx hb dX2_init_61 (by decide) ?_
  obtain ⟨hg34, hf⟩ := z_g hf
  obtain ⟨σ35, hs36, hf⟩ := z_l hf
  refine z_putI B hW zf_X2_47 hg34 rfl hs36 dX2_init_63 (fun H locs hW => ?_)
  refine lv_aload_n hx hb dX2_init_66 rfl (lv_at hl 0 rfl) ?_
  refine lv_iconst (v := (4 : Int32)) hx hb dX2_init_67 (by decide) ?_
  obtain ⟨hg37, hf⟩ := z_g hf
  obtain ⟨σ38, hs39, hf⟩ := z_l hf
  refine z_putI B hW zf_X2_51 hg37 rfl hs39 dX2_init_68 (fun H locs hW => ?_)
  refine lv_aload_n hx hb dX2_init_71 rfl (lv_at hl 0 rfl) ?_
  refine lv_iconst (v := (3 : Int32)) hx hb dX2_init_72 (by decide) ?_
  obtain ⟨hg40, hf⟩ := z_g hf
  obtain ⟨σ41, hs42, hf⟩ := z_l hf
  refine z_putI B hW zf_X2_54 hg40 rfl hs42 dX2_init_73 (fun H locs hW => ?_)
  refine lv_aload_n hx hb dX2_init_76 rfl (lv_at hl 0 rfl) ?_
  refine lv_iconst (v := (-1 : Int32)) hx hb dX2_init_77 (by decide) ?_
  obtain ⟨hg43, hf⟩ := z_g hf
  obtain ⟨σ44, hs45, hf⟩ := z_l hf
  refine z_putI B hW zf_X2_57 hg43 rfl hs45 dX2_init_78 (fun H locs hW => ?_)
  refine lv_iconst (v := (0 : Int32)) hx hb dX2_init_81 (by decide) ?_
  refine lv_istore_n (lv' := [(1, .int (0 : Int32)), (0, .ref l0)]) hx hb dX2_init_82 rfl hl (by decide) rfl (fun ls hl => ?_)
  refine lv_iload_n hx hb dX2_init_83 rfl (lv_at hl 0 rfl) ?_
  refine lv_aload_n hx hb dX2_init_84 rfl (lv_at hl 1 rfl) ?_
  obtain ⟨hg46, hf⟩ := z_g hf
  obtain ⟨q47, hv48, hf⟩ := z_nn hf
  refine z_getN B hW (Or.inr zf_X2_11) rfl hg46 hv48 dX2_init_85 ?_
  obtain ⟨hg49, hf⟩ := z_g hf
  refine z_alen (t := 3) (by decide) B hW hg49 dX2_init_88 ?_
  refine lv_icmp_ge (tgt := 111) hx hb dX2_init_89 (by decide) (fun hc189 => ?_) (fun hc189 => ?_)
  · replace hf := z_ip hc189 hf
    obtain rfl := z_e1 hf
    exact z_rv B hW dX2_init_111 (Nat.le_of_ble_eq_true rfl) (Nat.le_of_ble_eq_true rfl)
  · replace hf := z_in hc189 hf
    refine lv_aload_n hx hb dX2_init_92 rfl (lv_at hl 1 rfl) ?_
    obtain ⟨q50, hv51, hf⟩ := z_nn hf
    refine z_getN B hW (Or.inr zf_X2_11) rfl hg46 hv51 dX2_init_93 ?_
    refine lv_iload_n hx hb dX2_init_96 rfl (lv_at hl 0 rfl) ?_
    obtain ⟨σ52, hs53, hf⟩ := z_l hf
    refine z_newOb B hW zw_X2_9 hs53 (Nat.le_of_ble_eq_true rfl) (Nat.le_of_ble_eq_true rfl) dX2_init_97 (fun H hW => ?_)
    refine lv_dup hx hb dX2_init_100 rfl ?_
    obtain ⟨r55, hq54, hf⟩ := z_b hf
    refine z_cv hW (z_runIN (As := []) (rest := [.ref (z_nx σ44), .int (0 : Int32), .ref q50]) B hW zv_X2_60 (K_X6_init hq54) rfl rfl (Nat.le_of_ble_eq_true rfl) hl.1 ⟨Nat.le_of_ble_eq_true rfl, Nat.le_of_ble_eq_true rfl⟩ dX2_init_101 ⟨Nat.le_of_ble_eq_true rfl, Nat.le_of_ble_eq_true rfl⟩) (fun H locs hW => ?_)
    obtain ⟨hg56, hf⟩ := z_g hf
    obtain ⟨hg57, hf⟩ := z_g hf
    obtain ⟨hg58, hf⟩ := z_g hf
    obtain ⟨σ59, hs60, hf⟩ := z_l hf
    refine z_aast (by decide) B hW hg56 hg57 hg58 hs60 dX2_init_104 (fun H locs hW => ?_)
    refine lv_iinc (v := (1 : Int32)) (lv' := [(1, .int (1 : Int32)), (0, .ref l0)]) hx hb dX2_init_105 hl (k := 0) rfl (by decide) (by decide) rfl (fun ls hl => ?_)
    refine lv_goto (tgt := 83) hx hb dX2_init_108 (by decide) ?_
    refine lv_iload_n hx hb dX2_init_83 rfl (lv_at hl 0 rfl) ?_
    refine lv_aload_n hx hb dX2_init_84 rfl (lv_at hl 1 rfl) ?_
    obtain ⟨hg61, hf⟩ := z_g hf
    obtain ⟨q62, hv63, hf⟩ := z_nn hf
    refine z_getN B hW (Or.inr zf_X2_11) rfl hg61 hv63 dX2_init_85 ?_
    obtain ⟨hg64, hf⟩ := z_g hf
    refine z_alen (t := 3) (by decide) B hW hg64 dX2_init_88 ?_
    refine lv_icmp_ge (tgt := 111) hx hb dX2_init_89 (by decide) (fun hc188 => ?_) (fun hc188 => ?_)
    · replace hf := z_ip hc188 hf
      obtain rfl := z_e1 hf
      exact z_rv B hW dX2_init_111 (Nat.le_of_ble_eq_true rfl) (Nat.le_of_ble_eq_true rfl)
    · replace hf := z_in hc188 hf
      refine lv_aload_n hx hb dX2_init_92 rfl (lv_at hl 1 rfl) ?_
      obtain ⟨q65, hv66, hf⟩ := z_nn hf
      refine z_getN B hW (Or.inr zf_X2_11) rfl hg61 hv66 dX2_init_93 ?_
      refine lv_iload_n hx hb dX2_init_96 rfl (lv_at hl 0 rfl) ?_
      obtain ⟨σ67, hs68, hf⟩ := z_l hf
      refine z_newOb B hW zw_X2_9 hs68 (Nat.le_of_ble_eq_true rfl) (Nat.le_of_ble_eq_true rfl) dX2_init_97 (fun H hW => ?_)
      refine lv_dup hx hb dX2_init_100 rfl ?_
      obtain ⟨r70, hq69, hf⟩ := z_b hf
      refine z_cv hW (z_runIN (As := []) (rest := [.ref (z_nx σ59), .int (1 : Int32), .ref q65]) B hW zv_X2_60 (K_X6_init hq69) rfl rfl (Nat.le_of_ble_eq_true rfl) hl.1 ⟨Nat.le_of_ble_eq_true rfl, Nat.le_of_ble_eq_true rfl⟩ dX2_init_101 ⟨Nat.le_of_ble_eq_true rfl, Nat.le_of_ble_eq_true rfl⟩) (fun H locs hW => ?_)
      obtain ⟨hg71, hf⟩ := z_g hf
      obtain ⟨hg72, hf⟩ := z_g hf
      obtain ⟨hg73, hf⟩ := z_g hf
      obtain ⟨σ74, hs75, hf⟩ := z_l hf
      refine z_aast (by decide) B hW hg71 hg72 hg73 hs75 dX2_init_104 (fun H locs hW => ?_)
      refine lv_iinc (v := (2 : Int32)) (lv' := [(1, .int (2 : Int32)), (0, .ref l0)]) hx hb dX2_init_105 hl (k := 0) rfl (by decide) (by decide) rfl (fun ls hl => ?_)
      refine lv_goto (tgt := 83) hx hb dX2_init_108 (by decide) ?_
      refine lv_iload_n hx hb dX2_init_83 rfl (lv_at hl 0 rfl) ?_
      refine lv_aload_n hx hb dX2_init_84 rfl (lv_at hl 1 rfl) ?_
      obtain ⟨hg76, hf⟩ := z_g hf
      obtain ⟨q77, hv78, hf⟩ := z_nn hf
      refine z_getN B hW (Or.inr zf_X2_11) rfl hg76 hv78 dX2_init_85 ?_
      obtain ⟨hg79, hf⟩ := z_g hf
      refine z_alen (t := 3) (by decide) B hW hg79 dX2_init_88 ?_
      refine lv_icmp_ge (tgt := 111) hx hb dX2_init_89 (by decide) (fun hc187 => ?_) (fun hc187 => ?_)
      · replace hf := z_ip hc187 hf
        obtain rfl := z_e1 hf
        exact z_rv B hW dX2_init_111 (Nat.le_of_ble_eq_true rfl) (Nat.le_of_ble_eq_true rfl)
      · replace hf := z_in hc187 hf
        refine lv_aload_n hx hb dX2_init_92 rfl (lv_at hl 1 rfl) ?_
        obtain ⟨q80, hv81, hf⟩ := z_nn hf
        refine z_getN B hW (Or.inr zf_X2_11) rfl hg76 hv81 dX2_init_93 ?_
        refine lv_iload_n hx hb dX2_init_96 rfl (lv_at hl 0 rfl) ?_
        obtain ⟨σ82, hs83, hf⟩ := z_l hf
        refine z_newOb B hW zw_X2_9 hs83 (Nat.le_of_ble_eq_true rfl) (Nat.le_of_ble_eq_true rfl) dX2_init_97 (fun H hW => ?_)
        refine lv_dup hx hb dX2_init_100 rfl ?_
        obtain ⟨r85, hq84, hf⟩ := z_b hf
        refine z_cv hW (z_runIN (As := []) (rest := [.ref (z_nx σ74), .int (2 : Int32), .ref q80]) B hW zv_X2_60 (K_X6_init hq84) rfl rfl (Nat.le_of_ble_eq_true rfl) hl.1 ⟨Nat.le_of_ble_eq_true rfl, Nat.le_of_ble_eq_true rfl⟩ dX2_init_101 ⟨Nat.le_of_ble_eq_true rfl, Nat.le_of_ble_eq_true rfl⟩) (fun H locs hW => ?_)
        obtain ⟨hg86, hf⟩ := z_g hf
        obtain ⟨hg87, hf⟩ := z_g hf
        obtain ⟨hg88, hf⟩ := z_g hf
        obtain ⟨σ89, hs90, hf⟩ := z_l hf
        refine z_aast (by decide) B hW hg86 hg87 hg88 hs90 dX2_init_104 (fun H locs hW => ?_)
        refine lv_iinc (v := (3 : Int32)) (lv' := [(1, .int (3 : Int32)), (0, .ref l0)]) hx hb dX2_init_105 hl (k := 0) rfl (by decide) (by decide) rfl (fun ls hl => ?_)
        refine lv_goto (tgt := 83) hx hb dX2_init_108 (by decide) ?_
        refine lv_iload_n hx hb dX2_init_83 rfl (lv_at hl 0 rfl) ?_
        refine lv_aload_n hx hb dX2_init_84 rfl (lv_at hl 1 rfl) ?_
        obtain ⟨hg91, hf⟩ := z_g hf
        obtain ⟨q92, hv93, hf⟩ := z_nn hf
        refine z_getN B hW (Or.inr zf_X2_11) rfl hg91 hv93 dX2_init_85 ?_
        obtain ⟨hg94, hf⟩ := z_g hf
        refine z_alen (t := 3) (by decide) B hW hg94 dX2_init_88 ?_
        refine lv_icmp_ge (tgt := 111) hx hb dX2_init_89 (by decide) (fun hc186 => ?_) (fun hc186 => ?_)
        · replace hf := z_ip hc186 hf
          obtain rfl := z_e1 hf
          exact z_rv B hW dX2_init_111 (Nat.le_of_ble_eq_true rfl) (Nat.le_of_ble_eq_true rfl)
        · replace hf := z_in hc186 hf
          refine lv_aload_n hx hb dX2_init_92 rfl (lv_at hl 1 rfl) ?_
          obtain ⟨q95, hv96, hf⟩ := z_nn hf
          refine z_getN B hW (Or.inr zf_X2_11) rfl hg91 hv96 dX2_init_93 ?_
          refine lv_iload_n hx hb dX2_init_96 rfl (lv_at hl 0 rfl) ?_
          obtain ⟨σ97, hs98, hf⟩ := z_l hf
          refine z_newOb B hW zw_X2_9 hs98 (Nat.le_of_ble_eq_true rfl) (Nat.le_of_ble_eq_true rfl) dX2_init_97 (fun H hW => ?_)
          refine lv_dup hx hb dX2_init_100 rfl ?_
          obtain ⟨r100, hq99, hf⟩ := z_b hf
          refine z_cv hW (z_runIN (As := []) (rest := [.ref (z_nx σ89), .int (3 : Int32), .ref q95]) B hW zv_X2_60 (K_X6_init hq99) rfl rfl (Nat.le_of_ble_eq_true rfl) hl.1 ⟨Nat.le_of_ble_eq_true rfl, Nat.le_of_ble_eq_true rfl⟩ dX2_init_101 ⟨Nat.le_of_ble_eq_true rfl, Nat.le_of_ble_eq_true rfl⟩) (fun H locs hW => ?_)
          obtain ⟨hg101, hf⟩ := z_g hf
          obtain ⟨hg102, hf⟩ := z_g hf
          obtain ⟨hg103, hf⟩ := z_g hf
          obtain ⟨σ104, hs105, hf⟩ := z_l hf
          refine z_aast (by decide) B hW hg101 hg102 hg103 hs105 dX2_init_104 (fun H locs hW => ?_)
          refine lv_iinc (v := (4 : Int32)) (lv' := [(1, .int (4 : Int32)), (0, .ref l0)]) hx hb dX2_init_105 hl (k := 0) rfl (by decide) (by decide) rfl (fun ls hl => ?_)
          refine lv_goto (tgt := 83) hx hb dX2_init_108 (by decide) ?_
          refine lv_iload_n hx hb dX2_init_83 rfl (lv_at hl 0 rfl) ?_
          refine lv_aload_n hx hb dX2_init_84 rfl (lv_at hl 1 rfl) ?_
          obtain ⟨hg106, hf⟩ := z_g hf
          obtain ⟨q107, hv108, hf⟩ := z_nn hf
          refine z_getN B hW (Or.inr zf_X2_11) rfl hg106 hv108 dX2_init_85 ?_
          obtain ⟨hg109, hf⟩ := z_g hf
          refine z_alen (t := 3) (by decide) B hW hg109 dX2_init_88 ?_
          refine lv_icmp_ge (tgt := 111) hx hb dX2_init_89 (by decide) (fun hc185 => ?_) (fun hc185 => ?_)
          · replace hf := z_ip hc185 hf
            obtain rfl := z_e1 hf
            exact z_rv B hW dX2_init_111 (Nat.le_of_ble_eq_true rfl) (Nat.le_of_ble_eq_true rfl)
          · replace hf := z_in hc185 hf
            refine lv_aload_n hx hb dX2_init_92 rfl (lv_at hl 1 rfl) ?_
            obtain ⟨q110, hv111, hf⟩ := z_nn hf
            refine z_getN B hW (Or.inr zf_X2_11) rfl hg106 hv111 dX2_init_93 ?_
            refine lv_iload_n hx hb dX2_init_96 rfl (lv_at hl 0 rfl) ?_
            obtain ⟨σ112, hs113, hf⟩ := z_l hf
            refine z_newOb B hW zw_X2_9 hs113 (Nat.le_of_ble_eq_true rfl) (Nat.le_of_ble_eq_true rfl) dX2_init_97 (fun H hW => ?_)
            refine lv_dup hx hb dX2_init_100 rfl ?_
            obtain ⟨r115, hq114, hf⟩ := z_b hf
            refine z_cv hW (z_runIN (As := []) (rest := [.ref (z_nx σ104), .int (4 : Int32), .ref q110]) B hW zv_X2_60 (K_X6_init hq114) rfl rfl (Nat.le_of_ble_eq_true rfl) hl.1 ⟨Nat.le_of_ble_eq_true rfl, Nat.le_of_ble_eq_true rfl⟩ dX2_init_101 ⟨Nat.le_of_ble_eq_true rfl, Nat.le_of_ble_eq_true rfl⟩) (fun H locs hW => ?_)
            obtain ⟨hg116, hf⟩ := z_g hf
            obtain ⟨hg117, hf⟩ := z_g hf
            obtain ⟨hg118, hf⟩ := z_g hf
            obtain ⟨σ119, hs120, hf⟩ := z_l hf
            refine z_aast (by decide) B hW hg116 hg117 hg118 hs120 dX2_init_104 (fun H locs hW => ?_)
            refine lv_iinc (v := (5 : Int32)) (lv' := [(1, .int (5 : Int32)), (0, .ref l0)]) hx hb dX2_init_105 hl (k := 0) rfl (by decide) (by decide) rfl (fun ls hl => ?_)
            refine lv_goto (tgt := 83) hx hb dX2_init_108 (by decide) ?_
            refine lv_iload_n hx hb dX2_init_83 rfl (lv_at hl 0 rfl) ?_
            refine lv_aload_n hx hb dX2_init_84 rfl (lv_at hl 1 rfl) ?_
            obtain ⟨hg121, hf⟩ := z_g hf
            obtain ⟨q122, hv123, hf⟩ := z_nn hf
            refine z_getN B hW (Or.inr zf_X2_11) rfl hg121 hv123 dX2_init_85 ?_
            obtain ⟨hg124, hf⟩ := z_g hf
            refine z_alen (t := 3) (by decide) B hW hg124 dX2_init_88 ?_
            refine lv_icmp_ge (tgt := 111) hx hb dX2_init_89 (by decide) (fun hc184 => ?_) (fun hc184 => ?_)
            · replace hf := z_ip hc184 hf
              obtain rfl := z_e1 hf
              exact z_rv B hW dX2_init_111 (Nat.le_of_ble_eq_true rfl) (Nat.le_of_ble_eq_true rfl)
            · replace hf := z_in hc184 hf
              refine lv_aload_n hx hb dX2_init_92 rfl (lv_at hl 1 rfl) ?_
              obtain ⟨q125, hv126, hf⟩ := z_nn hf
              refine z_getN B hW (Or.inr zf_X2_11) rfl hg121 hv126 dX2_init_93 ?_
              refine lv_iload_n hx hb dX2_init_96 rfl (lv_at hl 0 rfl) ?_
              obtain ⟨σ127, hs128, hf⟩ := z_l hf
              refine z_newOb B hW zw_X2_9 hs128 (Nat.le_of_ble_eq_true rfl) (Nat.le_of_ble_eq_true rfl) dX2_init_97 (fun H hW => ?_)
              refine lv_dup hx hb dX2_init_100 rfl ?_
              obtain ⟨r130, hq129, hf⟩ := z_b hf
              refine z_cv hW (z_runIN (As := []) (rest := [.ref (z_nx σ119), .int (5 : Int32), .ref q125]) B hW zv_X2_60 (K_X6_init hq129) rfl rfl (Nat.le_of_ble_eq_true rfl) hl.1 ⟨Nat.le_of_ble_eq_true rfl, Nat.le_of_ble_eq_true rfl⟩ dX2_init_101 ⟨Nat.le_of_ble_eq_true rfl, Nat.le_of_ble_eq_true rfl⟩) (fun H locs hW => ?_)
              obtain ⟨hg131, hf⟩ := z_g hf
              obtain ⟨hg132, hf⟩ := z_g hf
              obtain ⟨hg133, hf⟩ := z_g hf
              obtain ⟨σ134, hs135, hf⟩ := z_l hf
              refine z_aast (by decide) B hW hg131 hg132 hg133 hs135 dX2_init_104 (fun H locs hW => ?_)
              refine lv_iinc (v := (6 : Int32)) (lv' := [(1, .int (6 : Int32)), (0, .ref l0)]) hx hb dX2_init_105 hl (k := 0) rfl (by decide) (by decide) rfl (fun ls hl => ?_)
              refine lv_goto (tgt := 83) hx hb dX2_init_108 (by decide) ?_
              refine lv_iload_n hx hb dX2_init_83 rfl (lv_at hl 0 rfl) ?_
              refine lv_aload_n hx hb dX2_init_84 rfl (lv_at hl 1 rfl) ?_
              obtain ⟨hg136, hf⟩ := z_g hf
              obtain ⟨q137, hv138, hf⟩ := z_nn hf
              refine z_getN B hW (Or.inr zf_X2_11) rfl hg136 hv138 dX2_init_85 ?_
              obtain ⟨hg139, hf⟩ := z_g hf
              refine z_alen (t := 3) (by decide) B hW hg139 dX2_init_88 ?_
              refine lv_icmp_ge (tgt := 111) hx hb dX2_init_89 (by decide) (fun hc183 => ?_) (fun hc183 => ?_)
              · replace hf := z_ip hc183 hf
                obtain rfl := z_e1 hf
                exact z_rv B hW dX2_init_111 (Nat.le_of_ble_eq_true rfl) (Nat.le_of_ble_eq_true rfl)
              · replace hf := z_in hc183 hf
                refine lv_aload_n hx hb dX2_init_92 rfl (lv_at hl 1 rfl) ?_
                obtain ⟨q140, hv141, hf⟩ := z_nn hf
                refine z_getN B hW (Or.inr zf_X2_11) rfl hg136 hv141 dX2_init_93 ?_
                refine lv_iload_n hx hb dX2_init_96 rfl (lv_at hl 0 rfl) ?_
                obtain ⟨σ142, hs143, hf⟩ := z_l hf
                refine z_newOb B hW zw_X2_9 hs143 (Nat.le_of_ble_eq_true rfl) (Nat.le_of_ble_eq_true rfl) dX2_init_97 (fun H hW => ?_)
                refine lv_dup hx hb dX2_init_100 rfl ?_
                obtain ⟨r145, hq144, hf⟩ := z_b hf
                refine z_cv hW (z_runIN (As := []) (rest := [.ref (z_nx σ134), .int (6 : Int32), .ref q140]) B hW zv_X2_60 (K_X6_init hq144) rfl rfl (Nat.le_of_ble_eq_true rfl) hl.1 ⟨Nat.le_of_ble_eq_true rfl, Nat.le_of_ble_eq_true rfl⟩ dX2_init_101 ⟨Nat.le_of_ble_eq_true rfl, Nat.le_of_ble_eq_true rfl⟩) (fun H locs hW => ?_)
                obtain ⟨hg146, hf⟩ := z_g hf
                obtain ⟨hg147, hf⟩ := z_g hf
                obtain ⟨hg148, hf⟩ := z_g hf
                obtain ⟨σ149, hs150, hf⟩ := z_l hf
                refine z_aast (by decide) B hW hg146 hg147 hg148 hs150 dX2_init_104 (fun H locs hW => ?_)
                refine lv_iinc (v := (7 : Int32)) (lv' := [(1, .int (7 : Int32)), (0, .ref l0)]) hx hb dX2_init_105 hl (k := 0) rfl (by decide) (by decide) rfl (fun ls hl => ?_)
                refine lv_goto (tgt := 83) hx hb dX2_init_108 (by decide) ?_
                refine lv_iload_n hx hb dX2_init_83 rfl (lv_at hl 0 rfl) ?_
                refine lv_aload_n hx hb dX2_init_84 rfl (lv_at hl 1 rfl) ?_
                obtain ⟨hg151, hf⟩ := z_g hf
                obtain ⟨q152, hv153, hf⟩ := z_nn hf
                refine z_getN B hW (Or.inr zf_X2_11) rfl hg151 hv153 dX2_init_85 ?_
                obtain ⟨hg154, hf⟩ := z_g hf
                refine z_alen (t := 3) (by decide) B hW hg154 dX2_init_88 ?_
                refine lv_icmp_ge (tgt := 111) hx hb dX2_init_89 (by decide) (fun hc182 => ?_) (fun hc182 => ?_)
                · replace hf := z_ip hc182 hf
                  obtain rfl := z_e1 hf
                  exact z_rv B hW dX2_init_111 (Nat.le_of_ble_eq_true rfl) (Nat.le_of_ble_eq_true rfl)
                · replace hf := z_in hc182 hf
                  refine lv_aload_n hx hb dX2_init_92 rfl (lv_at hl 1 rfl) ?_
                  obtain ⟨q155, hv156, hf⟩ := z_nn hf
                  refine z_getN B hW (Or.inr zf_X2_11) rfl hg151 hv156 dX2_init_93 ?_
                  refine lv_iload_n hx hb dX2_init_96 rfl (lv_at hl 0 rfl) ?_
                  obtain ⟨σ157, hs158, hf⟩ := z_l hf
                  refine z_newOb B hW zw_X2_9 hs158 (Nat.le_of_ble_eq_true rfl) (Nat.le_of_ble_eq_true rfl) dX2_init_97 (fun H hW => ?_)
                  refine lv_dup hx hb dX2_init_100 rfl ?_
                  obtain ⟨r160, hq159, hf⟩ := z_b hf
                  refine z_cv hW (z_runIN (As := []) (rest := [.ref (z_nx σ149), .int (7 : Int32), .ref q155]) B hW zv_X2_60 (K_X6_init hq159) rfl rfl (Nat.le_of_ble_eq_true rfl) hl.1 ⟨Nat.le_of_ble_eq_true rfl, Nat.le_of_ble_eq_true rfl⟩ dX2_init_101 ⟨Nat.le_of_ble_eq_true rfl, Nat.le_of_ble_eq_true rfl⟩) (fun H locs hW => ?_)
                  obtain ⟨hg161, hf⟩ := z_g hf
                  obtain ⟨hg162, hf⟩ := z_g hf
                  obtain ⟨hg163, hf⟩ := z_g hf
                  obtain ⟨σ164, hs165, hf⟩ := z_l hf
                  refine z_aast (by decide) B hW hg161 hg162 hg163 hs165 dX2_init_104 (fun H locs hW => ?_)
                  refine lv_iinc (v := (8 : Int32)) (lv' := [(1, .int (8 : Int32)), (0, .ref l0)]) hx hb dX2_init_105 hl (k := 0) rfl (by decide) (by decide) rfl (fun ls hl => ?_)
                  refine lv_goto (tgt := 83) hx hb dX2_init_108 (by decide) ?_
                  refine lv_iload_n hx hb dX2_init_83 rfl (lv_at hl 0 rfl) ?_
                  refine lv_aload_n hx hb dX2_init_84 rfl (lv_at hl 1 rfl) ?_
                  obtain ⟨hg166, hf⟩ := z_g hf
                  obtain ⟨q167, hv168, hf⟩ := z_nn hf
                  refine z_getN B hW (Or.inr zf_X2_11) rfl hg166 hv168 dX2_init_85 ?_
                  obtain ⟨hg169, hf⟩ := z_g hf
                  refine z_alen (t := 3) (by decide) B hW hg169 dX2_init_88 ?_
                  refine lv_icmp_ge (tgt := 111) hx hb dX2_init_89 (by decide) (fun hc181 => ?_) (fun hc181 => ?_)
                  · replace hf := z_ip hc181 hf
                    obtain rfl := z_e1 hf
                    exact z_rv B hW dX2_init_111 (Nat.le_of_ble_eq_true rfl) (Nat.le_of_ble_eq_true rfl)
                  · replace hf := z_in hc181 hf
                    refine lv_aload_n hx hb dX2_init_92 rfl (lv_at hl 1 rfl) ?_
                    obtain ⟨q170, hv171, hf⟩ := z_nn hf
                    refine z_getN B hW (Or.inr zf_X2_11) rfl hg166 hv171 dX2_init_93 ?_
                    refine lv_iload_n hx hb dX2_init_96 rfl (lv_at hl 0 rfl) ?_
                    obtain ⟨σ172, hs173, hf⟩ := z_l hf
                    refine z_newOb B hW zw_X2_9 hs173 (Nat.le_of_ble_eq_true rfl) (Nat.le_of_ble_eq_true rfl) dX2_init_97 (fun H hW => ?_)
                    refine lv_dup hx hb dX2_init_100 rfl ?_
                    obtain ⟨r175, hq174, hf⟩ := z_b hf
                    refine z_cv hW (z_runIN (As := []) (rest := [.ref (z_nx σ164), .int (8 : Int32), .ref q170]) B hW zv_X2_60 (K_X6_init hq174) rfl rfl (Nat.le_of_ble_eq_true rfl) hl.1 ⟨Nat.le_of_ble_eq_true rfl, Nat.le_of_ble_eq_true rfl⟩ dX2_init_101 ⟨Nat.le_of_ble_eq_true rfl, Nat.le_of_ble_eq_true rfl⟩) (fun H locs hW => ?_)
                    obtain ⟨hg176, hf⟩ := z_g hf
                    obtain ⟨hg177, hf⟩ := z_g hf
                    obtain ⟨hg178, hf⟩ := z_g hf
                    obtain ⟨σ179, hs180, hf⟩ := z_l hf
                    refine z_aast (by decide) B hW hg176 hg177 hg178 hs180 dX2_init_104 (fun H locs hW => ?_)
                    refine lv_iinc (v := (9 : Int32)) (lv' := [(1, .int (9 : Int32)), (0, .ref l0)]) hx hb dX2_init_105 hl (k := 0) rfl (by decide) (by decide) rfl (fun ls hl => ?_)
                    refine lv_goto (tgt := 83) hx hb dX2_init_108 (by decide) ?_
                    cases hf
set_option maxRecDepth 100000 in
def f_X1_init (σ : zSt) (l0 : Nat) : Option (zSt) :=
(zl (z_nw σ (.inr (4, 4))) (fun σ1 => (if z_ob σ1 l0 1 then (zl (z_pR σ1 l0 0 (some (z_nx σ))) (fun σ4 => (if z_ob σ4 l0 1 then (zc (z_R σ4 l0 0) none (fun q7 => (if z_ar σ4 q7 4 then (if (Int32.ofNat (z_ln σ4 q7)) ≤ (0 : Int32) then
(some σ4)
else
(zc (z_R σ4 l0 0) none (fun q10 => (zl (z_nw σ4 (.inl 2)) (fun σ12 => (zb (f_X2_init σ12 (z_nx σ4)) (fun σ15 => (if z_ar σ15 q10 4 then (if z_ix (0 : Int32) (z_ln σ15 q10) then (if z_ob σ15 (z_nx σ4) 2 then (zl (z_pR σ15 q10 (0 : Int32).toNatClampNeg (some (z_nx σ4))) (fun σ19 => (if z_ob σ19 l0 1 then (zc (z_R σ19 l0 0) none (fun q22 => (if z_ar σ19 q22 4 then (if (Int32.ofNat (z_ln σ19 q22)) ≤ (1 : Int32) then
(some σ19)
else
(zc (z_R σ19 l0 0) none (fun q25 => (zl (z_nw σ19 (.inl 2)) (fun σ27 => (zb (f_X2_init σ27 (z_nx σ19)) (fun σ30 => (if z_ar σ30 q25 4 then (if z_ix (1 : Int32) (z_ln σ30 q25) then (if z_ob σ30 (z_nx σ19) 2 then (zl (z_pR σ30 q25 (1 : Int32).toNatClampNeg (some (z_nx σ19))) (fun σ34 => (if z_ob σ34 l0 1 then (zc (z_R σ34 l0 0) none (fun q37 => (if z_ar σ34 q37 4 then (if (Int32.ofNat (z_ln σ34 q37)) ≤ (2 : Int32) then
(some σ34)
else
(zc (z_R σ34 l0 0) none (fun q40 => (zl (z_nw σ34 (.inl 2)) (fun σ42 => (zb (f_X2_init σ42 (z_nx σ34)) (fun σ45 => (if z_ar σ45 q40 4 then (if z_ix (2 : Int32) (z_ln σ45 q40) then (if z_ob σ45 (z_nx σ34) 2 then (zl (z_pR σ45 q40 (2 : Int32).toNatClampNeg (some (z_nx σ34))) (fun σ49 => (if z_ob σ49 l0 1 then (zc (z_R σ49 l0 0) none (fun q52 => (if z_ar σ49 q52 4 then (if (Int32.ofNat (z_ln σ49 q52)) ≤ (3 : Int32) then
(some σ49)
else
(zc (z_R σ49 l0 0) none (fun q55 => (zl (z_nw σ49 (.inl 2)) (fun σ57 => (zb (f_X2_init σ57 (z_nx σ49)) (fun σ60 => (if z_ar σ60 q55 4 then (if z_ix (3 : Int32) (z_ln σ60 q55) then (if z_ob σ60 (z_nx σ49) 2 then (zl (z_pR σ60 q55 (3 : Int32).toNatClampNeg (some (z_nx σ49))) (fun σ64 => (if z_ob σ64 l0 1 then (zc (z_R σ64 l0 0) none (fun q67 => (if z_ar σ64 q67 4 then (if (Int32.ofNat (z_ln σ64 q67)) ≤ (4 : Int32) then
(some σ64)
else
(zc (z_R σ64 l0 0) none (fun q70 => (zl (z_nw σ64 (.inl 2)) (fun σ72 => (zb (f_X2_init σ72 (z_nx σ64)) (fun σ75 => (if z_ar σ75 q70 4 then (if z_ix (4 : Int32) (z_ln σ75 q70) then (if z_ob σ75 (z_nx σ64) 2 then (zl (z_pR σ75 q70 (4 : Int32).toNatClampNeg (some (z_nx σ64))) (fun σ79 => none)) else none) else none) else none)))))))) else none))) else none))) else none) else none) else none)))))))) else none))) else none))) else none) else none) else none)))))))) else none))) else none))) else none) else none) else none)))))))) else none))) else none))) else none) else none) else none)))))))) else none))) else none))) else none)))
set_option maxRecDepth 20000 in
set_option maxHeartbeats 4000000 in
theorem K_X1_init {σ : zSt} {l0 : Nat}  {σ' : zSt} (hf : f_X1_init σ l0 = some σ') : z_M l D cA bs yX1_init cX1_init 2 none 4 88 101 6799 [.ref l0] σ (z_Qv D cA bs σ') := by
  refine z_met (own := RX1) (lv := [(0, .ref l0)]) (by decide) rfl (Nat.le_of_ble_eq_true rfl) rfl (fun p e s m below meth c ls B hnm hW hl => ?_)
  have hx := B.1
  have hb := B.2.1
  have hown := B.2.2.2.1
  have hts := B.2.2.2.2.1
  unfold f_X1_init at hf
  refine lv_aload_n hx hb dX1_init_0 rfl (lv_at hl 0 rfl) ?_
  refine W.objInit hx hb hown (hts _ zoi_X1_3) (hts _ zoi_a) (hts _ zoi_b) rfl (by rw [B.2.2.1]; exact hl.1) rfl dX1_init_1 (Nat.le_of_ble_eq_true rfl) (Nat.le_of_ble_eq_true rfl) ?_
  refine W.eq (g2 := F0 m 4 ls []) rfl ?_
  refine lv_aload_n hx hb dX1_init_4 rfl (lv_at hl 0 rfl) ?_
  refine lv_iconst (v := (4 : Int32)) hx hb dX1_init_5 (by decide) ?_
  obtain ⟨σ1, hs2, hf⟩ := z_l hf
  refine z_newQ B hW (by decide) zcl_X1_9 (N := 4) (by decide) (by decide) (by decide) hs2 (Nat.le_of_ble_eq_true rfl) (Nat.le_of_ble_eq_true rfl) dX1_init_6 (fun H hW => ?_)
  obtain ⟨hg3, hf⟩ := z_g hf
  obtain ⟨σ4, hs5, hf⟩ := z_l hf
  refine z_putRF B hnm hW zf_X1_11 (fun C T h => by cases h; rfl) rfl hg3 (v := (some (z_nx σ))) hs5 dX1_init_9 (fun H locs hW => ?_)
  refine lv_iconst (v := (0 : Int32)) hx hb dX1_init_12 (by decide) ?_
  refine lv_istore_n (lv' := [(1, .int (0 : Int32)), (0, .ref l0)]) hx hb dX1_init_13 rfl hl (by decide) rfl (fun ls hl => ?_)
  refine lv_iload_n hx hb dX1_init_14 rfl (lv_at hl 0 rfl) ?_
  refine lv_aload_n hx hb dX1_init_15 rfl (lv_at hl 1 rfl) ?_
  obtain ⟨hg6, hf⟩ := z_g hf
  obtain ⟨q7, hv8, hf⟩ := z_nn hf
  refine z_getN B hW (Or.inr zf_X1_11) rfl hg6 hv8 dX1_init_16 ?_
  obtain ⟨hg9, hf⟩ := z_g hf
  refine z_alen (t := 4) (by decide) B hW hg9 dX1_init_19 ?_
  refine lv_icmp_ge (tgt := 42) hx hb dX1_init_20 (by decide) (fun hc85 => ?_) (fun hc85 => ?_)
  · replace hf := z_ip hc85 hf
    obtain rfl := z_e1 hf
    exact z_rv B hW dX1_init_42 (Nat.le_of_ble_eq_true rfl) (Nat.le_of_ble_eq_true rfl)
  · replace hf := z_in hc85 hf
    refine lv_aload_n hx hb dX1_init_23 rfl (lv_at hl 1 rfl) ?_
    obtain ⟨q10, hv11, hf⟩ := z_nn hf
    refine z_getN B hW (Or.inr zf_X1_11) rfl hg6 hv11 dX1_init_24 ?_
    refine lv_iload_n hx hb dX1_init_27 rfl (lv_at hl 0 rfl) ?_
    obtain ⟨σ12, hs13, hf⟩ := z_l hf
    refine z_newOb B hW zw_X1_9 hs13 (Nat.le_of_ble_eq_true rfl) (Nat.le_of_ble_eq_true rfl) dX1_init_28 (fun H hW => ?_)
    refine lv_dup hx hb dX1_init_31 rfl ?_
    obtain ⟨σ15, hq14, hf⟩ := z_b hf
    refine z_cv hW (z_runI (As := []) (rest := [.ref (z_nx σ4), .int (0 : Int32), .ref q10]) B hW zv_X1_17 (K_X2_init hq14) rfl rfl (Nat.le_of_ble_eq_true rfl) hl.1 ⟨Nat.le_of_ble_eq_true rfl, Nat.le_of_ble_eq_true rfl⟩ dX1_init_32 ⟨Nat.le_of_ble_eq_true rfl, Nat.le_of_ble_eq_true rfl⟩) (fun H locs hW => ?_)
    obtain ⟨hg16, hf⟩ := z_g hf
    obtain ⟨hg17, hf⟩ := z_g hf
    obtain ⟨hg18, hf⟩ := z_g hf
    obtain ⟨σ19, hs20, hf⟩ := z_l hf
    refine z_aast (by decide) B hW hg16 hg17 hg18 hs20 dX1_init_35 (fun H locs hW => ?_)
    refine lv_iinc (v := (1 : Int32)) (lv' := [(1, .int (1 : Int32)), (0, .ref l0)]) hx hb dX1_init_36 hl (k := 0) rfl (by decide) (by decide) rfl (fun ls hl => ?_)
    refine lv_goto (tgt := 14) hx hb dX1_init_39 (by decide) ?_
    refine lv_iload_n hx hb dX1_init_14 rfl (lv_at hl 0 rfl) ?_
    refine lv_aload_n hx hb dX1_init_15 rfl (lv_at hl 1 rfl) ?_
    obtain ⟨hg21, hf⟩ := z_g hf
    obtain ⟨q22, hv23, hf⟩ := z_nn hf
    refine z_getN B hW (Or.inr zf_X1_11) rfl hg21 hv23 dX1_init_16 ?_
    obtain ⟨hg24, hf⟩ := z_g hf
    refine z_alen (t := 4) (by decide) B hW hg24 dX1_init_19 ?_
    refine lv_icmp_ge (tgt := 42) hx hb dX1_init_20 (by decide) (fun hc84 => ?_) (fun hc84 => ?_)
    · replace hf := z_ip hc84 hf
      obtain rfl := z_e1 hf
      exact z_rv B hW dX1_init_42 (Nat.le_of_ble_eq_true rfl) (Nat.le_of_ble_eq_true rfl)
    · replace hf := z_in hc84 hf
      refine lv_aload_n hx hb dX1_init_23 rfl (lv_at hl 1 rfl) ?_
      obtain ⟨q25, hv26, hf⟩ := z_nn hf
      refine z_getN B hW (Or.inr zf_X1_11) rfl hg21 hv26 dX1_init_24 ?_
      refine lv_iload_n hx hb dX1_init_27 rfl (lv_at hl 0 rfl) ?_
      obtain ⟨σ27, hs28, hf⟩ := z_l hf
      refine z_newOb B hW zw_X1_9 hs28 (Nat.le_of_ble_eq_true rfl) (Nat.le_of_ble_eq_true rfl) dX1_init_28 (fun H hW => ?_)
      refine lv_dup hx hb dX1_init_31 rfl ?_
      obtain ⟨σ30, hq29, hf⟩ := z_b hf
      refine z_cv hW (z_runI (As := []) (rest := [.ref (z_nx σ19), .int (1 : Int32), .ref q25]) B hW zv_X1_17 (K_X2_init hq29) rfl rfl (Nat.le_of_ble_eq_true rfl) hl.1 ⟨Nat.le_of_ble_eq_true rfl, Nat.le_of_ble_eq_true rfl⟩ dX1_init_32 ⟨Nat.le_of_ble_eq_true rfl, Nat.le_of_ble_eq_true rfl⟩) (fun H locs hW => ?_)
      obtain ⟨hg31, hf⟩ := z_g hf
      obtain ⟨hg32, hf⟩ := z_g hf
      obtain ⟨hg33, hf⟩ := z_g hf
      obtain ⟨σ34, hs35, hf⟩ := z_l hf
      refine z_aast (by decide) B hW hg31 hg32 hg33 hs35 dX1_init_35 (fun H locs hW => ?_)
      refine lv_iinc (v := (2 : Int32)) (lv' := [(1, .int (2 : Int32)), (0, .ref l0)]) hx hb dX1_init_36 hl (k := 0) rfl (by decide) (by decide) rfl (fun ls hl => ?_)
      refine lv_goto (tgt := 14) hx hb dX1_init_39 (by decide) ?_
      refine lv_iload_n hx hb dX1_init_14 rfl (lv_at hl 0 rfl) ?_
      refine lv_aload_n hx hb dX1_init_15 rfl (lv_at hl 1 rfl) ?_
      obtain ⟨hg36, hf⟩ := z_g hf
      obtain ⟨q37, hv38, hf⟩ := z_nn hf
      refine z_getN B hW (Or.inr zf_X1_11) rfl hg36 hv38 dX1_init_16 ?_
      obtain ⟨hg39, hf⟩ := z_g hf
      refine z_alen (t := 4) (by decide) B hW hg39 dX1_init_19 ?_
      refine lv_icmp_ge (tgt := 42) hx hb dX1_init_20 (by decide) (fun hc83 => ?_) (fun hc83 => ?_)
      · replace hf := z_ip hc83 hf
        obtain rfl := z_e1 hf
        exact z_rv B hW dX1_init_42 (Nat.le_of_ble_eq_true rfl) (Nat.le_of_ble_eq_true rfl)
      · replace hf := z_in hc83 hf
        refine lv_aload_n hx hb dX1_init_23 rfl (lv_at hl 1 rfl) ?_
        obtain ⟨q40, hv41, hf⟩ := z_nn hf
        refine z_getN B hW (Or.inr zf_X1_11) rfl hg36 hv41 dX1_init_24 ?_
        refine lv_iload_n hx hb dX1_init_27 rfl (lv_at hl 0 rfl) ?_
        obtain ⟨σ42, hs43, hf⟩ := z_l hf
        refine z_newOb B hW zw_X1_9 hs43 (Nat.le_of_ble_eq_true rfl) (Nat.le_of_ble_eq_true rfl) dX1_init_28 (fun H hW => ?_)
        refine lv_dup hx hb dX1_init_31 rfl ?_
        obtain ⟨σ45, hq44, hf⟩ := z_b hf
        refine z_cv hW (z_runI (As := []) (rest := [.ref (z_nx σ34), .int (2 : Int32), .ref q40]) B hW zv_X1_17 (K_X2_init hq44) rfl rfl (Nat.le_of_ble_eq_true rfl) hl.1 ⟨Nat.le_of_ble_eq_true rfl, Nat.le_of_ble_eq_true rfl⟩ dX1_init_32 ⟨Nat.le_of_ble_eq_true rfl, Nat.le_of_ble_eq_true rfl⟩) (fun H locs hW => ?_)
        obtain ⟨hg46, hf⟩ := z_g hf
        obtain ⟨hg47, hf⟩ := z_g hf
        obtain ⟨hg48, hf⟩ := z_g hf
        obtain ⟨σ49, hs50, hf⟩ := z_l hf
        refine z_aast (by decide) B hW hg46 hg47 hg48 hs50 dX1_init_35 (fun H locs hW => ?_)
        refine lv_iinc (v := (3 : Int32)) (lv' := [(1, .int (3 : Int32)), (0, .ref l0)]) hx hb dX1_init_36 hl (k := 0) rfl (by decide) (by decide) rfl (fun ls hl => ?_)
        refine lv_goto (tgt := 14) hx hb dX1_init_39 (by decide) ?_
        refine lv_iload_n hx hb dX1_init_14 rfl (lv_at hl 0 rfl) ?_
        refine lv_aload_n hx hb dX1_init_15 rfl (lv_at hl 1 rfl) ?_
        obtain ⟨hg51, hf⟩ := z_g hf
        obtain ⟨q52, hv53, hf⟩ := z_nn hf
        refine z_getN B hW (Or.inr zf_X1_11) rfl hg51 hv53 dX1_init_16 ?_
        obtain ⟨hg54, hf⟩ := z_g hf
        refine z_alen (t := 4) (by decide) B hW hg54 dX1_init_19 ?_
        refine lv_icmp_ge (tgt := 42) hx hb dX1_init_20 (by decide) (fun hc82 => ?_) (fun hc82 => ?_)
        · replace hf := z_ip hc82 hf
          obtain rfl := z_e1 hf
          exact z_rv B hW dX1_init_42 (Nat.le_of_ble_eq_true rfl) (Nat.le_of_ble_eq_true rfl)
        · replace hf := z_in hc82 hf
          refine lv_aload_n hx hb dX1_init_23 rfl (lv_at hl 1 rfl) ?_
          obtain ⟨q55, hv56, hf⟩ := z_nn hf
          refine z_getN B hW (Or.inr zf_X1_11) rfl hg51 hv56 dX1_init_24 ?_
          refine lv_iload_n hx hb dX1_init_27 rfl (lv_at hl 0 rfl) ?_
          obtain ⟨σ57, hs58, hf⟩ := z_l hf
          refine z_newOb B hW zw_X1_9 hs58 (Nat.le_of_ble_eq_true rfl) (Nat.le_of_ble_eq_true rfl) dX1_init_28 (fun H hW => ?_)
          refine lv_dup hx hb dX1_init_31 rfl ?_
          obtain ⟨σ60, hq59, hf⟩ := z_b hf
          refine z_cv hW (z_runI (As := []) (rest := [.ref (z_nx σ49), .int (3 : Int32), .ref q55]) B hW zv_X1_17 (K_X2_init hq59) rfl rfl (Nat.le_of_ble_eq_true rfl) hl.1 ⟨Nat.le_of_ble_eq_true rfl, Nat.le_of_ble_eq_true rfl⟩ dX1_init_32 ⟨Nat.le_of_ble_eq_true rfl, Nat.le_of_ble_eq_true rfl⟩) (fun H locs hW => ?_)
          obtain ⟨hg61, hf⟩ := z_g hf
          obtain ⟨hg62, hf⟩ := z_g hf
          obtain ⟨hg63, hf⟩ := z_g hf
          obtain ⟨σ64, hs65, hf⟩ := z_l hf
          refine z_aast (by decide) B hW hg61 hg62 hg63 hs65 dX1_init_35 (fun H locs hW => ?_)
          refine lv_iinc (v := (4 : Int32)) (lv' := [(1, .int (4 : Int32)), (0, .ref l0)]) hx hb dX1_init_36 hl (k := 0) rfl (by decide) (by decide) rfl (fun ls hl => ?_)
          refine lv_goto (tgt := 14) hx hb dX1_init_39 (by decide) ?_
          refine lv_iload_n hx hb dX1_init_14 rfl (lv_at hl 0 rfl) ?_
          refine lv_aload_n hx hb dX1_init_15 rfl (lv_at hl 1 rfl) ?_
          obtain ⟨hg66, hf⟩ := z_g hf
          obtain ⟨q67, hv68, hf⟩ := z_nn hf
          refine z_getN B hW (Or.inr zf_X1_11) rfl hg66 hv68 dX1_init_16 ?_
          obtain ⟨hg69, hf⟩ := z_g hf
          refine z_alen (t := 4) (by decide) B hW hg69 dX1_init_19 ?_
          refine lv_icmp_ge (tgt := 42) hx hb dX1_init_20 (by decide) (fun hc81 => ?_) (fun hc81 => ?_)
          · replace hf := z_ip hc81 hf
            obtain rfl := z_e1 hf
            exact z_rv B hW dX1_init_42 (Nat.le_of_ble_eq_true rfl) (Nat.le_of_ble_eq_true rfl)
          · replace hf := z_in hc81 hf
            refine lv_aload_n hx hb dX1_init_23 rfl (lv_at hl 1 rfl) ?_
            obtain ⟨q70, hv71, hf⟩ := z_nn hf
            refine z_getN B hW (Or.inr zf_X1_11) rfl hg66 hv71 dX1_init_24 ?_
            refine lv_iload_n hx hb dX1_init_27 rfl (lv_at hl 0 rfl) ?_
            obtain ⟨σ72, hs73, hf⟩ := z_l hf
            refine z_newOb B hW zw_X1_9 hs73 (Nat.le_of_ble_eq_true rfl) (Nat.le_of_ble_eq_true rfl) dX1_init_28 (fun H hW => ?_)
            refine lv_dup hx hb dX1_init_31 rfl ?_
            obtain ⟨σ75, hq74, hf⟩ := z_b hf
            refine z_cv hW (z_runI (As := []) (rest := [.ref (z_nx σ64), .int (4 : Int32), .ref q70]) B hW zv_X1_17 (K_X2_init hq74) rfl rfl (Nat.le_of_ble_eq_true rfl) hl.1 ⟨Nat.le_of_ble_eq_true rfl, Nat.le_of_ble_eq_true rfl⟩ dX1_init_32 ⟨Nat.le_of_ble_eq_true rfl, Nat.le_of_ble_eq_true rfl⟩) (fun H locs hW => ?_)
            obtain ⟨hg76, hf⟩ := z_g hf
            obtain ⟨hg77, hf⟩ := z_g hf
            obtain ⟨hg78, hf⟩ := z_g hf
            obtain ⟨σ79, hs80, hf⟩ := z_l hf
            refine z_aast (by decide) B hW hg76 hg77 hg78 hs80 dX1_init_35 (fun H locs hW => ?_)
            refine lv_iinc (v := (5 : Int32)) (lv' := [(1, .int (5 : Int32)), (0, .ref l0)]) hx hb dX1_init_36 hl (k := 0) rfl (by decide) (by decide) rfl (fun ls hl => ?_)
            refine lv_goto (tgt := 14) hx hb dX1_init_39 (by decide) ?_
            cases hf
end GEN
