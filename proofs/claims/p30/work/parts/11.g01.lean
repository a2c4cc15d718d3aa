section GEN
variable {p : Program} {l : Launch} {e : Env} {s : State} {m : MethodId} {args : Array Value} {below : List Frame} {meth : Method} {c : Code} {D : va_G} {cA : Nat → ClassId} {bs : Nat}
set_option maxRecDepth 100000 in
def f_X0_init (σ : zSt) (l0 : Nat) : Option (Unit) :=
(some ())
set_option maxRecDepth 20000 in
set_option maxHeartbeats 4000000 in
theorem K_X0_init {σ : zSt} {l0 : Nat}  (hf : f_X0_init σ l0 = some ()) : z_M l D cA bs yX0_init cX0_init 1 none 1 25 0 0 [.ref l0] σ (z_Qv D cA bs σ) := by
  refine z_met (own := RX0) (lv := [(0, .ref l0)]) (by decide) rfl (Nat.le_of_ble_eq_true rfl) rfl (fun p e s m below meth c ls B hnm hW hl => ?_)
  have hx := B.1
  have hb := B.2.1
  have hown := B.2.2.2.1
  have hts := B.2.2.2.2.1
  unfold f_X0_init at hf
  refine lv_aload_n hx hb dX0_init_0 rfl (lv_at hl 0 rfl) ?_
  refine W.objInit hx hb hown (hts _ zoi_X0_1) (hts _ zoi_a) (hts _ zoi_b) rfl (by rw [B.2.2.1]; exact hl.1) rfl dX0_init_1 (Nat.le_of_ble_eq_true rfl) (Nat.le_of_ble_eq_true rfl) ?_
  refine W.eq (g2 := F0 m 4 ls []) rfl ?_
  skip
  exact z_rv B hW dX0_init_4 (Nat.le_of_ble_eq_true rfl) (Nat.le_of_ble_eq_true rfl)
set_option maxRecDepth 100000 in
def f_X0_copyFrom (σ : zSt) (l0 : Nat) (l1 : Nat) : Option (zSt) :=
(if z_ob σ l1 0 then (if z_ob σ l0 0 then (zl (z_pI σ l0 0 (z_I σ l1 0)) (fun σ3 => (if z_ob σ3 l1 0 then (if z_ob σ3 l0 0 then (zl (z_pI σ3 l0 1 (z_I σ3 l1 1)) (fun σ7 => (if z_ob σ7 l1 0 then (if z_ob σ7 l0 0 then (zl (z_pI σ7 l0 2 (z_I σ7 l1 2)) (fun σ11 => (if z_ob σ11 l1 0 then (if z_ob σ11 l0 0 then (zl (z_pI σ11 l0 3 (z_I σ11 l1 3)) (fun σ15 => (if z_ob σ15 l1 0 then (if z_ob σ15 l0 0 then (zl (z_pI σ15 l0 4 (z_I σ15 l1 4)) (fun σ19 => (if z_ob σ19 l1 0 then (if z_ob σ19 l0 0 then (zl (z_pI σ19 l0 5 (z_I σ19 l1 5)) (fun σ23 => (if z_ob σ23 l1 0 then (if z_ob σ23 l0 0 then (zl (z_pI σ23 l0 6 (z_I σ23 l1 6)) (fun σ27 => (if z_ob σ27 l1 0 then (if z_ob σ27 l0 0 then (zl (z_pI σ27 l0 7 (z_I σ27 l1 7)) (fun σ31 => (if z_ob σ31 l1 0 then (if z_ob σ31 l0 0 then (zl (z_pI σ31 l0 8 (z_I σ31 l1 8)) (fun σ35 => (if z_ob σ35 l1 0 then (if z_ob σ35 l0 0 then (zl (z_pJ σ35 l0 9 (z_J σ35 l1 9)) (fun σ39 => (some σ39))) else none) else none))) else none) else none))) else none) else none))) else none) else none))) else none) else none))) else none) else none))) else none) else none))) else none) else none))) else none) else none))) else none) else none)
set_option maxRecDepth 20000 in
set_option maxHeartbeats 4000000 in
theorem K_X0_copyFrom {σ : zSt} {l0 : Nat} {l1 : Nat}  {σ' : zSt} (hf : f_X0_copyFrom σ l0 l1 = some σ') : z_M l D cA bs yX0_copyFrom cX0_copyFrom 2 none 0 0 0 0 [.ref l0, .ref l1] σ (z_Qv D cA bs σ') := by
  refine z_met (own := RX0) (lv := [(0, .ref l0), (1, .ref l1)]) (by decide) rfl (Nat.le_of_ble_eq_true rfl) rfl (fun p e s m below meth c ls B hnm hW hl => ?_)
  have hx := B.1
  have hb := B.2.1
  have hown := B.2.2.2.1
  have hts := B.2.2.2.2.1
  unfold f_X0_copyFrom at hf
  refine lv_aload_n hx hb dX0_copyFrom_0 rfl (lv_at hl 0 rfl) ?_
  refine lv_aload_n hx hb dX0_copyFrom_1 rfl (lv_at hl 1 rfl) ?_
  obtain ⟨hg1, hf⟩ := z_g hf
  refine z_getI B hW (Or.inl zf_X0_7) rfl hg1 dX0_copyFrom_2 ?_
  obtain ⟨hg2, hf⟩ := z_g hf
  obtain ⟨σ3, hs4, hf⟩ := z_l hf
  refine z_putI B hW zf_X0_7 hg2 rfl hs4 dX0_copyFrom_5 (fun H locs hW => ?_)
  refine lv_aload_n hx hb dX0_copyFrom_8 rfl (lv_at hl 0 rfl) ?_
  refine lv_aload_n hx hb dX0_copyFrom_9 rfl (lv_at hl 1 rfl) ?_
  obtain ⟨hg5, hf⟩ := z_g hf
  refine z_getI B hW (Or.inl zf_X0_13) rfl hg5 dX0_copyFrom_10 ?_
  obtain ⟨hg6, hf⟩ := z_g hf
  obtain ⟨σ7, hs8, hf⟩ := z_l hf
  refine z_putI B hW zf_X0_13 hg6 rfl hs8 dX0_copyFrom_13 (fun H locs hW => ?_)
  refine lv_aload_n hx hb dX0_copyFrom_16 rfl (lv_at hl 0 rfl) ?_
  refine lv_aload_n hx hb dX0_copyFrom_17 rfl (lv_at hl 1 rfl) ?_
  obtain ⟨hg9, hf⟩ := z_g hf
  refine z_getI B hW (Or.inl zf_X0_16) rfl hg9 dX0_copyFrom_18 ?_
  obtain ⟨hg10, hf⟩ := z_g hf
  obtain ⟨σ11, hs12, hf⟩ := z_l hf
  refine z_putI B hW zf_X0_16 hg10 rfl hs12 dX0_copyFrom_21 (fun H locs hW => ?_)
  refine lv_aload_n hx hb dX0_copyFrom_24 rfl (lv_at hl 0 rfl) ?_
  refine lv_aload_n hx hb dX0_copyFrom_25 rfl (lv_at hl 1 rfl) ?_
  obtain ⟨hg13, hf⟩ := z_g hf
  refine z_getI B hW (Or.inl zf_X0_19) rfl hg13 dX0_copyFrom_26 ?_
  obtain ⟨hg14, hf⟩ := z_g hf
  obtain ⟨σ15, hs16, hf⟩ := z_l hf
  refine z_putI B hW zf_X0_19 hg14 rfl hs16 dX0_copyFrom_29 (fun H locs hW => ?_)
  refine lv_aload_n hx hb dX0_copyFrom_32 rfl (lv_at hl 0 rfl) ?_
  refine lv_aload_n hx hb dX0_copyFrom_33 rfl (lv_at hl 1 rfl) ?_
  obtain ⟨hg17, hf⟩ := z_g hf
  refine z_getI B hW (Or.inl zf_X0_22) rfl hg17 dX0_copyFrom_34 ?_
  obtain ⟨hg18, hf⟩ := z_g hf
  obtain ⟨σ19, hs20, hf⟩ := z_l hf
  refine z_putI B hW zf_X0_22 hg18 rfl hs20 dX0_copyFrom_37 (fun H locs hW => ?_)
  refine lv_aload_n hx hb dX0_copyFrom_40 rfl (lv_at hl 0 rfl) ?_
  refine lv_aload_n hx hb dX0_copyFrom_41 rfl (lv_at hl 1 rfl) ?_
  obtain ⟨hg21, hf⟩ := z_g hf
  refine z_getI B hW (Or.inl zf_X0_25) rfl hg21 dX0_copyFrom_42 ?_
  obtain ⟨hg22, hf⟩ := z_g hf
  obtain ⟨σ23, hs24, hf⟩ := z_l hf
  refine z_putI B hW zf_X0_25 hg22 rfl hs24 dX0_copyFrom_45 (fun H locs hW => ?_)
  refine lv_aload_n hx hb dX0_copyFrom_48 rfl (lv_at hl 0 rfl) ?_
  refine lv_aload_n hx hb dX0_copyFrom_49 rfl (lv_at hl 1 rfl) ?_
  obtain ⟨hg25, hf⟩ := z_g hf
  refine z_getI B hW (Or.inl zf_X0_28) rfl hg25 dX0_copyFrom_50 ?_
  obtain ⟨hg26, hf⟩ := z_g hf
  obtain ⟨σ27, hs28, hf⟩ := z_l hf
  refine z_putI B hW zf_X0_28 hg26 rfl hs28 dX0_copyFrom_53 (fun H locs hW => ?_)
  refine lv_aload_n hx hb dX0_copyFrom_56 rfl (lv_at hl 0 rfl) ?_
  refine lv_aload_n hx hb dX0_copyFrom_57 rfl (lv_at hl 1 rfl) ?_
  obtain ⟨hg29, hf⟩ := z_g hf
  refine z_getI B hW (Or.inl zf_X0_31) rfl hg29 dX0_copyFrom_58 ?_
  obtain ⟨hg30, hf⟩ := z_g hf
  obtain ⟨σ31, hs32, hf⟩ := z_l hf
  refine z_putI B hW zf_X0_31 hg30 rfl hs32 dX0_copyFrom_61 (fun H locs hW => ?_)
  refine lv_aload_n hx hb dX0_copyFrom_64 rfl (lv_at hl 0 rfl) ?_
  refine lv_aload_n hx hb dX0_copyFrom_65 rfl (lv_at hl 1 rfl) ?_
  obtain ⟨hg33, hf⟩ := z_g hf
  refine z_getI B hW (Or.inl zf_X0_34) rfl hg33 dX0_copyFrom_66 ?_
  obtain ⟨hg34, hf⟩ := z_g hf
  obtain ⟨σ35, hs36, hf⟩ := z_l hf
  refine z_putI B hW zf_X0_34 hg34 rfl hs36 dX0_copyFrom_69 (fun H locs hW => ?_)
  refine lv_aload_n hx hb dX0_copyFrom_72 rfl (lv_at hl 0 rfl) ?_
  refine lv_aload_n hx hb dX0_copyFrom_73 rfl (lv_at hl 1 rfl) ?_
  obtain ⟨hg37, hf⟩ := z_g hf
  refine z_getJ B hW (Or.inl zf_X0_37) rfl hg37 dX0_copyFrom_74 ?_
  obtain ⟨hg38, hf⟩ := z_g hf
  obtain ⟨σ39, hs40, hf⟩ := z_l hf
  refine z_putJ B hW zf_X0_37 rfl hg38 hs40 dX0_copyFrom_77 (fun H locs hW => ?_)
  obtain rfl := z_e1 hf
  exact z_rv B hW dX0_copyFrom_80 (Nat.le_of_ble_eq_true rfl) (Nat.le_of_ble_eq_true rfl)
set_option maxRecDepth 100000 in
def f_X0_addSent (σ : zSt) (l0 : Nat) (l1 : Int32) (l2 : Int32) : Option (zSt) :=
(if z_ob σ l0 0 then (zl (z_pI σ l0 1 ((z_I σ l0 1) + (1 : Int32))) (fun σ2 => (if z_ob σ2 l0 0 then (zl (z_pI σ2 l0 6 ((z_I σ2 l0 6) + l1)) (fun σ5 => (if z_ob σ5 l0 0 then (zl (z_pJ σ5 l0 9 ((z_J σ5 l0 9) + l2.toInt64)) (fun σ8 => (if z_ob σ8 l0 0 then (zl (z_pI σ8 l0 8 (if (z_I σ8 l0 8) < l2 then l2 else (z_I σ8 l0 8))) (fun σ11 => (some σ11))) else none))) else none))) else none))) else none)
set_option maxRecDepth 20000 in
set_option maxHeartbeats 4000000 in
theorem K_X0_addSent {σ : zSt} {l0 : Nat} {l1 : Int32} {l2 : Int32}  {σ' : zSt} (hf : f_X0_addSent σ l0 l1 l2 = some σ') : z_M l D cA bs yX0_addSent cX0_addSent 3 none 1 25 0 0 [.ref l0, .int l1, .int l2] σ (z_Qv D cA bs σ') := by
  refine z_met (own := RX0) (lv := [(0, .ref l0), (1, .int l1), (2, .int l2)]) (by decide) rfl (Nat.le_of_ble_eq_true rfl) rfl (fun p e s m below meth c ls B hnm hW hl => ?_)
  have hx := B.1
  have hb := B.2.1
  have hown := B.2.2.2.1
  have hts := B.2.2.2.2.1
  unfold f_X0_addSent at hf
  refine lv_aload_n hx hb dX0_addSent_0 rfl (lv_at hl 0 rfl) ?_
  refine lv_dup hx hb dX0_addSent_1 rfl ?_
  obtain ⟨hg1, hf⟩ := z_g hf
  refine z_getI B hW (Or.inl zf_X0_13) rfl hg1 dX0_addSent_2 ?_
  refine lv_iconst (v := (1 : Int32)) hx hb dX0_addSent_5 (by decide) ?_
  refine lv_iadd hx hb dX0_addSent_6 ?_
  obtain ⟨σ2, hs3, hf⟩ := z_l hf
  refine z_putI B hW zf_X0_13 hg1 rfl hs3 dX0_addSent_7 (fun H locs hW => ?_)
  refine lv_aload_n hx hb dX0_addSent_10 rfl (lv_at hl 0 rfl) ?_
  refine lv_dup hx hb dX0_addSent_11 rfl ?_
  obtain ⟨hg4, hf⟩ := z_g hf
  refine z_getI B hW (Or.inl zf_X0_28) rfl hg4 dX0_addSent_12 ?_
  refine lv_iload_n hx hb dX0_addSent_15 rfl (lv_at hl 1 rfl) ?_
  refine lv_iadd hx hb dX0_addSent_16 ?_
  obtain ⟨σ5, hs6, hf⟩ := z_l hf
  refine z_putI B hW zf_X0_28 hg4 rfl hs6 dX0_addSent_17 (fun H locs hW => ?_)
  refine lv_aload_n hx hb dX0_addSent_20 rfl (lv_at hl 0 rfl) ?_
  refine lv_dup hx hb dX0_addSent_21 rfl ?_
  obtain ⟨hg7, hf⟩ := z_g hf
  refine z_getJ B hW (Or.inl zf_X0_37) rfl hg7 dX0_addSent_22 ?_
  refine lv_iload_n hx hb dX0_addSent_25 rfl (lv_at hl 2 rfl) ?_
  refine lv_i2l (v := l2.toInt64) hx hb dX0_addSent_26 rfl ?_
  refine lv_ladd hx hb dX0_addSent_27 ?_
  obtain ⟨σ8, hs9, hf⟩ := z_l hf
  refine z_putJ B hW zf_X0_37 rfl hg7 hs9 dX0_addSent_28 (fun H locs hW => ?_)
  refine lv_aload_n hx hb dX0_addSent_31 rfl (lv_at hl 0 rfl) ?_
  refine lv_aload_n hx hb dX0_addSent_32 rfl (lv_at hl 0 rfl) ?_
  obtain ⟨hg10, hf⟩ := z_g hf
  refine z_getI B hW (Or.inl zf_X0_34) rfl hg10 dX0_addSent_33 ?_
  refine lv_iload_n hx hb dX0_addSent_36 rfl (lv_at hl 2 rfl) ?_
  refine va_mmax hx hb (by rw [B.2.2.1]; exact hl.1.symm) hown (hts _ zmm_X0_41.1) (hts _ zmm_X0_41.2.1) (hts _ zmm_X0_41.2.2.1) (hts _ zmm_X0_41.2.2.2) (Nat.le_of_ble_eq_true rfl) (by simp [z_cat, z_k1, z_k2, z_k3, z_k4, z_k5, zrm]) (Nat.le_of_ble_eq_true rfl) (Nat.le_of_ble_eq_true rfl) dX0_addSent_37 ?_
  obtain ⟨σ11, hs12, hf⟩ := z_l hf
  refine z_putI B hW zf_X0_34 hg10 rfl hs12 dX0_addSent_40 (fun H locs hW => ?_)
  obtain rfl := z_e1 hf
  exact z_rv B hW dX0_addSent_43 (Nat.le_of_ble_eq_true rfl) (Nat.le_of_ble_eq_true rfl)
set_option maxRecDepth 100000 in
def f_X0_value (σ : zSt) (l0 : Nat) (l1 : Int32) : Option (Int32) :=
(if l1 = (0 : Int32) then
(if z_ob σ l0 0 then (some (z_I σ l0 0)) else none)
else
(if l1 = (1 : Int32) then
(if z_ob σ l0 0 then (some (z_I σ l0 1)) else none)
else
(if l1 = (2 : Int32) then
(if z_ob σ l0 0 then (some (z_I σ l0 2)) else none)
else
(if l1 = (3 : Int32) then
(if z_ob σ l0 0 then (some (z_I σ l0 3)) else none)
else
(if l1 = (4 : Int32) then
(if z_ob σ l0 0 then (some (z_I σ l0 4)) else none)
else
(if l1 = (5 : Int32) then
(if z_ob σ l0 0 then (some (z_I σ l0 5)) else none)
else
(if z_ob σ l0 0 then (some (z_I σ l0 6)) else none)))))))
set_option maxRecDepth 20000 in
set_option maxHeartbeats 4000000 in
theorem K_X0_value {σ : zSt} {l0 : Nat} {l1 : Int32} {r : Int32} (hf : f_X0_value σ l0 l1 = some r) : z_M l D cA bs yX0_value cX0_value 2 (some .int) 0 0 0 0 [.ref l0, .int l1] σ (z_Qi D cA bs r σ) := by
  refine z_met (own := RX0) (lv := [(0, .ref l0), (1, .int l1)]) (by decide) rfl (Nat.le_of_ble_eq_true rfl) rfl (fun p e s m below meth c ls B hnm hW hl => ?_)
  have hx := B.1
  have hb := B.2.1
  have hown := B.2.2.2.1
  have hts := B.2.2.2.2.1
  unfold f_X0_value at hf
  refine lv_iload_n hx hb dX0_value_0 rfl (lv_at hl 1 rfl) ?_
  by_cases hw0 : l1 = (0 : Int32)
  · replace hf := z_ip hw0 hf
    refine lv_tableIn (tgt := 40) (off := 39) hx hb dX0_value_1 (by rw [hw0]; decide) (by rw [hw0]; decide) (by rw [hw0]; decide) (by decide) ?_
    refine lv_aload_n hx hb dX0_value_40 rfl (lv_at hl 0 rfl) ?_
    obtain ⟨hg1, hf⟩ := z_g hf
    refine z_getI B hW (Or.inl zf_X0_7) rfl hg1 dX0_value_41 ?_
    obtain rfl := z_e1 hf
    exact z_ri B hW dX0_value_44 (Nat.le_of_ble_eq_true rfl) (Nat.le_of_ble_eq_true rfl)
  replace hf := z_in hw0 hf
  by_cases hw1 : l1 = (1 : Int32)
  · replace hf := z_ip hw1 hf
    refine lv_tableIn (tgt := 45) (off := 44) hx hb dX0_value_1 (by rw [hw1]; decide) (by rw [hw1]; decide) (by rw [hw1]; decide) (by decide) ?_
    refine lv_aload_n hx hb dX0_value_45 rfl (lv_at hl 0 rfl) ?_
    obtain ⟨hg2, hf⟩ := z_g hf
    refine z_getI B hW (Or.inl zf_X0_13) rfl hg2 dX0_value_46 ?_
    obtain rfl := z_e1 hf
    exact z_ri B hW dX0_value_49 (Nat.le_of_ble_eq_true rfl) (Nat.le_of_ble_eq_true rfl)
  replace hf := z_in hw1 hf
  by_cases hw2 : l1 = (2 : Int32)
  · replace hf := z_ip hw2 hf
    refine lv_tableIn (tgt := 50) (off := 49) hx hb dX0_value_1 (by rw [hw2]; decide) (by rw [hw2]; decide) (by rw [hw2]; decide) (by decide) ?_
    refine lv_aload_n hx hb dX0_value_50 rfl (lv_at hl 0 rfl) ?_
    obtain ⟨hg3, hf⟩ := z_g hf
    refine z_getI B hW (Or.inl zf_X0_16) rfl hg3 dX0_value_51 ?_
    obtain rfl := z_e1 hf
    exact z_ri B hW dX0_value_54 (Nat.le_of_ble_eq_true rfl) (Nat.le_of_ble_eq_true rfl)
  replace hf := z_in hw2 hf
  by_cases hw3 : l1 = (3 : Int32)
  · replace hf := z_ip hw3 hf
    refine lv_tableIn (tgt := 55) (off := 54) hx hb dX0_value_1 (by rw [hw3]; decide) (by rw [hw3]; decide) (by rw [hw3]; decide) (by decide) ?_
    refine lv_aload_n hx hb dX0_value_55 rfl (lv_at hl 0 rfl) ?_
    obtain ⟨hg4, hf⟩ := z_g hf
    refine z_getI B hW (Or.inl zf_X0_19) rfl hg4 dX0_value_56 ?_
    obtain rfl := z_e1 hf
    exact z_ri B hW dX0_value_59 (Nat.le_of_ble_eq_true rfl) (Nat.le_of_ble_eq_true rfl)
  replace hf := z_in hw3 hf
  by_cases hw4 : l1 = (4 : Int32)
  · replace hf := z_ip hw4 hf
    refine lv_tableIn (tgt := 60) (off := 59) hx hb dX0_value_1 (by rw [hw4]; decide) (by rw [hw4]; decide) (by rw [hw4]; decide) (by decide) ?_
    refine lv_aload_n hx hb dX0_value_60 rfl (lv_at hl 0 rfl) ?_
    obtain ⟨hg5, hf⟩ := z_g hf
    refine z_getI B hW (Or.inl zf_X0_22) rfl hg5 dX0_value_61 ?_
    obtain rfl := z_e1 hf
    exact z_ri B hW dX0_value_64 (Nat.le_of_ble_eq_true rfl) (Nat.le_of_ble_eq_true rfl)
  replace hf := z_in hw4 hf
  by_cases hw5 : l1 = (5 : Int32)
  · replace hf := z_ip hw5 hf
    refine lv_tableIn (tgt := 65) (off := 64) hx hb dX0_value_1 (by rw [hw5]; decide) (by rw [hw5]; decide) (by rw [hw5]; decide) (by decide) ?_
    refine lv_aload_n hx hb dX0_value_65 rfl (lv_at hl 0 rfl) ?_
    obtain ⟨hg6, hf⟩ := z_g hf
    refine z_getI B hW (Or.inl zf_X0_25) rfl hg6 dX0_value_66 ?_
    obtain rfl := z_e1 hf
    exact z_ri B hW dX0_value_69 (Nat.le_of_ble_eq_true rfl) (Nat.le_of_ble_eq_true rfl)
  replace hf := z_in hw5 hf
  refine lv_tableOut (tgt := 70) hx hb dX0_value_1 (z_tout (fun k h1 h2 => by rcases (by omega : k = 0 ∨ k = 1 ∨ k = 2 ∨ k = 3 ∨ k = 4 ∨ k = 5) with rfl | rfl | rfl | rfl | rfl | rfl <;> assumption)) (by decide) ?_
  refine lv_aload_n hx hb dX0_value_70 rfl (lv_at hl 0 rfl) ?_
  obtain ⟨hg7, hf⟩ := z_g hf
  refine z_getI B hW (Or.inl zf_X0_28) rfl hg7 dX0_value_71 ?_
  obtain rfl := z_e1 hf
  exact z_ri B hW dX0_value_74 (Nat.le_of_ble_eq_true rfl) (Nat.le_of_ble_eq_true rfl)
set_option maxRecDepth 100000 in
def f_X7_init (σ : zSt) (l0 : Nat) (l1 : Int32) (l2 : Int32) : Option (zSt) :=
(if z_ob σ l0 7 then (zl (z_pI σ l0 0 l2) (fun σ2 => (if z_nl (if (0 : Int32) < (l1 * l2) then (l1 * l2) else (0 : Int32)) 600 then (zl (z_nw σ2 (.inr (0, (if (0 : Int32) < (l1 * l2) then (l1 * l2) else (0 : Int32)).toNatClampNeg))) (fun σ5 => (if z_ob σ5 l0 7 then (zl (z_pR σ5 l0 1 (some (z_nx σ2))) (fun σ8 => (some σ8))) else none))) else none))) else none)
set_option maxRecDepth 20000 in
set_option maxHeartbeats 4000000 in
theorem K_X7_init {σ : zSt} {l0 : Nat} {l1 : Int32} {l2 : Int32}  {σ' : zSt} (hf : f_X7_init σ l0 l1 l2 = some σ') : z_M l D cA bs yX7_init cX7_init 3 none 1 25 1 600 [.ref l0, .int l1, .int l2] σ (z_Qv D cA bs σ') := by
  refine z_met (own := RX7) (lv := [(0, .ref l0), (1, .int l1), (2, .int l2)]) (by decide) rfl (Nat.le_of_ble_eq_true rfl) rfl (fun p e s m below meth c ls B hnm hW hl => ?_)
  have hx := B.1
  have hb := B.2.1
  have hown := B.2.2.2.1
  have hts := B.2.2.2.2.1
  unfold f_X7_init at hf
  refine lv_aload_n hx hb dX7_init_0 rfl (lv_at hl 0 rfl) ?_
  refine W.objInit hx hb hown (hts _ zoi_X7_3) (hts _ zoi_a) (hts _ zoi_b) rfl (by rw [B.2.2.1]; exact hl.1) rfl dX7_init_1 (Nat.le_of_ble_eq_true rfl) (Nat.le_of_ble_eq_true rfl) ?_
  refine W.eq (g2 := F0 m 4 ls []) rfl ?_
  refine lv_aload_n hx hb dX7_init_4 rfl (lv_at hl 0 rfl) ?_
  refine lv_iload_n hx hb dX7_init_5 rfl (lv_at hl 2 rfl) ?_
  obtain ⟨hg1, hf⟩ := z_g hf
  obtain ⟨σ2, hs3, hf⟩ := z_l hf
  refine z_putIF B hnm hW zf_X7_9 (fun C T h => by cases h; rfl) hg1 rfl hs3 dX7_init_6 (fun H locs hW => ?_)
  refine lv_aload_n hx hb dX7_init_9 rfl (lv_at hl 0 rfl) ?_
  refine lv_iconst (v := (0 : Int32)) hx hb dX7_init_10 (by decide) ?_
  refine lv_iload_n hx hb dX7_init_11 rfl (lv_at hl 1 rfl) ?_
  refine lv_iload_n hx hb dX7_init_12 rfl (lv_at hl 2 rfl) ?_
  refine lv_imul hx hb dX7_init_13 ?_
  refine va_mmax hx hb (by rw [B.2.2.1]; exact hl.1.symm) hown (hts _ zmm_X7_15.1) (hts _ zmm_X7_15.2.1) (hts _ zmm_X7_15.2.2.1) (hts _ zmm_X7_15.2.2.2) (Nat.le_of_ble_eq_true rfl) (by simp [z_cat, z_k1, z_k2, z_k3, z_k4, z_k5, zrm]) (Nat.le_of_ble_eq_true rfl) (Nat.le_of_ble_eq_true rfl) dX7_init_14 ?_
  obtain ⟨hg4, hf⟩ := z_g hf
  obtain ⟨σ5, hs6, hf⟩ := z_l hf
  refine z_newA (atype := .int) B hW (by decide) zac_int (N := (if (0 : Int32) < (l1 * l2) then (l1 * l2) else (0 : Int32)).toNatClampNeg) (z_nl0 hg4) rfl (Nat.le_trans (Nat.mul_le_mul_right 8 (z_nl1 hg4)) (by decide)) hs6 (Nat.le_of_ble_eq_true rfl) (Nat.le_trans (Nat.add_le_add_left (z_nl1 hg4) _) (Nat.le_of_ble_eq_true rfl)) dX7_init_17 (fun H hW => ?_)
  refine W.widen (k := 1) (n := 600) (Nat.le_refl _) (Nat.add_le_add_left (z_nl1 hg4) _) ?_
  obtain ⟨hg7, hf⟩ := z_g hf
  obtain ⟨σ8, hs9, hf⟩ := z_l hf
  refine z_putRF B hnm hW zf_X7_21 (fun C T h => by cases h; rfl) rfl hg7 (v := (some (z_nx σ2))) hs9 dX7_init_19 (fun H locs hW => ?_)
  obtain rfl := z_e1 hf
  exact z_rv B hW dX7_init_22 (Nat.le_of_ble_eq_true rfl) (Nat.le_of_ble_eq_true rfl)
set_option maxRecDepth 100000 in
def f_X3_init (σ : zSt) (l0 : Nat) : Option (zSt) :=
(zl (z_nw σ (.inl 7)) (fun σ1 => (zb (f_X7_init σ1 (z_nx σ) (100 : Int32) (6 : Int32)) (fun σ4 => (if z_ob σ4 l0 3 then (zl (z_pR σ4 l0 0 (some (z_nx σ))) (fun σ6 => (some σ6))) else none)))))
set_option maxRecDepth 20000 in
set_option maxHeartbeats 4000000 in
theorem K_X3_init {σ : zSt} {l0 : Nat}  {σ' : zSt} (hf : f_X3_init σ l0 = some σ') : z_M l D cA bs yX3_init cX3_init 1 none 2 47 2 602 [.ref l0] σ (z_Qv D cA bs σ') := by
  refine z_met (own := RX3) (lv := [(0, .ref l0)]) (by decide) rfl (Nat.le_of_ble_eq_true rfl) rfl (fun p e s m below meth c ls B hnm hW hl => ?_)
  have hx := B.1
  have hb := B.2.1
  have hown := B.2.2.2.1
  have hts := B.2.2.2.2.1
  unfold f_X3_init at hf
  refine lv_aload_n hx hb dX3_init_0 rfl (lv_at hl 0 rfl) ?_
  refine W.objInit hx hb hown (hts _ zoi_X3_3) (hts _ zoi_a) (hts _ zoi_b) rfl (by rw [B.2.2.1]; exact hl.1) rfl dX3_init_1 (Nat.le_of_ble_eq_true rfl) (Nat.le_of_ble_eq_true rfl) ?_
  refine W.eq (g2 := F0 m 4 ls []) rfl ?_
  refine lv_aload_n hx hb dX3_init_4 rfl (lv_at hl 0 rfl) ?_
  obtain ⟨σ1, hs2, hf⟩ := z_l hf
  refine z_newOb B hW zw_X3_9 hs2 (Nat.le_of_ble_eq_true rfl) (Nat.le_of_ble_eq_true rfl) dX3_init_5 (fun H hW => ?_)
  refine lv_dup hx hb dX3_init_8 rfl ?_
  refine lv_bipush (v := (100 : Int32)) hx hb dX3_init_9 (by decide) ?_
  refine lv_bipush (v := (6 : Int32)) hx hb dX3_init_11 (by decide) ?_
  obtain ⟨σ4, hq3, hf⟩ := z_b hf
  refine z_cv hW (z_runI (As := [.int (100 : Int32), .int (6 : Int32)]) (rest := [.ref (z_nx σ), .ref l0]) B hW zv_X3_13 (K_X7_init hq3) rfl rfl (Nat.le_of_ble_eq_true rfl) hl.1 ⟨Nat.le_of_ble_eq_true rfl, Nat.le_of_ble_eq_true rfl⟩ dX3_init_13 ⟨Nat.le_of_ble_eq_true rfl, Nat.le_of_ble_eq_true rfl⟩) (fun H locs hW => ?_)
  obtain ⟨hg5, hf⟩ := z_g hf
  obtain ⟨σ6, hs7, hf⟩ := z_l hf
  refine z_putRF B hnm hW zf_X3_16 (fun C T h => by cases h; rfl) rfl hg5 (v := (some (z_nx σ))) hs7 dX3_init_16 (fun H locs hW => ?_)
  obtain rfl := z_e1 hf
  exact z_rv B hW dX3_init_19 (Nat.le_of_ble_eq_true rfl) (Nat.le_of_ble_eq_true rfl)
set_option maxRecDepth 100000 in
def f_X4_init (σ : zSt) (l0 : Nat) : Option (zSt) :=
(zl (z_nw σ (.inr (0, 20))) (fun σ1 => (if z_ob σ1 l0 4 then (zl (z_pR σ1 l0 0 (some (z_nx σ))) (fun σ4 => (zl (z_nw σ4 (.inr (0, 20))) (fun σ6 => (if z_ob σ6 l0 4 then (zl (z_pR σ6 l0 1 (some (z_nx σ4))) (fun σ9 => (some σ9))) else none))))) else none)))
set_option maxRecDepth 20000 in
set_option maxHeartbeats 4000000 in
theorem K_X4_init {σ : zSt} {l0 : Nat}  {σ' : zSt} (hf : f_X4_init σ l0 = some σ') : z_M l D cA bs yX4_init cX4_init 1 none 1 25 2 40 [.ref l0] σ (z_Qv D cA bs σ') := by
  refine z_met (own := RX4) (lv := [(0, .ref l0)]) (by decide) rfl (Nat.le_of_ble_eq_true rfl) rfl (fun p e s m below meth c ls B hnm hW hl => ?_)
  have hx := B.1
  have hb := B.2.1
  have hown := B.2.2.2.1
  have hts := B.2.2.2.2.1
  unfold f_X4_init at hf
  refine lv_aload_n hx hb dX4_init_0 rfl (lv_at hl 0 rfl) ?_
  refine W.objInit hx hb hown (hts _ zoi_X4_3) (hts _ zoi_a) (hts _ zoi_b) rfl (by rw [B.2.2.1]; exact hl.1) rfl dX4_init_1 (Nat.le_of_ble_eq_true rfl) (Nat.le_of_ble_eq_true rfl) ?_
  refine W.eq (g2 := F0 m 4 ls []) rfl ?_
  refine lv_aload_n hx hb dX4_init_4 rfl (lv_at hl 0 rfl) ?_
  refine lv_bipush (v := (20 : Int32)) hx hb dX4_init_5 (by decide) ?_
  obtain ⟨σ1, hs2, hf⟩ := z_l hf
  refine z_newA (atype := .int) B hW (by decide) zac_int (N := 20) (by decide) (by decide) (by decide) hs2 (Nat.le_of_ble_eq_true rfl) (Nat.le_of_ble_eq_true rfl) dX4_init_7 (fun H hW => ?_)
  obtain ⟨hg3, hf⟩ := z_g hf
  obtain ⟨σ4, hs5, hf⟩ := z_l hf
  refine z_putRF B hnm hW zf_X4_9 (fun C T h => by cases h; rfl) rfl hg3 (v := (some (z_nx σ))) hs5 dX4_init_9 (fun H locs hW => ?_)
  refine lv_aload_n hx hb dX4_init_12 rfl (lv_at hl 0 rfl) ?_
  refine lv_bipush (v := (20 : Int32)) hx hb dX4_init_13 (by decide) ?_
  obtain ⟨σ6, hs7, hf⟩ := z_l hf
  refine z_newA (atype := .int) B hW (by decide) zac_int (N := 20) (by decide) (by decide) (by decide) hs7 (Nat.le_of_ble_eq_true rfl) (Nat.le_of_ble_eq_true rfl) dX4_init_15 (fun H hW => ?_)
  obtain ⟨hg8, hf⟩ := z_g hf
  obtain ⟨σ9, hs10, hf⟩ := z_l hf
  refine z_putRF B hnm hW zf_X4_15 (fun C T h => by cases h; rfl) rfl hg8 (v := (some (z_nx σ4))) hs10 dX4_init_17 (fun H locs hW => ?_)
  obtain rfl := z_e1 hf
  exact z_rv B hW dX4_init_20 (Nat.le_of_ble_eq_true rfl) (Nat.le_of_ble_eq_true rfl)
set_option maxRecDepth 100000 in
def f_X6_init (σ : zSt) (l0 : Nat) : Option (Unit) :=
(some ())
set_option maxRecDepth 20000 in
set_option maxHeartbeats 4000000 in
theorem K_X6_init {σ : zSt} {l0 : Nat}  (hf : f_X6_init σ l0 = some ()) : z_M l D cA bs yX6_init cX6_init 1 none 1 25 0 0 [.ref l0] σ (z_Qv D cA bs σ) := by
  refine z_met (own := RX6) (lv := [(0, .ref l0)]) (by decide) rfl (Nat.le_of_ble_eq_true rfl) rfl (fun p e s m below meth c ls B hnm hW hl => ?_)
  have hx := B.1
  have hb := B.2.1
  have hown := B.2.2.2.1
  have hts := B.2.2.2.2.1
  unfold f_X6_init at hf
  refine lv_aload_n hx hb dX6_init_0 rfl (lv_at hl 0 rfl) ?_
  refine W.objInit hx hb hown (hts _ zoi_X6_3) (hts _ zoi_a) (hts _ zoi_b) rfl (by rw [B.2.2.1]; exact hl.1) rfl dX6_init_1 (Nat.le_of_ble_eq_true rfl) (Nat.le_of_ble_eq_true rfl) ?_
  refine W.eq (g2 := F0 m 4 ls []) rfl ?_
  skip
  exact z_rv B hW dX6_init_4 (Nat.le_of_ble_eq_true rfl) (Nat.le_of_ble_eq_true rfl)
end GEN
