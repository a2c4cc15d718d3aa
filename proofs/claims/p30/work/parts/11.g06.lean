section GEN
variable {p : Program} {l : Launch} {e : Env} {s : State} {m : MethodId} {args : Array Value} {below : List Frame} {meth : Method} {c : Code} {D : va_G} {cA : Nat → ClassId} {bs : Nat}
set_option maxRecDepth 100000 in
def f_X2_settingValue (σ : zSt) (l0 : Nat) (l1 : Int32) : Option (Int32) :=
(if l1 = (0 : Int32) then
(if z_ob σ l0 2 then (some (z_I σ l0 6)) else none)
else
(if l1 = (1 : Int32) then
(if z_ob σ l0 2 then (some (z_I σ l0 7)) else none)
else
(if l1 = (2 : Int32) then
(if z_ob σ l0 2 then (some (z_I σ l0 8)) else none)
else
(if l1 = (3 : Int32) then
(if z_ob σ l0 2 then (some (z_I σ l0 5)) else none)
else
(if l1 = (4 : Int32) then
(if z_ob σ l0 2 then (zb (f_X2_ringSize σ l0) (fun r7 => (some r7))) else none)
else
(if l1 = (5 : Int32) then
(if z_ob σ l0 2 then (zc (z_R σ l0 2) none (fun q9 => (if z_ob σ q9 4 then (some (z_I σ q9 2)) else none))) else none)
else
(if l1 = (6 : Int32) then
(if z_ob σ l0 2 then (some (z_I σ l0 9)) else none)
else
(if l1 = (7 : Int32) then
(if z_ob σ l0 2 then (some (z_I σ l0 10)) else none)
else
(if z_ob σ l0 2 then (zc (z_R σ l0 1) none (fun q15 => (if z_ob σ q15 3 then (zb (f_X3_number σ q15) (fun r19 => (some r19))) else none))) else none)))))))))
set_option maxRecDepth 20000 in
set_option maxHeartbeats 4000000 in
theorem K_X2_settingValue {σ : zSt} {l0 : Nat} {l1 : Int32} {r : Int32} (hf : f_X2_settingValue σ l0 l1 = some r) : z_M l D cA bs yX2_settingValue cX2_settingValue 2 (some .int) 2 44 0 0 [.ref l0, .int l1] σ (z_Qi D cA bs r σ) := by
  refine z_met (own := RX2) (lv := [(0, .ref l0), (1, .int l1)]) (by decide) rfl (Nat.le_of_ble_eq_true rfl) rfl (fun p e s m below meth c ls B hnm hW hl => ?_)
  have hx := B.1
  have hb := B.2.1
  have hown := B.2.2.2.1
  have hts := B.2.2.2.2.1
  unfold f_X2_settingValue at hf
  refine lv_iload_n hx hb dX2_settingValue_0 rfl (lv_at hl 1 rfl) ?_
  by_cases hw0 : l1 = (0 : Int32)
  · replace hf := z_ip hw0 hf
    refine lv_tableIn (tgt := 48) (off := 47) hx hb dX2_settingValue_1 (by rw [hw0]; decide) (by rw [hw0]; decide) (by rw [hw0]; decide) (by decide) ?_
    refine lv_aload_n hx hb dX2_settingValue_48 rfl (lv_at hl 0 rfl) ?_
    obtain ⟨hg1, hf⟩ := z_g hf
    refine z_getI B hW (Or.inl zf_X2_47) rfl hg1 dX2_settingValue_49 ?_
    obtain rfl := z_e1 hf
    exact z_ri B hW dX2_settingValue_52 (Nat.le_of_ble_eq_true rfl) (Nat.le_of_ble_eq_true rfl)
  replace hf := z_in hw0 hf
  by_cases hw1 : l1 = (1 : Int32)
  · replace hf := z_ip hw1 hf
    refine lv_tableIn (tgt := 53) (off := 52) hx hb dX2_settingValue_1 (by rw [hw1]; decide) (by rw [hw1]; decide) (by rw [hw1]; decide) (by decide) ?_
    refine lv_aload_n hx hb dX2_settingValue_53 rfl (lv_at hl 0 rfl) ?_
    obtain ⟨hg2, hf⟩ := z_g hf
    refine z_getI B hW (Or.inl zf_X2_51) rfl hg2 dX2_settingValue_54 ?_
    obtain rfl := z_e1 hf
    exact z_ri B hW dX2_settingValue_57 (Nat.le_of_ble_eq_true rfl) (Nat.le_of_ble_eq_true rfl)
  replace hf := z_in hw1 hf
  by_cases hw2 : l1 = (2 : Int32)
  · replace hf := z_ip hw2 hf
    refine lv_tableIn (tgt := 58) (off := 57) hx hb dX2_settingValue_1 (by rw [hw2]; decide) (by rw [hw2]; decide) (by rw [hw2]; decide) (by decide) ?_
    refine lv_aload_n hx hb dX2_settingValue_58 rfl (lv_at hl 0 rfl) ?_
    obtain ⟨hg3, hf⟩ := z_g hf
    refine z_getI B hW (Or.inl zf_X2_54) rfl hg3 dX2_settingValue_59 ?_
    obtain rfl := z_e1 hf
    exact z_ri B hW dX2_settingValue_62 (Nat.le_of_ble_eq_true rfl) (Nat.le_of_ble_eq_true rfl)
  replace hf := z_in hw2 hf
  by_cases hw3 : l1 = (3 : Int32)
  · replace hf := z_ip hw3 hf
    refine lv_tableIn (tgt := 63) (off := 62) hx hb dX2_settingValue_1 (by rw [hw3]; decide) (by rw [hw3]; decide) (by rw [hw3]; decide) (by decide) ?_
    refine lv_aload_n hx hb dX2_settingValue_63 rfl (lv_at hl 0 rfl) ?_
    obtain ⟨hg4, hf⟩ := z_g hf
    refine z_getI B hW (Or.inl zf_X2_61) rfl hg4 dX2_settingValue_64 ?_
    obtain rfl := z_e1 hf
    exact z_ri B hW dX2_settingValue_67 (Nat.le_of_ble_eq_true rfl) (Nat.le_of_ble_eq_true rfl)
  replace hf := z_in hw3 hf
  by_cases hw4 : l1 = (4 : Int32)
  · replace hf := z_ip hw4 hf
    refine lv_tableIn (tgt := 68) (off := 67) hx hb dX2_settingValue_1 (by rw [hw4]; decide) (by rw [hw4]; decide) (by rw [hw4]; decide) (by decide) ?_
    refine lv_aload_n hx hb dX2_settingValue_68 rfl (lv_at hl 0 rfl) ?_
    obtain ⟨hg5, hf⟩ := z_g hf
    obtain ⟨r7, hq6, hf⟩ := z_b hf
    refine z_ci hW (z_runV (As := []) (rest := []) B hW zv_X2_144 (K_X2_ringSize hq6) hg5 rfl rfl rfl (Nat.le_of_ble_eq_true rfl) hl.1 ⟨Nat.le_of_ble_eq_true rfl, Nat.le_of_ble_eq_true rfl⟩ dX2_settingValue_69 ⟨Nat.le_of_ble_eq_true rfl, Nat.le_of_ble_eq_true rfl⟩) (fun H locs hW => ?_)
    obtain rfl := z_e1 hf
    exact z_ri B hW dX2_settingValue_72 (Nat.le_of_ble_eq_true rfl) (Nat.le_of_ble_eq_true rfl)
  replace hf := z_in hw4 hf
  by_cases hw5 : l1 = (5 : Int32)
  · replace hf := z_ip hw5 hf
    refine lv_tableIn (tgt := 73) (off := 72) hx hb dX2_settingValue_1 (by rw [hw5]; decide) (by rw [hw5]; decide) (by rw [hw5]; decide) (by decide) ?_
    refine lv_aload_n hx hb dX2_settingValue_73 rfl (lv_at hl 0 rfl) ?_
    obtain ⟨hg8, hf⟩ := z_g hf
    obtain ⟨q9, hv10, hf⟩ := z_nn hf
    refine z_getN B hW (Or.inr zf_X2_27) rfl hg8 hv10 dX2_settingValue_74 ?_
    obtain ⟨hg11, hf⟩ := z_g hf
    refine z_getI B hW (Or.inl zf_X2_147) rfl hg11 dX2_settingValue_77 ?_
    obtain rfl := z_e1 hf
    exact z_ri B hW dX2_settingValue_80 (Nat.le_of_ble_eq_true rfl) (Nat.le_of_ble_eq_true rfl)
  replace hf := z_in hw5 hf
  by_cases hw6 : l1 = (6 : Int32)
  · replace hf := z_ip hw6 hf
    refine lv_tableIn (tgt := 81) (off := 80) hx hb dX2_settingValue_1 (by rw [hw6]; decide) (by rw [hw6]; decide) (by rw [hw6]; decide) (by decide) ?_
    refine lv_aload_n hx hb dX2_settingValue_81 rfl (lv_at hl 0 rfl) ?_
    obtain ⟨hg12, hf⟩ := z_g hf
    refine z_getI B hW (Or.inl zf_X2_69) rfl hg12 dX2_settingValue_82 ?_
    obtain rfl := z_e1 hf
    exact z_ri B hW dX2_settingValue_85 (Nat.le_of_ble_eq_true rfl) (Nat.le_of_ble_eq_true rfl)
  replace hf := z_in hw6 hf
  by_cases hw7 : l1 = (7 : Int32)
  · replace hf := z_ip hw7 hf
    refine lv_tableIn (tgt := 86) (off := 85) hx hb dX2_settingValue_1 (by rw [hw7]; decide) (by rw [hw7]; decide) (by rw [hw7]; decide) (by decide) ?_
    refine lv_aload_n hx hb dX2_settingValue_86 rfl (lv_at hl 0 rfl) ?_
    obtain ⟨hg13, hf⟩ := z_g hf
    refine z_getI B hW (Or.inl zf_X2_57) rfl hg13 dX2_settingValue_87 ?_
    obtain rfl := z_e1 hf
    exact z_ri B hW dX2_settingValue_90 (Nat.le_of_ble_eq_true rfl) (Nat.le_of_ble_eq_true rfl)
  replace hf := z_in hw7 hf
  refine lv_tableOut (tgt := 91) hx hb dX2_settingValue_1 (z_tout (fun k h1 h2 => by rcases (by omega : k = 0 ∨ k = 1 ∨ k = 2 ∨ k = 3 ∨ k = 4 ∨ k = 5 ∨ k = 6 ∨ k = 7) with rfl | rfl | rfl | rfl | rfl | rfl | rfl | rfl <;> assumption)) (by decide) ?_
  refine lv_aload_n hx hb dX2_settingValue_91 rfl (lv_at hl 0 rfl) ?_
  obtain ⟨hg14, hf⟩ := z_g hf
  obtain ⟨q15, hv16, hf⟩ := z_nn hf
  refine z_getN B hW (Or.inr zf_X2_20) rfl hg14 hv16 dX2_settingValue_92 ?_
  obtain ⟨hg17, hf⟩ := z_g hf
  obtain ⟨r19, hq18, hf⟩ := z_b hf
  refine z_ci hW (z_runV (As := []) (rest := []) B hW zv_X2_150 (K_X3_number hq18) hg17 rfl rfl rfl (Nat.le_of_ble_eq_true rfl) hl.1 ⟨Nat.le_of_ble_eq_true rfl, Nat.le_of_ble_eq_true rfl⟩ dX2_settingValue_95 ⟨Nat.le_of_ble_eq_true rfl, Nat.le_of_ble_eq_true rfl⟩) (fun H locs hW => ?_)
  obtain rfl := z_e1 hf
  exact z_ri B hW dX2_settingValue_98 (Nat.le_of_ble_eq_true rfl) (Nat.le_of_ble_eq_true rfl)
set_option maxRecDepth 100000 in
def f_X9_mixed (σ : zSt) (l0 : Int64) (l2 : Int64) : Option (Int64) :=
(some (((31 : Int64) * l0) + l2))
set_option maxRecDepth 20000 in
set_option maxHeartbeats 4000000 in
theorem K_X9_mixed {σ : zSt} {l0 : Int64} {l2 : Int64} {r : Int64} (hf : f_X9_mixed σ l0 l2 = some r) : z_M l D cA bs yX9_mixed cX9_mixed 4 (some .long) 0 0 0 0 [.long l0, .long l2] σ (z_Ql D cA bs r σ) := by
  refine z_met (own := RX9) (lv := [(0, .long l0), (2, .long l2)]) (by decide) rfl (Nat.le_of_ble_eq_true rfl) rfl (fun p e s m below meth c ls B hnm hW hl => ?_)
  have hx := B.1
  have hb := B.2.1
  have hown := B.2.2.2.1
  have hts := B.2.2.2.2.1
  unfold f_X9_mixed at hf
  refine lv_ldc2 hx hb hown (hts _ zk_X9_282) dX9_mixed_0 ?_
  refine lv_lload_n hx hb dX9_mixed_3 rfl (lv_at hl 0 rfl) ?_
  refine lv_lmul hx hb dX9_mixed_4 ?_
  refine lv_lload_n hx hb dX9_mixed_5 rfl (lv_at hl 1 rfl) ?_
  refine lv_ladd hx hb dX9_mixed_6 ?_
  obtain rfl := z_e1 hf
  exact z_rl B hW dX9_mixed_7 (Nat.le_of_ble_eq_true rfl) (Nat.le_of_ble_eq_true rfl)
set_option maxRecDepth 100000 in
def f_X6_value_52 (σ : zSt) (s0 : Int32) : Option (Int32) :=
(some s0)
set_option maxRecDepth 20000 in
set_option maxHeartbeats 4000000 in
theorem t_X6_value_52 (B : z_B p s m args meth c D cA bs RX6 cX6_value 2 (some .int)) {r : Int32} {σ : zSt} {s0 : Int32} (hf : f_X6_value_52 σ s0 = some r) {H : Heap} {locs : List Loc} {ls : Array Slot} (hW : z_Ok D cA bs s σ H locs) (hl : lv_has ls 2 [])  : W p l e (zrm 0 0 0 0) s m args below meth c H locs 0 0 (MQ below (z_Qi D cA bs r σ) args s 0 0 (fun q => bs ≤ q)) (F0 m 52 ls [.int s0]) := by
  have hx := B.1
  have hb := B.2.1
  have hown := B.2.2.2.1
  have hts := B.2.2.2.2.1
  unfold f_X6_value_52 at hf
  obtain rfl := z_e1 hf
  exact z_ri B hW dX6_value_52 (Nat.le_of_ble_eq_true rfl) (Nat.le_of_ble_eq_true rfl)
set_option maxRecDepth 100000 in
def f_X6_value_65 (σ : zSt) (s0 : Int32) : Option (Int32) :=
(some s0)
set_option maxRecDepth 20000 in
set_option maxHeartbeats 4000000 in
theorem t_X6_value_65 (B : z_B p s m args meth c D cA bs RX6 cX6_value 2 (some .int)) {r : Int32} {σ : zSt} {s0 : Int32} (hf : f_X6_value_65 σ s0 = some r) {H : Heap} {locs : List Loc} {ls : Array Slot} (hW : z_Ok D cA bs s σ H locs) (hl : lv_has ls 2 [])  : W p l e (zrm 0 0 0 0) s m args below meth c H locs 0 0 (MQ below (z_Qi D cA bs r σ) args s 0 0 (fun q => bs ≤ q)) (F0 m 65 ls [.int s0]) := by
  have hx := B.1
  have hb := B.2.1
  have hown := B.2.2.2.1
  have hts := B.2.2.2.2.1
  unfold f_X6_value_65 at hf
  obtain rfl := z_e1 hf
  exact z_ri B hW dX6_value_65 (Nat.le_of_ble_eq_true rfl) (Nat.le_of_ble_eq_true rfl)
set_option maxRecDepth 100000 in
def f_X6_value (σ : zSt) (l0 : Nat) (l1 : Int32) : Option (Int32) :=
(if l1 = (0 : Int32) then
(if z_ob σ l0 6 then (if (z_I σ l0 1) = 0 then
(f_X6_value_52 σ (0 : Int32))
else
(f_X6_value_52 σ (1 : Int32))) else none)
else
(if l1 = (1 : Int32) then
(if z_ob σ l0 6 then (if (z_I σ l0 2) = 0 then
(f_X6_value_65 σ (0 : Int32))
else
(f_X6_value_65 σ (1 : Int32))) else none)
else
(if l1 = (2 : Int32) then
(if z_ob σ l0 6 then (some (z_I σ l0 3)) else none)
else
(if l1 = (3 : Int32) then
(if z_ob σ l0 6 then (some (z_I σ l0 4)) else none)
else
(if l1 = (4 : Int32) then
(if z_ob σ l0 6 then (some (z_I σ l0 6)) else none)
else
(if l1 = (5 : Int32) then
(if z_ob σ l0 6 then (some (z_I σ l0 7)) else none)
else
(if z_ob σ l0 6 then (some (z_I σ l0 8)) else none)))))))
set_option maxRecDepth 20000 in
set_option maxHeartbeats 4000000 in
theorem K_X6_value {σ : zSt} {l0 : Nat} {l1 : Int32} {r : Int32} (hf : f_X6_value σ l0 l1 = some r) : z_M l D cA bs yX6_value cX6_value 2 (some .int) 0 0 0 0 [.ref l0, .int l1] σ (z_Qi D cA bs r σ) := by
  refine z_met (own := RX6) (lv := [(0, .ref l0), (1, .int l1)]) (by decide) rfl (Nat.le_of_ble_eq_true rfl) rfl (fun p e s m below meth c ls B hnm hW hl => ?_)
  have hx := B.1
  have hb := B.2.1
  have hown := B.2.2.2.1
  have hts := B.2.2.2.2.1
  unfold f_X6_value at hf
  refine lv_iload_n hx hb dX6_value_0 rfl (lv_at hl 1 rfl) ?_
  by_cases hw0 : l1 = (0 : Int32)
  · replace hf := z_ip hw0 hf
    refine lv_tableIn (tgt := 40) (off := 39) hx hb dX6_value_1 (by rw [hw0]; decide) (by rw [hw0]; decide) (by rw [hw0]; decide) (by decide) ?_
    refine lv_aload_n hx hb dX6_value_40 rfl (lv_at hl 0 rfl) ?_
    obtain ⟨hg1, hf⟩ := z_g hf
    refine z_getI B hW (Or.inl zf_X6_15) rfl hg1 dX6_value_41 ?_
    refine lv_if_eq (tgt := 51) hx hb dX6_value_44 (by decide) (fun hc44 => ?_) (fun hc44 => ?_)
    · replace hf := z_ip hc44 hf
      refine lv_iconst (v := (0 : Int32)) hx hb dX6_value_51 (by decide) ?_
      exact t_X6_value_52 B hf hW (lv_sub hl [] rfl) 
    · replace hf := z_in hc44 hf
      refine lv_iconst (v := (1 : Int32)) hx hb dX6_value_47 (by decide) ?_
      refine lv_goto (tgt := 52) hx hb dX6_value_48 (by decide) ?_
      exact t_X6_value_52 B hf hW (lv_sub hl [] rfl) 
  replace hf := z_in hw0 hf
  by_cases hw1 : l1 = (1 : Int32)
  · replace hf := z_ip hw1 hf
    refine lv_tableIn (tgt := 53) (off := 52) hx hb dX6_value_1 (by rw [hw1]; decide) (by rw [hw1]; decide) (by rw [hw1]; decide) (by decide) ?_
    refine lv_aload_n hx hb dX6_value_53 rfl (lv_at hl 0 rfl) ?_
    obtain ⟨hg2, hf⟩ := z_g hf
    refine z_getI B hW (Or.inl zf_X6_19) rfl hg2 dX6_value_54 ?_
    refine lv_if_eq (tgt := 64) hx hb dX6_value_57 (by decide) (fun hc57 => ?_) (fun hc57 => ?_)
    · replace hf := z_ip hc57 hf
      refine lv_iconst (v := (0 : Int32)) hx hb dX6_value_64 (by decide) ?_
      exact t_X6_value_65 B hf hW (lv_sub hl [] rfl) 
    · replace hf := z_in hc57 hf
      refine lv_iconst (v := (1 : Int32)) hx hb dX6_value_60 (by decide) ?_
      refine lv_goto (tgt := 65) hx hb dX6_value_61 (by decide) ?_
      exact t_X6_value_65 B hf hW (lv_sub hl [] rfl) 
  replace hf := z_in hw1 hf
  by_cases hw2 : l1 = (2 : Int32)
  · replace hf := z_ip hw2 hf
    refine lv_tableIn (tgt := 66) (off := 65) hx hb dX6_value_1 (by rw [hw2]; decide) (by rw [hw2]; decide) (by rw [hw2]; decide) (by decide) ?_
    refine lv_aload_n hx hb dX6_value_66 rfl (lv_at hl 0 rfl) ?_
    obtain ⟨hg3, hf⟩ := z_g hf
    refine z_getI B hW (Or.inl zf_X6_22) rfl hg3 dX6_value_67 ?_
    obtain rfl := z_e1 hf
    exact z_ri B hW dX6_value_70 (Nat.le_of_ble_eq_true rfl) (Nat.le_of_ble_eq_true rfl)
  replace hf := z_in hw2 hf
  by_cases hw3 : l1 = (3 : Int32)
  · replace hf := z_ip hw3 hf
    refine lv_tableIn (tgt := 71) (off := 70) hx hb dX6_value_1 (by rw [hw3]; decide) (by rw [hw3]; decide) (by rw [hw3]; decide) (by decide) ?_
    refine lv_aload_n hx hb dX6_value_71 rfl (lv_at hl 0 rfl) ?_
    obtain ⟨hg4, hf⟩ := z_g hf
    refine z_getI B hW (Or.inl zf_X6_25) rfl hg4 dX6_value_72 ?_
    obtain rfl := z_e1 hf
    exact z_ri B hW dX6_value_75 (Nat.le_of_ble_eq_true rfl) (Nat.le_of_ble_eq_true rfl)
  replace hf := z_in hw3 hf
  by_cases hw4 : l1 = (4 : Int32)
  · replace hf := z_ip hw4 hf
    refine lv_tableIn (tgt := 76) (off := 75) hx hb dX6_value_1 (by rw [hw4]; decide) (by rw [hw4]; decide) (by rw [hw4]; decide) (by decide) ?_
    refine lv_aload_n hx hb dX6_value_76 rfl (lv_at hl 0 rfl) ?_
    obtain ⟨hg5, hf⟩ := z_g hf
    refine z_getI B hW (Or.inl zf_X6_31) rfl hg5 dX6_value_77 ?_
    obtain rfl := z_e1 hf
    exact z_ri B hW dX6_value_80 (Nat.le_of_ble_eq_true rfl) (Nat.le_of_ble_eq_true rfl)
  replace hf := z_in hw4 hf
  by_cases hw5 : l1 = (5 : Int32)
  · replace hf := z_ip hw5 hf
    refine lv_tableIn (tgt := 81) (off := 80) hx hb dX6_value_1 (by rw [hw5]; decide) (by rw [hw5]; decide) (by rw [hw5]; decide) (by decide) ?_
    refine lv_aload_n hx hb dX6_value_81 rfl (lv_at hl 0 rfl) ?_
    obtain ⟨hg6, hf⟩ := z_g hf
    refine z_getI B hW (Or.inl zf_X6_34) rfl hg6 dX6_value_82 ?_
    obtain rfl := z_e1 hf
    exact z_ri B hW dX6_value_85 (Nat.le_of_ble_eq_true rfl) (Nat.le_of_ble_eq_true rfl)
  replace hf := z_in hw5 hf
  refine lv_tableOut (tgt := 86) hx hb dX6_value_1 (z_tout (fun k h1 h2 => by rcases (by omega : k = 0 ∨ k = 1 ∨ k = 2 ∨ k = 3 ∨ k = 4 ∨ k = 5) with rfl | rfl | rfl | rfl | rfl | rfl <;> assumption)) (by decide) ?_
  refine lv_aload_n hx hb dX6_value_86 rfl (lv_at hl 0 rfl) ?_
  obtain ⟨hg7, hf⟩ := z_g hf
  refine z_getI B hW (Or.inl zf_X6_37) rfl hg7 dX6_value_87 ?_
  obtain rfl := z_e1 hf
  exact z_ri B hW dX6_value_90 (Nat.le_of_ble_eq_true rfl) (Nat.le_of_ble_eq_true rfl)
set_option maxRecDepth 100000 in
def f_X3_follower (σ : zSt) (l0 : Nat) (l1 : Int32) : Option (Int32) :=
(if z_ob σ l0 3 then (zc (z_R σ l0 0) none (fun q2 => (if z_ob σ q2 7 then (zb (f_X7_at σ q2 l1 (5 : Int32)) (fun r6 => (some r6))) else none))) else none)
set_option maxRecDepth 20000 in
set_option maxHeartbeats 4000000 in
theorem K_X3_follower {σ : zSt} {l0 : Nat} {l1 : Int32} {r : Int32} (hf : f_X3_follower σ l0 l1 = some r) : z_M l D cA bs yX3_follower cX3_follower 2 (some .int) 1 23 0 0 [.ref l0, .int l1] σ (z_Qi D cA bs r σ) := by
  refine z_met (own := RX3) (lv := [(0, .ref l0), (1, .int l1)]) (by decide) rfl (Nat.le_of_ble_eq_true rfl) rfl (fun p e s m below meth c ls B hnm hW hl => ?_)
  have hx := B.1
  have hb := B.2.1
  have hown := B.2.2.2.1
  have hts := B.2.2.2.2.1
  unfold f_X3_follower at hf
  refine lv_aload_n hx hb dX3_follower_0 rfl (lv_at hl 0 rfl) ?_
  obtain ⟨hg1, hf⟩ := z_g hf
  obtain ⟨q2, hv3, hf⟩ := z_nn hf
  refine z_getN B hW (Or.inr zf_X3_16) rfl hg1 hv3 dX3_follower_1 ?_
  refine lv_iload_n hx hb dX3_follower_4 rfl (lv_at hl 1 rfl) ?_
  refine lv_iconst (v := (5 : Int32)) hx hb dX3_follower_5 (by decide) ?_
  obtain ⟨hg4, hf⟩ := z_g hf
  obtain ⟨r6, hq5, hf⟩ := z_b hf
  refine z_ci hW (z_runV (As := [.int l1, .int (5 : Int32)]) (rest := []) B hW zv_X3_24 (K_X7_at hq5) hg4 rfl rfl rfl (Nat.le_of_ble_eq_true rfl) hl.1 ⟨Nat.le_of_ble_eq_true rfl, Nat.le_of_ble_eq_true rfl⟩ dX3_follower_6 ⟨Nat.le_of_ble_eq_true rfl, Nat.le_of_ble_eq_true rfl⟩) (fun H locs hW => ?_)
  obtain rfl := z_e1 hf
  exact z_ri B hW dX3_follower_9 (Nat.le_of_ble_eq_true rfl) (Nat.le_of_ble_eq_true rfl)
set_option maxRecDepth 100000 in
def b_X2_withStation_56 (σ : zSt) (l0 : Nat) (l3 : Nat) (l4 : Int64) (l6 : Int32) (l7 : Int32) : Option ((Int64 × Int32 × Int32) ⊕ (Int64)) :=
(if z_ob σ l3 6 then (if (z_I σ l3 6) ≤ l7 then
(zex (some l4))
else
(zb (f_X9_mixed σ l4 l6.toInt64) (fun r4 => (if z_ob σ l0 2 then (zc (z_R σ l0 1) none (fun q6 => (if z_ob σ q6 3 then (zb (f_X3_follower σ q6 l6) (fun r10 => (some (.inl (r4, r10, (l7 + (1 : Int32))))))) else none))) else none)))) else none)
set_option maxRecDepth 100000 in
def f_X2_withStation_56 (σ : zSt) (l0 : Nat) (l3 : Nat) (l4 : Int64) (l6 : Int32) (l7 : Int32) : Option (Int64) := zloop (fun (t : Int64 × Int32 × Int32) => b_X2_withStation_56 σ l0 l3 t.1 t.2.1 t.2.2) zN (l4, l6, l7)
set_option maxRecDepth 20000 in
set_option maxHeartbeats 4000000 in
theorem tb_X2_withStation_56 (B : z_B p s m args meth c D cA bs RX2 cX2_withStation 8 (some .long)) {r : Int64} {o1 : (Int64 × Int32 × Int32) ⊕ (Int64)} {σ : zSt} {l0 : Nat} {l3 : Nat} {l4 : Int64} {l6 : Int32} {l7 : Int32} (hf : b_X2_withStation_56 σ l0 l3 l4 l6 l7 = some o1) {H : Heap} {locs : List Loc} {ls : Array Slot} (hW : z_Ok D cA bs s σ H locs) (hl : lv_has ls 8 [(0, .ref l0), (3, .ref l3), (4, .long l4), (6, .int l6), (7, .int l7)]) (hk1 : ∀ (l4 : Int64) (l6 : Int32) (l7 : Int32), o1 = .inl (l4, l6, l7) → ∀ {H : Heap} {locs : List Loc} {ls : Array Slot}, z_Ok D cA bs s σ H locs → lv_has ls 8 [(0, .ref l0), (3, .ref l3), (4, .long l4), (6, .int l6), (7, .int l7)] → W p l e (zrm 2 0 0 44) s m args below meth c H locs 0 0 (MQ below (z_Ql D cA bs r σ) args s 0 0 (fun q => bs ≤ q)) (F0 m 56 ls [])) (hr1 : ∀ x, o1 = .inr x → x = r) : W p l e (zrm 2 0 0 44) s m args below meth c H locs 0 0 (MQ below (z_Ql D cA bs r σ) args s 0 0 (fun q => bs ≤ q)) (F0 m 56 ls []) := by
  have hx := B.1
  have hb := B.2.1
  have hown := B.2.2.2.1
  have hts := B.2.2.2.2.1
  unfold b_X2_withStation_56 at hf
  refine lv_iload hx hb dX2_withStation_56 (lv_at hl 4 rfl) ?_
  refine lv_aload_n hx hb dX2_withStation_58 rfl (lv_at hl 1 rfl) ?_
  obtain ⟨hg1, hf⟩ := z_g hf
  refine z_getI B hW (Or.inl zf_X2_118) rfl hg1 dX2_withStation_59 ?_
  refine lv_icmp_ge (tgt := 92) hx hb dX2_withStation_62 (by decide) (fun hc62 => ?_) (fun hc62 => ?_)
  · replace hf := z_ip hc62 hf
    obtain ⟨w1, hf, ho2⟩ := z_x hf
    obtain rfl := hr1 _ ho2
    refine lv_lload hx hb dX2_withStation_92 (lv_at hl 2 rfl) ?_
    obtain rfl := z_e1 hf
    exact z_rl B hW dX2_withStation_94 (Nat.le_of_ble_eq_true rfl) (Nat.le_of_ble_eq_true rfl)
  · replace hf := z_in hc62 hf
    refine lv_lload hx hb dX2_withStation_65 (lv_at hl 2 rfl) ?_
    refine lv_iload hx hb dX2_withStation_67 (lv_at hl 3 rfl) ?_
    refine lv_i2l (v := l6.toInt64) hx hb dX2_withStation_69 rfl ?_
    obtain ⟨r4, hq3, hf⟩ := z_b hf
    refine z_cl hW (z_runSN (As := [.long l4, .long l6.toInt64]) (rest := []) B hW zv_X2_156 (K_X9_mixed hq3) rfl rfl (Nat.le_of_ble_eq_true rfl) hl.1 ⟨Nat.le_of_ble_eq_true rfl, Nat.le_of_ble_eq_true rfl⟩ dX2_withStation_70 ⟨Nat.le_of_ble_eq_true rfl, Nat.le_of_ble_eq_true rfl⟩) (fun H locs hW => ?_)
    refine lv_lstore (lv' := [(4, .long r4), (0, .ref l0), (3, .ref l3), (6, .int l6), (7, .int l7)]) hx hb dX2_withStation_73 hl (by decide) rfl (fun ls hl => ?_)
    refine lv_aload_n hx hb dX2_withStation_75 rfl (lv_at hl 1 rfl) ?_
    obtain ⟨hg5, hf⟩ := z_g hf
    obtain ⟨q6, hv7, hf⟩ := z_nn hf
    refine z_getN B hW (Or.inr zf_X2_20) rfl hg5 hv7 dX2_withStation_76 ?_
    refine lv_iload hx hb dX2_withStation_79 (lv_at hl 3 rfl) ?_
    obtain ⟨hg8, hf⟩ := z_g hf
    obtain ⟨r10, hq9, hf⟩ := z_b hf
    refine z_ci hW (z_runV (As := [.int l6]) (rest := []) B hW zv_X2_180 (K_X3_follower hq9) hg8 rfl rfl rfl (Nat.le_of_ble_eq_true rfl) hl.1 ⟨Nat.le_of_ble_eq_true rfl, Nat.le_of_ble_eq_true rfl⟩ dX2_withStation_81 ⟨Nat.le_of_ble_eq_true rfl, Nat.le_of_ble_eq_true rfl⟩) (fun H locs hW => ?_)
    refine lv_istore (lv' := [(6, .int r10), (4, .long r4), (0, .ref l0), (3, .ref l3), (7, .int l7)]) hx hb dX2_withStation_84 hl (by decide) rfl (fun ls hl => ?_)
    refine lv_iinc (v := (l7 + (1 : Int32))) (lv' := [(7, .int (l7 + (1 : Int32))), (6, .int r10), (4, .long r4), (0, .ref l0), (3, .ref l3)]) hx hb dX2_withStation_86 hl (k := 4) rfl rfl (by decide) rfl (fun ls hl => ?_)
    refine lv_goto (tgt := 56) hx hb dX2_withStation_89 (by decide) ?_
    exact hk1 _ _ _ (Option.some.inj hf).symm hW (lv_sub hl [3, 4, 2, 1, 0] rfl)
set_option maxRecDepth 20000 in
set_option maxHeartbeats 4000000 in
theorem t_X2_withStation_56 (B : z_B p s m args meth c D cA bs RX2 cX2_withStation 8 (some .long)) {r : Int64} {σ : zSt} {l0 : Nat} {l3 : Nat}  : ∀ (n : Nat) {l4 : Int64} {l6 : Int32} {l7 : Int32}, zloop (fun (t : Int64 × Int32 × Int32) => b_X2_withStation_56 σ l0 l3 t.1 t.2.1 t.2.2) n (l4, l6, l7) = some r → ∀ {H : Heap} {locs : List Loc} {ls : Array Slot}, z_Ok D cA bs s σ H locs → lv_has ls 8 [(0, .ref l0), (3, .ref l3), (4, .long l4), (6, .int l6), (7, .int l7)] → W p l e (zrm 2 0 0 44) s m args below meth c H locs 0 0 (MQ below (z_Ql D cA bs r σ) args s 0 0 (fun q => bs ≤ q)) (F0 m 56 ls []) := by
  intro n
  induction n with
  | zero => intro l4 l6 l7 hf; cases hf
  | succ n ih =>
    intro l4 l6 l7 hf H locs ls hW hl
    obtain ⟨o1, hb1, hf⟩ := z_lp hf
    refine tb_X2_withStation_56 B hb1 hW hl  (fun l4 l6 l7 he H locs ls hW hl => ?_) (fun x he => ?_)
    · rcases hf with ⟨t, ht, hf⟩ | hf
      · rw [he] at ht
        cases ht
        exact ih hf hW hl
      · rw [he] at hf
        cases hf
    · rcases hf with ⟨t, ht, hf⟩ | hf
      · rw [he] at ht
        cases ht
      · rw [he] at hf
        exact Sum.inr.inj hf
set_option maxRecDepth 100000 in
def b_X2_withStation_20 (σ : zSt) (l0 : Nat) (l3 : Nat) (l4 : Int64) (l6 : Int32) : Option ((Int64 × Int32) ⊕ (Int64)) :=
(if (6 : Int32) < l6 then
(zex (if z_ob σ l3 6 then (zl (z_I σ l3 5) (fun x2 => (f_X2_withStation_56 σ l0 l3 l4 x2 (0 : Int32)))) else none))
else
(if z_ob σ l3 6 then (zb (f_X6_value σ l3 l6) (fun r7 => (zb (f_X9_mixed σ l4 r7.toInt64) (fun r9 => (some (.inl (r9, (l6 + (1 : Int32))))))))) else none))
set_option maxRecDepth 100000 in
def f_X2_withStation_20 (σ : zSt) (l0 : Nat) (l3 : Nat) (l4 : Int64) (l6 : Int32) : Option (Int64) := zloop (fun (t : Int64 × Int32) => b_X2_withStation_20 σ l0 l3 t.1 t.2) zN (l4, l6)
set_option maxRecDepth 20000 in
set_option maxHeartbeats 4000000 in
theorem tb_X2_withStation_20 (B : z_B p s m args meth c D cA bs RX2 cX2_withStation 8 (some .long)) {r : Int64} {o1 : (Int64 × Int32) ⊕ (Int64)} {σ : zSt} {l0 : Nat} {l3 : Nat} {l4 : Int64} {l6 : Int32} (hf : b_X2_withStation_20 σ l0 l3 l4 l6 = some o1) {H : Heap} {locs : List Loc} {ls : Array Slot} (hW : z_Ok D cA bs s σ H locs) (hl : lv_has ls 8 [(0, .ref l0), (3, .ref l3), (4, .long l4), (6, .int l6)]) (hk1 : ∀ (l4 : Int64) (l6 : Int32), o1 = .inl (l4, l6) → ∀ {H : Heap} {locs : List Loc} {ls : Array Slot}, z_Ok D cA bs s σ H locs → lv_has ls 8 [(0, .ref l0), (3, .ref l3), (4, .long l4), (6, .int l6)] → W p l e (zrm 2 0 0 44) s m args below meth c H locs 0 0 (MQ below (z_Ql D cA bs r σ) args s 0 0 (fun q => bs ≤ q)) (F0 m 20 ls [])) (hr1 : ∀ x, o1 = .inr x → x = r) : W p l e (zrm 2 0 0 44) s m args below meth c H locs 0 0 (MQ below (z_Ql D cA bs r σ) args s 0 0 (fun q => bs ≤ q)) (F0 m 20 ls []) := by
  have hx := B.1
  have hb := B.2.1
  have hown := B.2.2.2.1
  have hts := B.2.2.2.2.1
  unfold b_X2_withStation_20 at hf
  refine lv_iload hx hb dX2_withStation_20 (lv_at hl 3 rfl) ?_
  refine lv_bipush (v := (6 : Int32)) hx hb dX2_withStation_22 (by decide) ?_
  refine lv_icmp_gt (tgt := 47) hx hb dX2_withStation_24 (by decide) (fun hc24 => ?_) (fun hc24 => ?_)
  · replace hf := z_ip hc24 hf
    obtain ⟨w1, hf, ho4⟩ := z_x hf
    obtain rfl := hr1 _ ho4
    refine lv_aload_n hx hb dX2_withStation_47 rfl (lv_at hl 1 rfl) ?_
    obtain ⟨hg1, hf⟩ := z_g hf
    refine z_getI B hW (Or.inl zf_X2_177) rfl hg1 dX2_withStation_48 ?_
    obtain ⟨x2, hx3, hf⟩ := z_l hf
    rw [hx3]
    refine lv_istore (lv' := [(6, .int x2), (0, .ref l0), (3, .ref l3), (4, .long l4)]) hx hb dX2_withStation_51 hl (by decide) rfl (fun ls hl => ?_)
    refine lv_iconst (v := (0 : Int32)) hx hb dX2_withStation_53 (by decide) ?_
    refine lv_istore (lv' := [(7, .int (0 : Int32)), (6, .int x2), (0, .ref l0), (3, .ref l3), (4, .long l4)]) hx hb dX2_withStation_54 hl (by decide) rfl (fun ls hl => ?_)
    unfold f_X2_withStation_56 at hf
    exact t_X2_withStation_56 B  zN hf hW (lv_sub hl [2, 3, 4, 1, 0] rfl)
  · replace hf := z_in hc24 hf
    refine lv_lload hx hb dX2_withStation_27 (lv_at hl 2 rfl) ?_
    refine lv_aload_n hx hb dX2_withStation_29 rfl (lv_at hl 1 rfl) ?_
    refine lv_iload hx hb dX2_withStation_30 (lv_at hl 3 rfl) ?_
    obtain ⟨hg5, hf⟩ := z_g hf
    obtain ⟨r7, hq6, hf⟩ := z_b hf
    refine z_ci hW (z_runV (As := [.int l6]) (rest := [.long l4]) B hW zv_X2_176 (K_X6_value hq6) hg5 rfl rfl rfl (Nat.le_of_ble_eq_true rfl) hl.1 ⟨Nat.le_of_ble_eq_true rfl, Nat.le_of_ble_eq_true rfl⟩ dX2_withStation_32 ⟨Nat.le_of_ble_eq_true rfl, Nat.le_of_ble_eq_true rfl⟩) (fun H locs hW => ?_)
    refine lv_i2l (v := r7.toInt64) hx hb dX2_withStation_35 rfl ?_
    obtain ⟨r9, hq8, hf⟩ := z_b hf
    refine z_cl hW (z_runSN (As := [.long l4, .long r7.toInt64]) (rest := []) B hW zv_X2_156 (K_X9_mixed hq8) rfl rfl (Nat.le_of_ble_eq_true rfl) hl.1 ⟨Nat.le_of_ble_eq_true rfl, Nat.le_of_ble_eq_true rfl⟩ dX2_withStation_36 ⟨Nat.le_of_ble_eq_true rfl, Nat.le_of_ble_eq_true rfl⟩) (fun H locs hW => ?_)
    refine lv_lstore (lv' := [(4, .long r9), (0, .ref l0), (3, .ref l3), (6, .int l6)]) hx hb dX2_withStation_39 hl (by decide) rfl (fun ls hl => ?_)
    refine lv_iinc (v := (l6 + (1 : Int32))) (lv' := [(6, .int (l6 + (1 : Int32))), (4, .long r9), (0, .ref l0), (3, .ref l3)]) hx hb dX2_withStation_41 hl (k := 3) rfl rfl (by decide) rfl (fun ls hl => ?_)
    refine lv_goto (tgt := 20) hx hb dX2_withStation_44 (by decide) ?_
    exact hk1 _ _ (Option.some.inj hf).symm hW (lv_sub hl [2, 3, 1, 0] rfl)
set_option maxRecDepth 20000 in
set_option maxHeartbeats 4000000 in
theorem t_X2_withStation_20 (B : z_B p s m args meth c D cA bs RX2 cX2_withStation 8 (some .long)) {r : Int64} {σ : zSt} {l0 : Nat} {l3 : Nat}  : ∀ (n : Nat) {l4 : Int64} {l6 : Int32}, zloop (fun (t : Int64 × Int32) => b_X2_withStation_20 σ l0 l3 t.1 t.2) n (l4, l6) = some r → ∀ {H : Heap} {locs : List Loc} {ls : Array Slot}, z_Ok D cA bs s σ H locs → lv_has ls 8 [(0, .ref l0), (3, .ref l3), (4, .long l4), (6, .int l6)] → W p l e (zrm 2 0 0 44) s m args below meth c H locs 0 0 (MQ below (z_Ql D cA bs r σ) args s 0 0 (fun q => bs ≤ q)) (F0 m 20 ls []) := by
  intro n
  induction n with
  | zero => intro l4 l6 hf; cases hf
  | succ n ih =>
    intro l4 l6 hf H locs ls hW hl
    obtain ⟨o1, hb1, hf⟩ := z_lp hf
    refine tb_X2_withStation_20 B hb1 hW hl  (fun l4 l6 he H locs ls hW hl => ?_) (fun x he => ?_)
    · rcases hf with ⟨t, ht, hf⟩ | hf
      · rw [he] at ht
        cases ht
        exact ih hf hW hl
      · rw [he] at hf
        cases hf
    · rcases hf with ⟨t, ht, hf⟩ | hf
      · rw [he] at ht
        cases ht
      · rw [he] at hf
        exact Sum.inr.inj hf
set_option maxRecDepth 100000 in
def f_X2_withStation (σ : zSt) (l0 : Nat) (l1 : Int64) (l3 : Option Nat) : Option (Int64) :=
(zc l3
(some l1)
(fun a1 => (if z_ob σ a1 6 then (zb (f_X9_mixed σ l1 ((z_I σ a1 0).toInt64)) (fun r4 => (f_X2_withStation_20 σ l0 a1 r4 (0 : Int32)))) else none)))
set_option maxRecDepth 20000 in
set_option maxHeartbeats 4000000 in
theorem K_X2_withStation {σ : zSt} {l0 : Nat} {l1 : Int64} {l3 : Option Nat} {r : Int64} (hf : f_X2_withStation σ l0 l1 l3 = some r) : z_M l D cA bs yX2_withStation cX2_withStation 8 (some .long) 2 44 0 0 [.ref l0, .long l1, va_rf l3] σ (z_Ql D cA bs r σ) := by
  refine z_met (own := RX2) (lv := [(0, .ref l0), (1, .long l1), (3, va_rf l3)]) (by decide) rfl (by simp [lg_sl, z_cat, z_k1, z_k2, z_k3, z_k4, z_k5]) (by simp [lv_args, z_cat, z_k1, z_k2, z_k3, z_k4, z_k5]) (fun p e s m below meth c ls B hnm hW hl => ?_)
  have hx := B.1
  have hb := B.2.1
  have hown := B.2.2.2.1
  have hts := B.2.2.2.2.1
  unfold f_X2_withStation at hf
  refine z_aload_n hx hb dX2_withStation_0 rfl (lv_at hl 2 rfl) ?_
  refine z_ifnonnull (tgt := 6) hx hb dX2_withStation_1 (by decide) (fun hz5 => ?_) (fun a1 hz5 => ?_)
  · subst hz5
    replace hf := z_c0 hf
    refine lv_lload_n hx hb dX2_withStation_4 rfl (lv_at hl 1 rfl) ?_
    obtain rfl := z_e1 hf
    exact z_rl B hW dX2_withStation_5 (Nat.le_of_ble_eq_true rfl) (Nat.le_of_ble_eq_true rfl)
  · subst hz5
    replace hf := z_c1 hf
    refine lv_lload_n hx hb dX2_withStation_6 rfl (lv_at hl 1 rfl) ?_
    refine lv_aload_n hx hb dX2_withStation_7 rfl (lv_at hl 2 rfl) ?_
    obtain ⟨hg2, hf⟩ := z_g hf
    refine z_getI B hW (Or.inl zf_X2_104) rfl hg2 dX2_withStation_8 ?_
    refine lv_i2l (v := (z_I σ a1 0).toInt64) hx hb dX2_withStation_11 rfl ?_
    obtain ⟨r4, hq3, hf⟩ := z_b hf
    refine z_cl hW (z_runSN (As := [.long l1, .long (z_I σ a1 0).toInt64]) (rest := []) B hW zv_X2_156 (K_X9_mixed hq3) rfl rfl (Nat.le_of_ble_eq_true rfl) hl.1 ⟨Nat.le_of_ble_eq_true rfl, Nat.le_of_ble_eq_true rfl⟩ dX2_withStation_12 ⟨Nat.le_of_ble_eq_true rfl, Nat.le_of_ble_eq_true rfl⟩) (fun H locs hW => ?_)
    refine lv_lstore (lv' := [(4, .long r4), (0, .ref l0), (1, .long l1), (3, .ref a1)]) hx hb dX2_withStation_15 hl (by decide) rfl (fun ls hl => ?_)
    refine lv_iconst (v := (0 : Int32)) hx hb dX2_withStation_17 (by decide) ?_
    refine lv_istore (lv' := [(6, .int (0 : Int32)), (4, .long r4), (0, .ref l0), (1, .long l1), (3, .ref a1)]) hx hb dX2_withStation_18 hl (by decide) rfl (fun ls hl => ?_)
    unfold f_X2_withStation_20 at hf
    exact t_X2_withStation_20 B  zN hf hW (lv_sub hl [2, 4, 1, 0] rfl)
set_option maxRecDepth 100000 in
def f_X3_value (σ : zSt) (l0 : Nat) (l1 : Int32) (l2 : Int32) : Option (Int32) :=
(if z_ob σ l0 3 then (zc (z_R σ l0 0) none (fun q2 => (if z_ob σ q2 7 then (zb (f_X7_at σ q2 l1 l2) (fun r6 => (some r6))) else none))) else none)
set_option maxRecDepth 20000 in
set_option maxHeartbeats 4000000 in
theorem K_X3_value {σ : zSt} {l0 : Nat} {l1 : Int32} {l2 : Int32} {r : Int32} (hf : f_X3_value σ l0 l1 l2 = some r) : z_M l D cA bs yX3_value cX3_value 3 (some .int) 1 23 0 0 [.ref l0, .int l1, .int l2] σ (z_Qi D cA bs r σ) := by
  refine z_met (own := RX3) (lv := [(0, .ref l0), (1, .int l1), (2, .int l2)]) (by decide) rfl (Nat.le_of_ble_eq_true rfl) rfl (fun p e s m below meth c ls B hnm hW hl => ?_)
  have hx := B.1
  have hb := B.2.1
  have hown := B.2.2.2.1
  have hts := B.2.2.2.2.1
  unfold f_X3_value at hf
  refine lv_aload_n hx hb dX3_value_0 rfl (lv_at hl 0 rfl) ?_
  obtain ⟨hg1, hf⟩ := z_g hf
  obtain ⟨q2, hv3, hf⟩ := z_nn hf
  refine z_getN B hW (Or.inr zf_X3_16) rfl hg1 hv3 dX3_value_1 ?_
  refine lv_iload_n hx hb dX3_value_4 rfl (lv_at hl 1 rfl) ?_
  refine lv_iload_n hx hb dX3_value_5 rfl (lv_at hl 2 rfl) ?_
  obtain ⟨hg4, hf⟩ := z_g hf
  obtain ⟨r6, hq5, hf⟩ := z_b hf
  refine z_ci hW (z_runV (As := [.int l1, .int l2]) (rest := []) B hW zv_X3_24 (K_X7_at hq5) hg4 rfl rfl rfl (Nat.le_of_ble_eq_true rfl) hl.1 ⟨Nat.le_of_ble_eq_true rfl, Nat.le_of_ble_eq_true rfl⟩ dX3_value_6 ⟨Nat.le_of_ble_eq_true rfl, Nat.le_of_ble_eq_true rfl⟩) (fun H locs hW => ?_)
  obtain rfl := z_e1 hf
  exact z_ri B hW dX3_value_9 (Nat.le_of_ble_eq_true rfl) (Nat.le_of_ble_eq_true rfl)
set_option maxRecDepth 100000 in
def b_X2_withLog_25 (σ : zSt) (l0 : Nat) (l3 : Int32) (l6 : Int32) (l4 : Int64) (l7 : Int32) : Option ((Int64 × Int32) ⊕ ((Int64 × Int32) ⊕ (Int64))) :=
(if (4 : Int32) ≤ l7 then
(zex (some (.inl (l4, (l6 + (1 : Int32))))))
else
(if z_ob σ l0 2 then (zb (f_X2_logValue σ l0 l6 l7) (fun r4 => (zb (f_X9_mixed σ l4 r4.toInt64) (fun r6 => (some (.inl (r6, (l7 + (1 : Int32))))))))) else none))
set_option maxRecDepth 100000 in
def f_X2_withLog_25 (σ : zSt) (l0 : Nat) (l3 : Int32) (l6 : Int32) (l4 : Int64) (l7 : Int32) : Option ((Int64 × Int32) ⊕ (Int64)) := zloop (fun (t : Int64 × Int32) => b_X2_withLog_25 σ l0 l3 l6 t.1 t.2) zN (l4, l7)
set_option maxRecDepth 20000 in
set_option maxHeartbeats 4000000 in
theorem tb_X2_withLog_25 (B : z_B p s m args meth c D cA bs RX2 cX2_withLog 8 (some .long)) {r : Int64} {o1 : (Int64 × Int32) ⊕ (Int64)} {o2 : (Int64 × Int32) ⊕ ((Int64 × Int32) ⊕ (Int64))} {σ : zSt} {l0 : Nat} {l3 : Int32} {l6 : Int32} {l4 : Int64} {l7 : Int32} (hf : b_X2_withLog_25 σ l0 l3 l6 l4 l7 = some o2) {H : Heap} {locs : List Loc} {ls : Array Slot} (hW : z_Ok D cA bs s σ H locs) (hl : lv_has ls 8 [(0, .ref l0), (3, .int l3), (4, .long l4), (6, .int l6), (7, .int l7)]) (hk1 : ∀ (l4 : Int64) (l6 : Int32), o1 = .inl (l4, l6) → ∀ {H : Heap} {locs : List Loc} {ls : Array Slot}, z_Ok D cA bs s σ H locs → lv_has ls 8 [(0, .ref l0), (3, .int l3), (4, .long l4), (6, .int l6)] → W p l e (zrm 3 0 0 68) s m args below meth c H locs 0 0 (MQ below (z_Ql D cA bs r σ) args s 0 0 (fun q => bs ≤ q)) (F0 m 16 ls [])) (hr1 : ∀ x, o1 = .inr x → x = r) (hk2 : ∀ (l4 : Int64) (l7 : Int32), o2 = .inl (l4, l7) → ∀ {H : Heap} {locs : List Loc} {ls : Array Slot}, z_Ok D cA bs s σ H locs → lv_has ls 8 [(0, .ref l0), (3, .int l3), (4, .long l4), (6, .int l6), (7, .int l7)] → W p l e (zrm 3 0 0 68) s m args below meth c H locs 0 0 (MQ below (z_Ql D cA bs r σ) args s 0 0 (fun q => bs ≤ q)) (F0 m 25 ls [])) (hr2 : ∀ x, o2 = .inr x → x = o1) : W p l e (zrm 3 0 0 68) s m args below meth c H locs 0 0 (MQ below (z_Ql D cA bs r σ) args s 0 0 (fun q => bs ≤ q)) (F0 m 25 ls []) := by
  have hx := B.1
  have hb := B.2.1
  have hown := B.2.2.2.1
  have hts := B.2.2.2.2.1
  unfold b_X2_withLog_25 at hf
  refine lv_iload hx hb dX2_withLog_25 (lv_at hl 4 rfl) ?_
  refine lv_iconst (v := (4 : Int32)) hx hb dX2_withLog_27 (by decide) ?_
  refine lv_icmp_ge (tgt := 53) hx hb dX2_withLog_28 (by decide) (fun hc28 => ?_) (fun hc28 => ?_)
  · replace hf := z_ip hc28 hf
    obtain ⟨w2, hf, ho1⟩ := z_x hf
    obtain rfl := hr2 _ ho1
    refine lv_iinc (v := (l6 + (1 : Int32))) (lv' := [(6, .int (l6 + (1 : Int32))), (0, .ref l0), (3, .int l3), (4, .long l4), (7, .int l7)]) hx hb dX2_withLog_53 hl (k := 3) rfl rfl (by decide) rfl (fun ls hl => ?_)
    refine lv_goto (tgt := 16) hx hb dX2_withLog_56 (by decide) ?_
    exact hk1 _ _ (Option.some.inj hf).symm hW (lv_sub hl [1, 2, 3, 0] rfl)
  · replace hf := z_in hc28 hf
    refine lv_lload hx hb dX2_withLog_31 (lv_at hl 2 rfl) ?_
    refine lv_aload_n hx hb dX2_withLog_33 rfl (lv_at hl 0 rfl) ?_
    refine lv_iload hx hb dX2_withLog_34 (lv_at hl 3 rfl) ?_
    refine lv_iload hx hb dX2_withLog_36 (lv_at hl 4 rfl) ?_
    obtain ⟨hg2, hf⟩ := z_g hf
    obtain ⟨r4, hq3, hf⟩ := z_b hf
    refine z_ci hW (z_runV (As := [.int l6, .int l7]) (rest := [.long l4]) B hW zv_X2_183 (K_X2_logValue hq3) hg2 rfl rfl rfl (Nat.le_of_ble_eq_true rfl) hl.1 ⟨Nat.le_of_ble_eq_true rfl, Nat.le_of_ble_eq_true rfl⟩ dX2_withLog_38 ⟨Nat.le_of_ble_eq_true rfl, Nat.le_of_ble_eq_true rfl⟩) (fun H locs hW => ?_)
    refine lv_i2l (v := r4.toInt64) hx hb dX2_withLog_41 rfl ?_
    obtain ⟨r6, hq5, hf⟩ := z_b hf
    refine z_cl hW (z_runSN (As := [.long l4, .long r4.toInt64]) (rest := []) B hW zv_X2_156 (K_X9_mixed hq5) rfl rfl (Nat.le_of_ble_eq_true rfl) hl.1 ⟨Nat.le_of_ble_eq_true rfl, Nat.le_of_ble_eq_true rfl⟩ dX2_withLog_42 ⟨Nat.le_of_ble_eq_true rfl, Nat.le_of_ble_eq_true rfl⟩) (fun H locs hW => ?_)
    refine lv_lstore (lv' := [(4, .long r6), (0, .ref l0), (3, .int l3), (6, .int l6), (7, .int l7)]) hx hb dX2_withLog_45 hl (by decide) rfl (fun ls hl => ?_)
    refine lv_iinc (v := (l7 + (1 : Int32))) (lv' := [(7, .int (l7 + (1 : Int32))), (4, .long r6), (0, .ref l0), (3, .int l3), (6, .int l6)]) hx hb dX2_withLog_47 hl (k := 4) rfl rfl (by decide) rfl (fun ls hl => ?_)
    refine lv_goto (tgt := 25) hx hb dX2_withLog_50 (by decide) ?_
    exact hk2 _ _ (Option.some.inj hf).symm hW (lv_sub hl [2, 3, 1, 4, 0] rfl)
set_option maxRecDepth 20000 in
set_option maxHeartbeats 4000000 in
theorem t_X2_withLog_25 (B : z_B p s m args meth c D cA bs RX2 cX2_withLog 8 (some .long)) {r : Int64} {o1 : (Int64 × Int32) ⊕ (Int64)} {σ : zSt} {l0 : Nat} {l3 : Int32} {l6 : Int32} (hk1 : ∀ (l4 : Int64) (l6 : Int32), o1 = .inl (l4, l6) → ∀ {H : Heap} {locs : List Loc} {ls : Array Slot}, z_Ok D cA bs s σ H locs → lv_has ls 8 [(0, .ref l0), (3, .int l3), (4, .long l4), (6, .int l6)] → W p l e (zrm 3 0 0 68) s m args below meth c H locs 0 0 (MQ below (z_Ql D cA bs r σ) args s 0 0 (fun q => bs ≤ q)) (F0 m 16 ls [])) (hr1 : ∀ x, o1 = .inr x → x = r) : ∀ (n : Nat) {l4 : Int64} {l7 : Int32}, zloop (fun (t : Int64 × Int32) => b_X2_withLog_25 σ l0 l3 l6 t.1 t.2) n (l4, l7) = some o1 → ∀ {H : Heap} {locs : List Loc} {ls : Array Slot}, z_Ok D cA bs s σ H locs → lv_has ls 8 [(0, .ref l0), (3, .int l3), (4, .long l4), (6, .int l6), (7, .int l7)] → W p l e (zrm 3 0 0 68) s m args below meth c H locs 0 0 (MQ below (z_Ql D cA bs r σ) args s 0 0 (fun q => bs ≤ q)) (F0 m 25 ls []) := by
  intro n
  induction n with
  | zero => intro l4 l7 hf; cases hf
  | succ n ih =>
    intro l4 l7 hf H locs ls hW hl
    obtain ⟨o2, hb1, hf⟩ := z_lp hf
    refine tb_X2_withLog_25 B hb1 hW hl hk1 hr1 (fun l4 l7 he H locs ls hW hl => ?_) (fun x he => ?_)
    · rcases hf with ⟨t, ht, hf⟩ | hf
      · rw [he] at ht
        cases ht
        exact ih hf hW hl
      · rw [he] at hf
        cases hf
    · rcases hf with ⟨t, ht, hf⟩ | hf
      · rw [he] at ht
        cases ht
      · rw [he] at hf
        exact Sum.inr.inj hf
set_option maxRecDepth 100000 in
def b_X2_withLog_16 (σ : zSt) (l0 : Nat) (l3 : Int32) (l4 : Int64) (l6 : Int32) : Option ((Int64 × Int32) ⊕ (Int64)) :=
(if l3 ≤ l6 then
(zex (some l4))
else
(f_X2_withLog_25 σ l0 l3 l6 l4 (0 : Int32)))
set_option maxRecDepth 100000 in
def f_X2_withLog_16 (σ : zSt) (l0 : Nat) (l3 : Int32) (l4 : Int64) (l6 : Int32) : Option (Int64) := zloop (fun (t : Int64 × Int32) => b_X2_withLog_16 σ l0 l3 t.1 t.2) zN (l4, l6)
set_option maxRecDepth 20000 in
set_option maxHeartbeats 4000000 in
theorem tb_X2_withLog_16 (B : z_B p s m args meth c D cA bs RX2 cX2_withLog 8 (some .long)) {r : Int64} {o1 : (Int64 × Int32) ⊕ (Int64)} {σ : zSt} {l0 : Nat} {l3 : Int32} {l4 : Int64} {l6 : Int32} (hf : b_X2_withLog_16 σ l0 l3 l4 l6 = some o1) {H : Heap} {locs : List Loc} {ls : Array Slot} (hW : z_Ok D cA bs s σ H locs) (hl : lv_has ls 8 [(0, .ref l0), (3, .int l3), (4, .long l4), (6, .int l6)]) (hk1 : ∀ (l4 : Int64) (l6 : Int32), o1 = .inl (l4, l6) → ∀ {H : Heap} {locs : List Loc} {ls : Array Slot}, z_Ok D cA bs s σ H locs → lv_has ls 8 [(0, .ref l0), (3, .int l3), (4, .long l4), (6, .int l6)] → W p l e (zrm 3 0 0 68) s m args below meth c H locs 0 0 (MQ below (z_Ql D cA bs r σ) args s 0 0 (fun q => bs ≤ q)) (F0 m 16 ls [])) (hr1 : ∀ x, o1 = .inr x → x = r) : W p l e (zrm 3 0 0 68) s m args below meth c H locs 0 0 (MQ below (z_Ql D cA bs r σ) args s 0 0 (fun q => bs ≤ q)) (F0 m 16 ls []) := by
  have hx := B.1
  have hb := B.2.1
  have hown := B.2.2.2.1
  have hts := B.2.2.2.2.1
  unfold b_X2_withLog_16 at hf
  refine lv_iload hx hb dX2_withLog_16 (lv_at hl 3 rfl) ?_
  refine lv_iload_n hx hb dX2_withLog_18 rfl (lv_at hl 1 rfl) ?_
  refine lv_icmp_ge (tgt := 59) hx hb dX2_withLog_19 (by decide) (fun hc19 => ?_) (fun hc19 => ?_)
  · replace hf := z_ip hc19 hf
    obtain ⟨w1, hf, ho1⟩ := z_x hf
    obtain rfl := hr1 _ ho1
    refine lv_lload hx hb dX2_withLog_59 (lv_at hl 2 rfl) ?_
    obtain rfl := z_e1 hf
    exact z_rl B hW dX2_withLog_61 (Nat.le_of_ble_eq_true rfl) (Nat.le_of_ble_eq_true rfl)
  · replace hf := z_in hc19 hf
    refine lv_iconst (v := (0 : Int32)) hx hb dX2_withLog_22 (by decide) ?_
    refine lv_istore (lv' := [(7, .int (0 : Int32)), (0, .ref l0), (3, .int l3), (4, .long l4), (6, .int l6)]) hx hb dX2_withLog_23 hl (by decide) rfl (fun ls hl => ?_)
    unfold f_X2_withLog_25 at hf
    exact t_X2_withLog_25 B hk1 hr1 zN hf hW (lv_sub hl [1, 2, 3, 4, 0] rfl)
set_option maxRecDepth 20000 in
set_option maxHeartbeats 4000000 in
theorem t_X2_withLog_16 (B : z_B p s m args meth c D cA bs RX2 cX2_withLog 8 (some .long)) {r : Int64} {σ : zSt} {l0 : Nat} {l3 : Int32}  : ∀ (n : Nat) {l4 : Int64} {l6 : Int32}, zloop (fun (t : Int64 × Int32) => b_X2_withLog_16 σ l0 l3 t.1 t.2) n (l4, l6) = some r → ∀ {H : Heap} {locs : List Loc} {ls : Array Slot}, z_Ok D cA bs s σ H locs → lv_has ls 8 [(0, .ref l0), (3, .int l3), (4, .long l4), (6, .int l6)] → W p l e (zrm 3 0 0 68) s m args below meth c H locs 0 0 (MQ below (z_Ql D cA bs r σ) args s 0 0 (fun q => bs ≤ q)) (F0 m 16 ls []) := by
  intro n
  induction n with
  | zero => intro l4 l6 hf; cases hf
  | succ n ih =>
    intro l4 l6 hf H locs ls hW hl
    obtain ⟨o1, hb1, hf⟩ := z_lp hf
    refine tb_X2_withLog_16 B hb1 hW hl  (fun l4 l6 he H locs ls hW hl => ?_) (fun x he => ?_)
    · rcases hf with ⟨t, ht, hf⟩ | hf
      · rw [he] at ht
        cases ht
        exact ih hf hW hl
      · rw [he] at hf
        cases hf
    · rcases hf with ⟨t, ht, hf⟩ | hf
      · rw [he] at ht
        cases ht
      · rw [he] at hf
        exact Sum.inr.inj hf
set_option maxRecDepth 100000 in
def f_X2_withLog (σ : zSt) (l0 : Nat) (l1 : Int64) : Option (Int64) :=
(if z_ob σ l0 2 then (zb (f_X2_logLength σ l0) (fun r3 => (zb (f_X9_mixed σ l1 r3.toInt64) (fun r5 => (f_X2_withLog_16 σ l0 r3 r5 (0 : Int32)))))) else none)
set_option maxRecDepth 20000 in
set_option maxHeartbeats 4000000 in
theorem K_X2_withLog {σ : zSt} {l0 : Nat} {l1 : Int64} {r : Int64} (hf : f_X2_withLog σ l0 l1 = some r) : z_M l D cA bs yX2_withLog cX2_withLog 8 (some .long) 3 68 0 0 [.ref l0, .long l1] σ (z_Ql D cA bs r σ) := by
  refine z_met (own := RX2) (lv := [(0, .ref l0), (1, .long l1)]) (by decide) rfl (Nat.le_of_ble_eq_true rfl) rfl (fun p e s m below meth c ls B hnm hW hl => ?_)
  have hx := B.1
  have hb := B.2.1
  have hown := B.2.2.2.1
  have hts := B.2.2.2.2.1
  unfold f_X2_withLog at hf
  refine lv_aload_n hx hb dX2_withLog_0 rfl (lv_at hl 0 rfl) ?_
  obtain ⟨hg1, hf⟩ := z_g hf
  obtain ⟨r3, hq2, hf⟩ := z_b hf
  refine z_ci hW (z_runV (As := []) (rest := []) B hW zv_X2_86 (K_X2_logLength hq2) hg1 rfl rfl rfl (Nat.le_of_ble_eq_true rfl) hl.1 ⟨Nat.le_of_ble_eq_true rfl, Nat.le_of_ble_eq_true rfl⟩ dX2_withLog_1 ⟨Nat.le_of_ble_eq_true rfl, Nat.le_of_ble_eq_true rfl⟩) (fun H locs hW => ?_)
  refine lv_istore_n (lv' := [(3, .int r3), (0, .ref l0), (1, .long l1)]) hx hb dX2_withLog_4 rfl hl (by decide) rfl (fun ls hl => ?_)
  refine lv_lload_n hx hb dX2_withLog_5 rfl (lv_at hl 2 rfl) ?_
  refine lv_iload_n hx hb dX2_withLog_6 rfl (lv_at hl 0 rfl) ?_
  refine lv_i2l (v := r3.toInt64) hx hb dX2_withLog_7 rfl ?_
  obtain ⟨r5, hq4, hf⟩ := z_b hf
  refine z_cl hW (z_runSN (As := [.long l1, .long r3.toInt64]) (rest := []) B hW zv_X2_156 (K_X9_mixed hq4) rfl rfl (Nat.le_of_ble_eq_true rfl) hl.1 ⟨Nat.le_of_ble_eq_true rfl, Nat.le_of_ble_eq_true rfl⟩ dX2_withLog_8 ⟨Nat.le_of_ble_eq_true rfl, Nat.le_of_ble_eq_true rfl⟩) (fun H locs hW => ?_)
  refine lv_lstore (lv' := [(4, .long r5), (3, .int r3), (0, .ref l0), (1, .long l1)]) hx hb dX2_withLog_11 hl (by decide) rfl (fun ls hl => ?_)
  refine lv_iconst (v := (0 : Int32)) hx hb dX2_withLog_13 (by decide) ?_
  refine lv_istore (lv' := [(6, .int (0 : Int32)), (4, .long r5), (3, .int r3), (0, .ref l0), (1, .long l1)]) hx hb dX2_withLog_14 hl (by decide) rfl (fun ls hl => ?_)
  unfold f_X2_withLog_16 at hf
  exact t_X2_withLog_16 B  zN hf hW (lv_sub hl [3, 2, 1, 0] rfl)
end GEN
