section GEN
variable {p : Program} {l : Launch} {e : Env} {s : State} {m : MethodId} {args : Array Value} {below : List Frame} {meth : Method} {c : Code} {D : va_G} {cA : Nat → ClassId} {bs : Nat}
set_option maxRecDepth 100000 in
def f_X10_visits_122 (σ : zSt) (l0 : Nat) (l1 : Int32) (l2 : Int32) (l3 : Int32) (s0 : Int32) (s1 : Int32) (s2 : Option Nat) : Option (zSt) :=
(zc s2 none (fun a1 => (if z_ar σ a1 0 then (if z_ix s1 (z_ln σ a1) then (zl (z_pI σ a1 s1.toNatClampNeg s0) (fun σ5 => (if z_ob σ5 l0 9 then (zc (z_R σ5 l0 0) none (fun q8 => (if z_ar σ5 q8 0 then (if z_ix (10 : Int32) (z_ln σ5 q8) then (zl (z_I σ5 q8 (10 : Int32).toNatClampNeg) (fun x12 => (zc (z_R σ5 l0 0) none (fun q14 => (if z_ar σ5 q14 0 then (if z_ix (0 : Int32) (z_ln σ5 q14) then (zb (f_X10_sendsAll σ5 l0 l1 l2 ((z_I σ5 q14 (0 : Int32).toNatClampNeg) - l3)) (fun σ19 => (if z_ob σ19 l0 9 then (zc (z_R σ19 l0 0) none (fun q21 => (if z_ar σ19 q21 0 then (if z_ix (10 : Int32) (z_ln σ19 q21) then (zb (f_X10_logs σ19 l0 l2 l1 l3 ((z_I σ19 q21 (10 : Int32).toNatClampNeg) - x12)) (fun σ26 => (if z_ob σ26 l0 9 then (zb (f_X10_polls σ26 l0 l1) (fun σ29 => (if z_ob σ29 l0 9 then (zb (f_X10_passes σ29 l0 l1) (fun σ32 => (some σ32))) else none))) else none))) else none) else none))) else none))) else none) else none))))) else none) else none))) else none))) else none) else none)))
set_option maxRecDepth 20000 in
set_option maxHeartbeats 4000000 in
theorem t_X10_visits_122 (B : z_B p s m args meth c D cA bs RX10 cX10_visits 5 none)  {σ' : zSt} {σ : zSt} {l0 : Nat} {l1 : Int32} {l2 : Int32} {l3 : Int32} {s0 : Int32} {s1 : Int32} {s2 : Option Nat} (hf : f_X10_visits_122 σ l0 l1 l2 l3 s0 s1 s2 = some σ') {H : Heap} {locs : List Loc} {ls : Array Slot} (hW : z_Ok D cA bs s σ H locs) (hl : lv_has ls 5 [(0, .ref l0), (1, .int l1), (2, .int l2), (3, .int l3)])  : W p l e (zrm 5 0 0 117) s m args below meth c H locs 0 0 (MQ below (z_Qv D cA bs σ') args s 0 0 (fun q => bs ≤ q)) (F0 m 122 ls [.int s0, .int s1, va_rf s2]) := by
  have hx := B.1
  have hb := B.2.1
  have hown := B.2.2.2.1
  have hts := B.2.2.2.2.1
  unfold f_X10_visits_122 at hf
  obtain ⟨a1, hn2, hf⟩ := z_nn hf
  subst hn2
  obtain ⟨hg3, hf⟩ := z_g hf
  obtain ⟨hg4, hf⟩ := z_g hf
  obtain ⟨σ5, hs6, hf⟩ := z_l hf
  refine z_ast B hW hg3 hg4 hs6 dX10_visits_122 (fun H locs hW => ?_)
  refine lv_aload_n hx hb dX10_visits_123 rfl (lv_at hl 0 rfl) ?_
  obtain ⟨hg7, hf⟩ := z_g hf
  obtain ⟨q8, hv9, hf⟩ := z_nn hf
  refine z_getN B hW (Or.inr zf_X10_7) rfl hg7 hv9 dX10_visits_124 ?_
  refine lv_bipush (v := (10 : Int32)) hx hb dX10_visits_127 (by decide) ?_
  obtain ⟨hg10, hf⟩ := z_g hf
  obtain ⟨hg11, hf⟩ := z_g hf
  refine z_ald B hW hg10 hg11 dX10_visits_129 ?_
  obtain ⟨x12, hx13, hf⟩ := z_l hf
  rw [hx13]
  refine lv_istore (lv' := [(4, .int x12), (0, .ref l0), (1, .int l1), (2, .int l2), (3, .int l3)]) hx hb dX10_visits_130 hl (by decide) rfl (fun ls hl => ?_)
  refine lv_aload_n hx hb dX10_visits_132 rfl (lv_at hl 1 rfl) ?_
  refine lv_iload_n hx hb dX10_visits_133 rfl (lv_at hl 2 rfl) ?_
  refine lv_iload_n hx hb dX10_visits_134 rfl (lv_at hl 3 rfl) ?_
  refine lv_aload_n hx hb dX10_visits_135 rfl (lv_at hl 1 rfl) ?_
  obtain ⟨q14, hv15, hf⟩ := z_nn hf
  refine z_getN B hW (Or.inr zf_X10_7) rfl hg7 hv15 dX10_visits_136 ?_
  refine lv_iconst (v := (0 : Int32)) hx hb dX10_visits_139 (by decide) ?_
  obtain ⟨hg16, hf⟩ := z_g hf
  obtain ⟨hg17, hf⟩ := z_g hf
  refine z_ald B hW hg16 hg17 dX10_visits_140 ?_
  refine lv_iload_n hx hb dX10_visits_141 rfl (lv_at hl 4 rfl) ?_
  refine lv_isub hx hb dX10_visits_142 ?_
  obtain ⟨σ19, hq18, hf⟩ := z_b hf
  refine z_cv hW (z_runV (As := [.int l1, .int l2, .int ((z_I σ5 q14 (0 : Int32).toNatClampNeg) - l3)]) (rest := []) B hW zv_X10_102 (K_X10_sendsAll hq18) hg7 rfl rfl rfl (Nat.le_of_ble_eq_true rfl) hl.1 ⟨Nat.le_of_ble_eq_true rfl, Nat.le_of_ble_eq_true rfl⟩ dX10_visits_143 ⟨Nat.le_of_ble_eq_true rfl, Nat.le_of_ble_eq_true rfl⟩) (fun H locs hW => ?_)
  refine lv_aload_n hx hb dX10_visits_146 rfl (lv_at hl 1 rfl) ?_
  refine lv_iload_n hx hb dX10_visits_147 rfl (lv_at hl 3 rfl) ?_
  refine lv_iload_n hx hb dX10_visits_148 rfl (lv_at hl 2 rfl) ?_
  refine lv_iload_n hx hb dX10_visits_149 rfl (lv_at hl 4 rfl) ?_
  refine lv_aload_n hx hb dX10_visits_150 rfl (lv_at hl 1 rfl) ?_
  obtain ⟨hg20, hf⟩ := z_g hf
  obtain ⟨q21, hv22, hf⟩ := z_nn hf
  refine z_getN B hW (Or.inr zf_X10_7) rfl hg20 hv22 dX10_visits_151 ?_
  refine lv_bipush (v := (10 : Int32)) hx hb dX10_visits_154 (by decide) ?_
  obtain ⟨hg23, hf⟩ := z_g hf
  obtain ⟨hg24, hf⟩ := z_g hf
  refine z_ald B hW hg23 hg24 dX10_visits_156 ?_
  refine lv_iload hx hb dX10_visits_157 (lv_at hl 0 rfl) ?_
  refine lv_isub hx hb dX10_visits_159 ?_
  obtain ⟨σ26, hq25, hf⟩ := z_b hf
  refine z_cv hW (z_runV (As := [.int l2, .int l1, .int l3, .int ((z_I σ19 q21 (10 : Int32).toNatClampNeg) - x12)]) (rest := []) B hW zv_X10_106 (K_X10_logs hq25) hg20 rfl rfl rfl (Nat.le_of_ble_eq_true rfl) hl.1 ⟨Nat.le_of_ble_eq_true rfl, Nat.le_of_ble_eq_true rfl⟩ dX10_visits_160 ⟨Nat.le_of_ble_eq_true rfl, Nat.le_of_ble_eq_true rfl⟩) (fun H locs hW => ?_)
  refine lv_aload_n hx hb dX10_visits_163 rfl (lv_at hl 1 rfl) ?_
  refine lv_iload_n hx hb dX10_visits_164 rfl (lv_at hl 2 rfl) ?_
  obtain ⟨hg27, hf⟩ := z_g hf
  obtain ⟨σ29, hq28, hf⟩ := z_b hf
  refine z_cv hW (z_runV (As := [.int l1]) (rest := []) B hW zv_X10_110 (K_X10_polls hq28) hg27 rfl rfl rfl (Nat.le_of_ble_eq_true rfl) hl.1 ⟨Nat.le_of_ble_eq_true rfl, Nat.le_of_ble_eq_true rfl⟩ dX10_visits_165 ⟨Nat.le_of_ble_eq_true rfl, Nat.le_of_ble_eq_true rfl⟩) (fun H locs hW => ?_)
  refine lv_aload_n hx hb dX10_visits_168 rfl (lv_at hl 1 rfl) ?_
  refine lv_iload_n hx hb dX10_visits_169 rfl (lv_at hl 2 rfl) ?_
  obtain ⟨hg30, hf⟩ := z_g hf
  obtain ⟨σ32, hq31, hf⟩ := z_b hf
  refine z_cv hW (z_runV (As := [.int l1]) (rest := []) B hW zv_X10_113 (K_X10_passes hq31) hg30 rfl rfl rfl (Nat.le_of_ble_eq_true rfl) hl.1 ⟨Nat.le_of_ble_eq_true rfl, Nat.le_of_ble_eq_true rfl⟩ dX10_visits_170 ⟨Nat.le_of_ble_eq_true rfl, Nat.le_of_ble_eq_true rfl⟩) (fun H locs hW => ?_)
  obtain rfl := z_e1 hf
  exact z_rv B hW dX10_visits_173 (Nat.le_of_ble_eq_true rfl) (Nat.le_of_ble_eq_true rfl)
set_option maxRecDepth 100000 in
def f_X10_visits_56 (σ : zSt) (l0 : Nat) (l1 : Int32) (l2 : Int32) (s0 : Int32) : Option (zSt) :=
(if z_ob σ l0 9 then (zc (z_R σ l0 0) none (fun q2 => (zb (f_X10_at σ l1 (6 : Int32)) (fun r5 => (if z_ar σ q2 0 then (if z_ix r5 (z_ln σ q2) then (zl (z_pI σ q2 r5.toNatClampNeg l2) (fun σ8 => (if z_ob σ8 l0 9 then (zc (z_R σ8 l0 0) none (fun q11 => (zb (f_X10_at σ8 l1 (5 : Int32)) (fun r14 => (if z_ar σ8 q11 0 then (if z_ix r14 (z_ln σ8 q11) then (zl (z_pI σ8 q11 r14.toNatClampNeg ((z_I σ8 q11 r14.toNatClampNeg) + (1 : Int32))) (fun σ17 => (if z_ob σ17 l0 9 then (zc (z_R σ17 l0 0) none (fun q20 => (if z_ar σ17 q20 0 then (if z_ix (9 : Int32) (z_ln σ17 q20) then (zl (z_pI σ17 q20 (9 : Int32).toNatClampNeg ((z_I σ17 q20 (9 : Int32).toNatClampNeg) + (1 : Int32))) (fun σ24 => (if z_ob σ24 l0 9 then (zc (z_R σ24 l0 0) none (fun q27 => (zc (z_R σ24 l0 0) none (fun q29 => (if z_ar σ24 q29 0 then (if z_ix (8 : Int32) (z_ln σ24 q29) then (if s0 ≤ (z_I σ24 q29 (8 : Int32).toNatClampNeg) then
(zc (z_R σ24 l0 0) none (fun q33 => (if z_ar σ24 q33 0 then (if z_ix (8 : Int32) (z_ln σ24 q33) then (f_X10_visits_122 σ24 l0 l1 l2 s0 (z_I σ24 q33 (8 : Int32).toNatClampNeg) (8 : Int32) (some q27)) else none) else none)))
else
(f_X10_visits_122 σ24 l0 l1 l2 s0 s0 (8 : Int32) (some q27))) else none) else none))))) else none))) else none) else none))) else none))) else none) else none))))) else none))) else none) else none))))) else none)
set_option maxRecDepth 20000 in
set_option maxHeartbeats 4000000 in
theorem t_X10_visits_56 (B : z_B p s m args meth c D cA bs RX10 cX10_visits 5 none)  {σ' : zSt} {σ : zSt} {l0 : Nat} {l1 : Int32} {l2 : Int32} {s0 : Int32} (hf : f_X10_visits_56 σ l0 l1 l2 s0 = some σ') {H : Heap} {locs : List Loc} {ls : Array Slot} (hW : z_Ok D cA bs s σ H locs) (hl : lv_has ls 5 [(0, .ref l0), (1, .int l1), (2, .int l2)])  : W p l e (zrm 5 0 0 117) s m args below meth c H locs 0 0 (MQ below (z_Qv D cA bs σ') args s 0 0 (fun q => bs ≤ q)) (F0 m 56 ls [.int s0]) := by
  have hx := B.1
  have hb := B.2.1
  have hown := B.2.2.2.1
  have hts := B.2.2.2.2.1
  unfold f_X10_visits_56 at hf
  refine lv_istore_n (lv' := [(3, .int s0), (0, .ref l0), (1, .int l1), (2, .int l2)]) hx hb dX10_visits_56 rfl hl (by decide) rfl (fun ls hl => ?_)
  refine lv_aload_n hx hb dX10_visits_57 rfl (lv_at hl 1 rfl) ?_
  obtain ⟨hg1, hf⟩ := z_g hf
  obtain ⟨q2, hv3, hf⟩ := z_nn hf
  refine z_getN B hW (Or.inr zf_X10_7) rfl hg1 hv3 dX10_visits_58 ?_
  refine lv_iload_n hx hb dX10_visits_61 rfl (lv_at hl 2 rfl) ?_
  refine lv_bipush (v := (6 : Int32)) hx hb dX10_visits_62 (by decide) ?_
  obtain ⟨r5, hq4, hf⟩ := z_b hf
  refine z_ci hW (z_runS (As := [.int l1, .int (6 : Int32)]) (rest := [.ref q2]) B hW zv_X10_29 (K_X10_at hq4) rfl rfl (Nat.le_of_ble_eq_true rfl) hl.1 ⟨Nat.le_of_ble_eq_true rfl, Nat.le_of_ble_eq_true rfl⟩ dX10_visits_64 ⟨Nat.le_of_ble_eq_true rfl, Nat.le_of_ble_eq_true rfl⟩) (fun H locs hW => ?_)
  refine lv_iload_n hx hb dX10_visits_67 rfl (lv_at hl 3 rfl) ?_
  obtain ⟨hg6, hf⟩ := z_g hf
  obtain ⟨hg7, hf⟩ := z_g hf
  obtain ⟨σ8, hs9, hf⟩ := z_l hf
  refine z_ast B hW hg6 hg7 hs9 dX10_visits_68 (fun H locs hW => ?_)
  refine lv_aload_n hx hb dX10_visits_69 rfl (lv_at hl 1 rfl) ?_
  obtain ⟨hg10, hf⟩ := z_g hf
  obtain ⟨q11, hv12, hf⟩ := z_nn hf
  refine z_getN B hW (Or.inr zf_X10_7) rfl hg10 hv12 dX10_visits_70 ?_
  refine lv_iload_n hx hb dX10_visits_73 rfl (lv_at hl 2 rfl) ?_
  refine lv_iconst (v := (5 : Int32)) hx hb dX10_visits_74 (by decide) ?_
  obtain ⟨r14, hq13, hf⟩ := z_b hf
  refine z_ci hW (z_runS (As := [.int l1, .int (5 : Int32)]) (rest := [.ref q11]) B hW zv_X10_29 (K_X10_at hq13) rfl rfl (Nat.le_of_ble_eq_true rfl) hl.1 ⟨Nat.le_of_ble_eq_true rfl, Nat.le_of_ble_eq_true rfl⟩ dX10_visits_75 ⟨Nat.le_of_ble_eq_true rfl, Nat.le_of_ble_eq_true rfl⟩) (fun H locs hW => ?_)
  refine lv_dup2_11 hx hb dX10_visits_78 rfl rfl ?_
  obtain ⟨hg15, hf⟩ := z_g hf
  obtain ⟨hg16, hf⟩ := z_g hf
  refine z_ald B hW hg15 hg16 dX10_visits_79 ?_
  refine lv_iconst (v := (1 : Int32)) hx hb dX10_visits_80 (by decide) ?_
  refine lv_iadd hx hb dX10_visits_81 ?_
  obtain ⟨σ17, hs18, hf⟩ := z_l hf
  refine z_ast B hW hg15 hg16 hs18 dX10_visits_82 (fun H locs hW => ?_)
  refine lv_aload_n hx hb dX10_visits_83 rfl (lv_at hl 1 rfl) ?_
  obtain ⟨hg19, hf⟩ := z_g hf
  obtain ⟨q20, hv21, hf⟩ := z_nn hf
  refine z_getN B hW (Or.inr zf_X10_7) rfl hg19 hv21 dX10_visits_84 ?_
  refine lv_bipush (v := (9 : Int32)) hx hb dX10_visits_87 (by decide) ?_
  refine lv_dup2_11 hx hb dX10_visits_89 rfl rfl ?_
  obtain ⟨hg22, hf⟩ := z_g hf
  obtain ⟨hg23, hf⟩ := z_g hf
  refine z_ald B hW hg22 hg23 dX10_visits_90 ?_
  refine lv_iconst (v := (1 : Int32)) hx hb dX10_visits_91 (by decide) ?_
  refine lv_iadd hx hb dX10_visits_92 ?_
  obtain ⟨σ24, hs25, hf⟩ := z_l hf
  refine z_ast B hW hg22 hg23 hs25 dX10_visits_93 (fun H locs hW => ?_)
  refine lv_aload_n hx hb dX10_visits_94 rfl (lv_at hl 1 rfl) ?_
  obtain ⟨hg26, hf⟩ := z_g hf
  obtain ⟨q27, hv28, hf⟩ := z_nn hf
  refine z_getN B hW (Or.inr zf_X10_7) rfl hg26 hv28 dX10_visits_95 ?_
  refine lv_bipush (v := (8 : Int32)) hx hb dX10_visits_98 (by decide) ?_
  refine lv_iload_n hx hb dX10_visits_100 rfl (lv_at hl 0 rfl) ?_
  refine lv_aload_n hx hb dX10_visits_101 rfl (lv_at hl 1 rfl) ?_
  obtain ⟨q29, hv30, hf⟩ := z_nn hf
  refine z_getN B hW (Or.inr zf_X10_7) rfl hg26 hv30 dX10_visits_102 ?_
  refine lv_bipush (v := (8 : Int32)) hx hb dX10_visits_105 (by decide) ?_
  obtain ⟨hg31, hf⟩ := z_g hf
  obtain ⟨hg32, hf⟩ := z_g hf
  refine z_ald B hW hg31 hg32 dX10_visits_107 ?_
  refine lv_icmp_le (tgt := 115) hx hb dX10_visits_108 (by decide) (fun hc108 => ?_) (fun hc108 => ?_)
  · replace hf := z_ip hc108 hf
    refine lv_aload_n hx hb dX10_visits_115 rfl (lv_at hl 1 rfl) ?_
    obtain ⟨q33, hv34, hf⟩ := z_nn hf
    refine z_getN B hW (Or.inr zf_X10_7) rfl hg26 hv34 dX10_visits_116 ?_
    refine lv_bipush (v := (8 : Int32)) hx hb dX10_visits_119 (by decide) ?_
    obtain ⟨hg35, hf⟩ := z_g hf
    obtain ⟨hg36, hf⟩ := z_g hf
    refine z_ald B hW hg35 hg36 dX10_visits_121 ?_
    exact t_X10_visits_122 B hf hW (lv_sub hl [1, 2, 3, 0] rfl) 
  · replace hf := z_in hc108 hf
    refine lv_iload_n hx hb dX10_visits_111 rfl (lv_at hl 0 rfl) ?_
    refine lv_goto (tgt := 122) hx hb dX10_visits_112 (by decide) ?_
    exact t_X10_visits_122 B hf hW (lv_sub hl [1, 2, 3, 0] rfl) 
set_option maxRecDepth 100000 in
def f_X10_visits_18 (σ : zSt) (l0 : Nat) : Option (zSt) :=
(if z_ob σ l0 9 then (zc (z_R σ l0 0) none (fun q2 => (if z_ar σ q2 0 then (if z_ix (4 : Int32) (z_ln σ q2) then (zl (z_I σ q2 (4 : Int32).toNatClampNeg) (fun x6 => (zc (z_R σ l0 0) none (fun q8 => (if z_ar σ q8 0 then (if z_ix (3 : Int32) (z_ln σ q8) then (zl (z_I σ q8 (3 : Int32).toNatClampNeg) (fun x12 => (zb (f_X10_of σ l0 x6 (6 : Int32)) (fun r15 => (if r15 = (-1 : Int32) then
(f_X10_visits_56 σ l0 x6 x12 (0 : Int32))
else
(zb (f_X10_of σ l0 x6 (6 : Int32)) (fun r17 => (f_X10_visits_56 σ l0 x6 x12 (x12 - r17))))))))) else none) else none))))) else none) else none))) else none)
set_option maxRecDepth 20000 in
set_option maxHeartbeats 4000000 in
theorem t_X10_visits_18 (B : z_B p s m args meth c D cA bs RX10 cX10_visits 5 none)  {σ' : zSt} {σ : zSt} {l0 : Nat} (hf : f_X10_visits_18 σ l0 = some σ') {H : Heap} {locs : List Loc} {ls : Array Slot} (hW : z_Ok D cA bs s σ H locs) (hl : lv_has ls 5 [(0, .ref l0)])  : W p l e (zrm 5 0 0 117) s m args below meth c H locs 0 0 (MQ below (z_Qv D cA bs σ') args s 0 0 (fun q => bs ≤ q)) (F0 m 18 ls []) := by
  have hx := B.1
  have hb := B.2.1
  have hown := B.2.2.2.1
  have hts := B.2.2.2.2.1
  unfold f_X10_visits_18 at hf
  refine lv_aload_n hx hb dX10_visits_18 rfl (lv_at hl 0 rfl) ?_
  obtain ⟨hg1, hf⟩ := z_g hf
  obtain ⟨q2, hv3, hf⟩ := z_nn hf
  refine z_getN B hW (Or.inr zf_X10_7) rfl hg1 hv3 dX10_visits_19 ?_
  refine lv_iconst (v := (4 : Int32)) hx hb dX10_visits_22 (by decide) ?_
  obtain ⟨hg4, hf⟩ := z_g hf
  obtain ⟨hg5, hf⟩ := z_g hf
  refine z_ald B hW hg4 hg5 dX10_visits_23 ?_
  obtain ⟨x6, hx7, hf⟩ := z_l hf
  rw [hx7]
  refine lv_istore_n (lv' := [(1, .int x6), (0, .ref l0)]) hx hb dX10_visits_24 rfl hl (by decide) rfl (fun ls hl => ?_)
  refine lv_aload_n hx hb dX10_visits_25 rfl (lv_at hl 1 rfl) ?_
  obtain ⟨q8, hv9, hf⟩ := z_nn hf
  refine z_getN B hW (Or.inr zf_X10_7) rfl hg1 hv9 dX10_visits_26 ?_
  refine lv_iconst (v := (3 : Int32)) hx hb dX10_visits_29 (by decide) ?_
  obtain ⟨hg10, hf⟩ := z_g hf
  obtain ⟨hg11, hf⟩ := z_g hf
  refine z_ald B hW hg10 hg11 dX10_visits_30 ?_
  obtain ⟨x12, hx13, hf⟩ := z_l hf
  rw [hx13]
  refine lv_istore_n (lv' := [(2, .int x12), (1, .int x6), (0, .ref l0)]) hx hb dX10_visits_31 rfl hl (by decide) rfl (fun ls hl => ?_)
  refine lv_aload_n hx hb dX10_visits_32 rfl (lv_at hl 2 rfl) ?_
  refine lv_iload_n hx hb dX10_visits_33 rfl (lv_at hl 1 rfl) ?_
  refine lv_bipush (v := (6 : Int32)) hx hb dX10_visits_34 (by decide) ?_
  obtain ⟨r15, hq14, hf⟩ := z_b hf
  refine z_ci hW (z_runV (As := [.int x6, .int (6 : Int32)]) (rest := []) B hW zv_X10_39 (K_X10_of hq14) hg1 rfl rfl rfl (Nat.le_of_ble_eq_true rfl) hl.1 ⟨Nat.le_of_ble_eq_true rfl, Nat.le_of_ble_eq_true rfl⟩ dX10_visits_36 ⟨Nat.le_of_ble_eq_true rfl, Nat.le_of_ble_eq_true rfl⟩) (fun H locs hW => ?_)
  refine lv_iconst (v := (-1 : Int32)) hx hb dX10_visits_39 (by decide) ?_
  refine lv_icmp_ne (tgt := 47) hx hb dX10_visits_40 (by decide) (fun hc40 => ?_) (fun hc40 => ?_)
  · replace hf := z_in hc40 hf
    refine lv_iload_n hx hb dX10_visits_47 rfl (lv_at hl 0 rfl) ?_
    refine lv_aload_n hx hb dX10_visits_48 rfl (lv_at hl 2 rfl) ?_
    refine lv_iload_n hx hb dX10_visits_49 rfl (lv_at hl 1 rfl) ?_
    refine lv_bipush (v := (6 : Int32)) hx hb dX10_visits_50 (by decide) ?_
    obtain ⟨r17, hq16, hf⟩ := z_b hf
    refine z_ci hW (z_runV (As := [.int x6, .int (6 : Int32)]) (rest := [.int x12]) B hW zv_X10_39 (K_X10_of hq16) hg1 rfl rfl rfl (Nat.le_of_ble_eq_true rfl) hl.1 ⟨Nat.le_of_ble_eq_true rfl, Nat.le_of_ble_eq_true rfl⟩ dX10_visits_52 ⟨Nat.le_of_ble_eq_true rfl, Nat.le_of_ble_eq_true rfl⟩) (fun H locs hW => ?_)
    refine lv_isub hx hb dX10_visits_55 ?_
    exact t_X10_visits_56 B hf hW (lv_sub hl [2, 1, 0] rfl) 
  · replace hf := z_ip hc40 hf
    refine lv_iconst (v := (0 : Int32)) hx hb dX10_visits_43 (by decide) ?_
    refine lv_goto (tgt := 56) hx hb dX10_visits_44 (by decide) ?_
    exact t_X10_visits_56 B hf hW (lv_sub hl [2, 1, 0] rfl) 
set_option maxRecDepth 100000 in
def f_X10_visits (σ : zSt) (l0 : Nat) : Option (zSt) :=
(if z_ob σ l0 9 then (zc (z_R σ l0 0) none (fun q2 => (if z_ar σ q2 0 then (if z_ix (4 : Int32) (z_ln σ q2) then (if (z_I σ q2 (4 : Int32).toNatClampNeg) = (-1 : Int32) then
(zb2 (f_X10_makesToken σ l0) (fun r7 σ8 => (if r7 = 0 then
(some σ8)
else
(f_X10_visits_18 σ8 l0))))
else
(f_X10_visits_18 σ l0)) else none) else none))) else none)
set_option maxRecDepth 20000 in
set_option maxHeartbeats 4000000 in
theorem K_X10_visits {σ : zSt} {l0 : Nat}  {σ' : zSt} (hf : f_X10_visits σ l0 = some σ') : z_M l D cA bs yX10_visits cX10_visits 5 none 5 117 0 0 [.ref l0] σ (z_Qv D cA bs σ') := by
  refine z_met (own := RX10) (lv := [(0, .ref l0)]) (by decide) rfl (Nat.le_of_ble_eq_true rfl) rfl (fun p e s m below meth c ls B hnm hW hl => ?_)
  have hx := B.1
  have hb := B.2.1
  have hown := B.2.2.2.1
  have hts := B.2.2.2.2.1
  unfold f_X10_visits at hf
  refine lv_aload_n hx hb dX10_visits_0 rfl (lv_at hl 0 rfl) ?_
  obtain ⟨hg1, hf⟩ := z_g hf
  obtain ⟨q2, hv3, hf⟩ := z_nn hf
  refine z_getN B hW (Or.inr zf_X10_7) rfl hg1 hv3 dX10_visits_1 ?_
  refine lv_iconst (v := (4 : Int32)) hx hb dX10_visits_4 (by decide) ?_
  obtain ⟨hg4, hf⟩ := z_g hf
  obtain ⟨hg5, hf⟩ := z_g hf
  refine z_ald B hW hg4 hg5 dX10_visits_5 ?_
  refine lv_iconst (v := (-1 : Int32)) hx hb dX10_visits_6 (by decide) ?_
  refine lv_icmp_ne (tgt := 18) hx hb dX10_visits_7 (by decide) (fun hc7 => ?_) (fun hc7 => ?_)
  · replace hf := z_in hc7 hf
    exact t_X10_visits_18 B hf hW hl 
  · replace hf := z_ip hc7 hf
    refine lv_aload_n hx hb dX10_visits_10 rfl (lv_at hl 0 rfl) ?_
    obtain ⟨r7, σ8, hq6, hf⟩ := z_b2 hf
    refine z_ci hW (z_runV (As := []) (rest := []) B hW zv_X10_98 (K_X10_makesToken hq6) hg1 rfl rfl rfl (Nat.le_of_ble_eq_true rfl) hl.1 ⟨Nat.le_of_ble_eq_true rfl, Nat.le_of_ble_eq_true rfl⟩ dX10_visits_11 ⟨Nat.le_of_ble_eq_true rfl, Nat.le_of_ble_eq_true rfl⟩) (fun H locs hW => ?_)
    refine lv_if_ne (tgt := 18) hx hb dX10_visits_14 (by decide) (fun hc14 => ?_) (fun hc14 => ?_)
    · replace hf := z_in hc14 hf
      exact t_X10_visits_18 B hf hW hl 
    · replace hf := z_ip hc14 hf
      obtain rfl := z_e1 hf
      exact z_rv B hW dX10_visits_17 (Nat.le_of_ble_eq_true rfl) (Nat.le_of_ble_eq_true rfl)
set_option maxRecDepth 100000 in
def b_X10_run_41 (l0 : Nat) (l1 : Int32) (σ : zSt) (l2 : Int32) : Option ((zSt × Int32) ⊕ (Int32 × zSt)) :=
(if l1 ≤ l2 then
(zex (if z_ob σ l0 9 then (zc (z_R σ l0 0) none (fun q2 => (if z_ar σ q2 0 then (if z_ix (3 : Int32) (z_ln σ q2) then (some ((z_I σ q2 (3 : Int32).toNatClampNeg), σ)) else none) else none))) else none))
else
(if z_ob σ l0 9 then (zb (f_X10_visits σ l0) (fun σ9 => (some (.inl (σ9, (l2 + (1 : Int32))))))) else none))
set_option maxRecDepth 100000 in
def f_X10_run_41 (l0 : Nat) (l1 : Int32) (σ : zSt) (l2 : Int32) : Option (Int32 × zSt) := zloop (fun (t : zSt × Int32) => b_X10_run_41 l0 l1 t.1 t.2) zN (σ, l2)
set_option maxRecDepth 20000 in
set_option maxHeartbeats 4000000 in
theorem tb_X10_run_41 (B : z_B p s m args meth c D cA bs RX10 cX10_run 3 (some .int)) {r : Int32} {σ' : zSt} {o1 : (zSt × Int32) ⊕ (Int32 × zSt)} {l0 : Nat} {l1 : Int32} {σ : zSt} {l2 : Int32} (hf : b_X10_run_41 l0 l1 σ l2 = some o1) {H : Heap} {locs : List Loc} {ls : Array Slot} (hW : z_Ok D cA bs s σ H locs) (hl : lv_has ls 3 [(0, .ref l0), (1, .int l1), (2, .int l2)]) (hk1 : ∀ (σ : zSt) (l2 : Int32), o1 = .inl (σ, l2) → ∀ {H : Heap} {locs : List Loc} {ls : Array Slot}, z_Ok D cA bs s σ H locs → lv_has ls 3 [(0, .ref l0), (1, .int l1), (2, .int l2)] → W p l e (zrm 6 0 0 141) s m args below meth c H locs 0 0 (MQ below (z_Qi D cA bs r σ') args s 0 0 (fun q => bs ≤ q)) (F0 m 41 ls [])) (hr1 : ∀ x, o1 = .inr x → x = (r, σ')) : W p l e (zrm 6 0 0 141) s m args below meth c H locs 0 0 (MQ below (z_Qi D cA bs r σ') args s 0 0 (fun q => bs ≤ q)) (F0 m 41 ls []) := by
  have hx := B.1
  have hb := B.2.1
  have hown := B.2.2.2.1
  have hts := B.2.2.2.2.1
  unfold b_X10_run_41 at hf
  refine lv_iload_n hx hb dX10_run_41 rfl (lv_at hl 2 rfl) ?_
  refine lv_iload_n hx hb dX10_run_42 rfl (lv_at hl 1 rfl) ?_
  refine lv_icmp_ge (tgt := 56) hx hb dX10_run_43 (by decide) (fun hc43 => ?_) (fun hc43 => ?_)
  · replace hf := z_ip hc43 hf
    obtain ⟨w1, hf, ho6⟩ := z_x hf
    obtain rfl := hr1 _ ho6
    refine lv_aload_n hx hb dX10_run_56 rfl (lv_at hl 0 rfl) ?_
    obtain ⟨hg1, hf⟩ := z_g hf
    obtain ⟨q2, hv3, hf⟩ := z_nn hf
    refine z_getN B hW (Or.inr zf_X10_7) rfl hg1 hv3 dX10_run_57 ?_
    refine lv_iconst (v := (3 : Int32)) hx hb dX10_run_60 (by decide) ?_
    obtain ⟨hg4, hf⟩ := z_g hf
    obtain ⟨hg5, hf⟩ := z_g hf
    refine z_ald B hW hg4 hg5 dX10_run_61 ?_
    obtain ⟨rfl, rfl⟩ := z_e2 hf
    exact z_ri B hW dX10_run_62 (Nat.le_of_ble_eq_true rfl) (Nat.le_of_ble_eq_true rfl)
  · replace hf := z_in hc43 hf
    refine lv_aload_n hx hb dX10_run_46 rfl (lv_at hl 0 rfl) ?_
    obtain ⟨hg7, hf⟩ := z_g hf
    obtain ⟨σ9, hq8, hf⟩ := z_b hf
    refine z_cv hW (z_runV (As := []) (rest := []) B hW zv_X10_119 (K_X10_visits hq8) hg7 rfl rfl rfl (Nat.le_of_ble_eq_true rfl) hl.1 ⟨Nat.le_of_ble_eq_true rfl, Nat.le_of_ble_eq_true rfl⟩ dX10_run_47 ⟨Nat.le_of_ble_eq_true rfl, Nat.le_of_ble_eq_true rfl⟩) (fun H locs hW => ?_)
    refine lv_iinc (v := (l2 + (1 : Int32))) (lv' := [(2, .int (l2 + (1 : Int32))), (0, .ref l0), (1, .int l1)]) hx hb dX10_run_50 hl (k := 2) rfl rfl (by decide) rfl (fun ls hl => ?_)
    refine lv_goto (tgt := 41) hx hb dX10_run_53 (by decide) ?_
    exact hk1 _ _ (Option.some.inj hf).symm hW (lv_sub hl [1, 2, 0] rfl)
set_option maxRecDepth 20000 in
set_option maxHeartbeats 4000000 in
theorem t_X10_run_41 (B : z_B p s m args meth c D cA bs RX10 cX10_run 3 (some .int)) {r : Int32} {σ' : zSt} {l0 : Nat} {l1 : Int32}  : ∀ (n : Nat) {σ : zSt} {l2 : Int32}, zloop (fun (t : zSt × Int32) => b_X10_run_41 l0 l1 t.1 t.2) n (σ, l2) = some (r, σ') → ∀ {H : Heap} {locs : List Loc} {ls : Array Slot}, z_Ok D cA bs s σ H locs → lv_has ls 3 [(0, .ref l0), (1, .int l1), (2, .int l2)] → W p l e (zrm 6 0 0 141) s m args below meth c H locs 0 0 (MQ below (z_Qi D cA bs r σ') args s 0 0 (fun q => bs ≤ q)) (F0 m 41 ls []) := by
  intro n
  induction n with
  | zero => intro σ l2 hf; cases hf
  | succ n ih =>
    intro σ l2 hf H locs ls hW hl
    obtain ⟨o1, hb1, hf⟩ := z_lp hf
    refine tb_X10_run_41 B hb1 hW hl  (fun σ l2 he H locs ls hW hl => ?_) (fun x he => ?_)
    · rcases hf with ⟨t, ht, hf⟩ | hf
      · rw [he] at ht
        cases ht
        exact ih hf hW hl
      · rw [he] at hf
        cases hf
    · rcases hf with ⟨t, ht, hf⟩ | hf
      · rw [he] at ht
        cases ht
      · rw [he] at hf
        exact Sum.inr.inj hf
set_option maxRecDepth 100000 in
def f_X10_run_26 (σ : zSt) (l0 : Nat) (l1 : Int32) (s0 : Int32) (s1 : Int32) (s2 : Option Nat) : Option (Int32 × zSt) :=
(zc s2 none (fun a1 => (if z_ob σ a1 9 then (zb2 (f_X10_goes σ a1 s1 s0 (1 : Int32)) (fun r5 σ6 => (if r5 = 0 then
(some ((0 : Int32), σ6))
else
(if z_ob σ6 l0 9 then (zb (f_X10_save σ6 l0) (fun σ9 => (f_X10_run_41 l0 l1 σ9 (0 : Int32)))) else none)))) else none)))
set_option maxRecDepth 20000 in
set_option maxHeartbeats 4000000 in
theorem t_X10_run_26 (B : z_B p s m args meth c D cA bs RX10 cX10_run 3 (some .int)) {r : Int32} {σ' : zSt} {σ : zSt} {l0 : Nat} {l1 : Int32} {s0 : Int32} {s1 : Int32} {s2 : Option Nat} (hf : f_X10_run_26 σ l0 l1 s0 s1 s2 = some (r, σ')) {H : Heap} {locs : List Loc} {ls : Array Slot} (hW : z_Ok D cA bs s σ H locs) (hl : lv_has ls 3 [(0, .ref l0), (1, .int l1)])  : W p l e (zrm 6 0 0 141) s m args below meth c H locs 0 0 (MQ below (z_Qi D cA bs r σ') args s 0 0 (fun q => bs ≤ q)) (F0 m 26 ls [.int s0, .int s1, va_rf s2]) := by
  have hx := B.1
  have hb := B.2.1
  have hown := B.2.2.2.1
  have hts := B.2.2.2.2.1
  unfold f_X10_run_26 at hf
  refine lv_iconst (v := (1 : Int32)) hx hb dX10_run_26 (by decide) ?_
  obtain ⟨a1, hn2, hf⟩ := z_nn hf
  subst hn2
  obtain ⟨hg3, hf⟩ := z_g hf
  obtain ⟨r5, σ6, hq4, hf⟩ := z_b2 hf
  refine z_ci hW (z_runV (As := [.int s1, .int s0, .int (1 : Int32)]) (rest := []) B hW zv_X10_53 (K_X10_goes hq4) hg3 rfl rfl rfl (Nat.le_of_ble_eq_true rfl) hl.1 ⟨Nat.le_of_ble_eq_true rfl, Nat.le_of_ble_eq_true rfl⟩ dX10_run_27 ⟨Nat.le_of_ble_eq_true rfl, Nat.le_of_ble_eq_true rfl⟩) (fun H locs hW => ?_)
  refine lv_if_ne (tgt := 35) hx hb dX10_run_30 (by decide) (fun hc30 => ?_) (fun hc30 => ?_)
  · replace hf := z_in hc30 hf
    refine lv_aload_n hx hb dX10_run_35 rfl (lv_at hl 0 rfl) ?_
    obtain ⟨hg7, hf⟩ := z_g hf
    obtain ⟨σ9, hq8, hf⟩ := z_b hf
    refine z_cv hW (z_runV (As := []) (rest := []) B hW zv_X10_57 (K_X10_save hq8) hg7 rfl rfl rfl (Nat.le_of_ble_eq_true rfl) hl.1 ⟨Nat.le_of_ble_eq_true rfl, Nat.le_of_ble_eq_true rfl⟩ dX10_run_36 ⟨Nat.le_of_ble_eq_true rfl, Nat.le_of_ble_eq_true rfl⟩) (fun H locs hW => ?_)
    refine lv_iconst (v := (0 : Int32)) hx hb dX10_run_39 (by decide) ?_
    refine lv_istore_n (lv' := [(2, .int (0 : Int32)), (0, .ref l0), (1, .int l1)]) hx hb dX10_run_40 rfl hl (by decide) rfl (fun ls hl => ?_)
    unfold f_X10_run_41 at hf
    exact t_X10_run_41 B  zN hf hW (lv_sub hl [1, 2, 0] rfl)
  · replace hf := z_ip hc30 hf
    refine lv_iconst (v := (0 : Int32)) hx hb dX10_run_33 (by decide) ?_
    obtain ⟨rfl, rfl⟩ := z_e2 hf
    exact z_ri B hW dX10_run_34 (Nat.le_of_ble_eq_true rfl) (Nat.le_of_ble_eq_true rfl)
set_option maxRecDepth 100000 in
def f_X10_run (σ : zSt) (l0 : Nat) (l1 : Int32) : Option (Int32 × zSt) :=
(zb (f_X10_in σ l1.toInt64 (0 : Int64) (200 : Int64)) (fun r2 => (if z_ob σ l0 9 then (zc (z_R σ l0 0) none (fun q4 => (if z_ar σ q4 0 then (if z_ix (3 : Int32) (z_ln σ q4) then (if (900000 : Int32) < (z_I σ q4 (3 : Int32).toNatClampNeg) then
(f_X10_run_26 σ l0 l1 (0 : Int32) r2 (some l0))
else
(f_X10_run_26 σ l0 l1 (1 : Int32) r2 (some l0))) else none) else none))) else none)))
set_option maxRecDepth 20000 in
set_option maxHeartbeats 4000000 in
theorem K_X10_run {σ : zSt} {l0 : Nat} {l1 : Int32} {r : Int32} {σ' : zSt} (hf : f_X10_run σ l0 l1 = some (r, σ')) : z_M l D cA bs yX10_run cX10_run 3 (some .int) 6 141 0 0 [.ref l0, .int l1] σ (z_Qi D cA bs r σ') := by
  refine z_met (own := RX10) (lv := [(0, .ref l0), (1, .int l1)]) (by decide) rfl (Nat.le_of_ble_eq_true rfl) rfl (fun p e s m below meth c ls B hnm hW hl => ?_)
  have hx := B.1
  have hb := B.2.1
  have hown := B.2.2.2.1
  have hts := B.2.2.2.2.1
  unfold f_X10_run at hf
  refine lv_aload_n hx hb dX10_run_0 rfl (lv_at hl 0 rfl) ?_
  refine lv_iload_n hx hb dX10_run_1 rfl (lv_at hl 1 rfl) ?_
  refine lv_i2l (v := l1.toInt64) hx hb dX10_run_2 rfl ?_
  refine lv_lconst (v := (0 : Int64)) hx hb dX10_run_3 (by decide) ?_
  refine lv_ldc2 hx hb hown (hts _ zk_X10_116) dX10_run_4 ?_
  obtain ⟨r2, hq1, hf⟩ := z_b hf
  refine z_ci hW (z_runS (As := [.long l1.toInt64, .long (0 : Int64), .long (200 : Int64)]) (rest := [.ref l0]) B hW zv_X10_35 (K_X10_in hq1) rfl rfl (Nat.le_of_ble_eq_true rfl) hl.1 ⟨Nat.le_of_ble_eq_true rfl, Nat.le_of_ble_eq_true rfl⟩ dX10_run_7 ⟨Nat.le_of_ble_eq_true rfl, Nat.le_of_ble_eq_true rfl⟩) (fun H locs hW => ?_)
  refine lv_aload_n hx hb dX10_run_10 rfl (lv_at hl 0 rfl) ?_
  obtain ⟨hg3, hf⟩ := z_g hf
  obtain ⟨q4, hv5, hf⟩ := z_nn hf
  refine z_getN B hW (Or.inr zf_X10_7) rfl hg3 hv5 dX10_run_11 ?_
  refine lv_iconst (v := (3 : Int32)) hx hb dX10_run_14 (by decide) ?_
  obtain ⟨hg6, hf⟩ := z_g hf
  obtain ⟨hg7, hf⟩ := z_g hf
  refine z_ald B hW hg6 hg7 dX10_run_15 ?_
  refine lv_ldc hx hb hown (hts _ zk_X10_118) dX10_run_16 ?_
  refine lv_icmp_gt (tgt := 25) hx hb dX10_run_18 (by decide) (fun hc18 => ?_) (fun hc18 => ?_)
  · replace hf := z_ip hc18 hf
    refine lv_iconst (v := (0 : Int32)) hx hb dX10_run_25 (by decide) ?_
    exact t_X10_run_26 B hf hW hl 
  · replace hf := z_in hc18 hf
    refine lv_iconst (v := (1 : Int32)) hx hb dX10_run_21 (by decide) ?_
    refine lv_goto (tgt := 26) hx hb dX10_run_22 (by decide) ?_
    exact t_X10_run_26 B hf hW hl 
set_option maxRecDepth 100000 in
def f_X10_loseToken (σ : zSt) (l0 : Nat) : Option (Int32 × zSt) :=
(if z_ob σ l0 9 then (zl (z_pI σ l0 4 (0 : Int32)) (fun σ2 => (if z_ob σ2 l0 9 then (zb (f_X10_save σ2 l0) (fun σ6 => (if z_ob σ6 l0 9 then (zc (z_R σ6 l0 0) none (fun q8 => (if z_ar σ6 q8 0 then (if z_ix (4 : Int32) (z_ln σ6 q8) then (zl (z_I σ6 q8 (4 : Int32).toNatClampNeg) (fun x12 => (zc (z_R σ6 l0 0) none (fun q14 => (if z_ar σ6 q14 0 then (if z_ix (4 : Int32) (z_ln σ6 q14) then (zl (z_pI σ6 q14 (4 : Int32).toNatClampNeg (-1 : Int32)) (fun σ18 => (some (x12, σ18)))) else none) else none))))) else none) else none))) else none))) else none))) else none)
set_option maxRecDepth 20000 in
set_option maxHeartbeats 4000000 in
theorem K_X10_loseToken {σ : zSt} {l0 : Nat} {r : Int32} {σ' : zSt} (hf : f_X10_loseToken σ l0 = some (r, σ')) : z_M l D cA bs yX10_loseToken cX10_loseToken 2 (some .int) 1 21 0 0 [.ref l0] σ (z_Qi D cA bs r σ') := by
  refine z_met (own := RX10) (lv := [(0, .ref l0)]) (by decide) rfl (Nat.le_of_ble_eq_true rfl) rfl (fun p e s m below meth c ls B hnm hW hl => ?_)
  have hx := B.1
  have hb := B.2.1
  have hown := B.2.2.2.1
  have hts := B.2.2.2.2.1
  unfold f_X10_loseToken at hf
  refine lv_aload_n hx hb dX10_loseToken_0 rfl (lv_at hl 0 rfl) ?_
  refine lv_iconst (v := (0 : Int32)) hx hb dX10_loseToken_1 (by decide) ?_
  obtain ⟨hg1, hf⟩ := z_g hf
  obtain ⟨σ2, hs3, hf⟩ := z_l hf
  refine z_putI B hW zf_X10_22 hg1 rfl hs3 dX10_loseToken_2 (fun H locs hW => ?_)
  refine lv_aload_n hx hb dX10_loseToken_5 rfl (lv_at hl 0 rfl) ?_
  obtain ⟨hg4, hf⟩ := z_g hf
  obtain ⟨σ6, hq5, hf⟩ := z_b hf
  refine z_cv hW (z_runV (As := []) (rest := []) B hW zv_X10_57 (K_X10_save hq5) hg4 rfl rfl rfl (Nat.le_of_ble_eq_true rfl) hl.1 ⟨Nat.le_of_ble_eq_true rfl, Nat.le_of_ble_eq_true rfl⟩ dX10_loseToken_6 ⟨Nat.le_of_ble_eq_true rfl, Nat.le_of_ble_eq_true rfl⟩) (fun H locs hW => ?_)
  refine lv_aload_n hx hb dX10_loseToken_9 rfl (lv_at hl 0 rfl) ?_
  obtain ⟨hg7, hf⟩ := z_g hf
  obtain ⟨q8, hv9, hf⟩ := z_nn hf
  refine z_getN B hW (Or.inr zf_X10_7) rfl hg7 hv9 dX10_loseToken_10 ?_
  refine lv_iconst (v := (4 : Int32)) hx hb dX10_loseToken_13 (by decide) ?_
  obtain ⟨hg10, hf⟩ := z_g hf
  obtain ⟨hg11, hf⟩ := z_g hf
  refine z_ald B hW hg10 hg11 dX10_loseToken_14 ?_
  obtain ⟨x12, hx13, hf⟩ := z_l hf
  rw [hx13]
  refine lv_istore_n (lv' := [(1, .int x12), (0, .ref l0)]) hx hb dX10_loseToken_15 rfl hl (by decide) rfl (fun ls hl => ?_)
  refine lv_aload_n hx hb dX10_loseToken_16 rfl (lv_at hl 1 rfl) ?_
  obtain ⟨q14, hv15, hf⟩ := z_nn hf
  refine z_getN B hW (Or.inr zf_X10_7) rfl hg7 hv15 dX10_loseToken_17 ?_
  refine lv_iconst (v := (4 : Int32)) hx hb dX10_loseToken_20 (by decide) ?_
  refine lv_iconst (v := (-1 : Int32)) hx hb dX10_loseToken_21 (by decide) ?_
  obtain ⟨hg16, hf⟩ := z_g hf
  obtain ⟨hg17, hf⟩ := z_g hf
  obtain ⟨σ18, hs19, hf⟩ := z_l hf
  refine z_ast B hW hg16 hg17 hs19 dX10_loseToken_22 (fun H locs hW => ?_)
  refine lv_iload_n hx hb dX10_loseToken_23 rfl (lv_at hl 0 rfl) ?_
  obtain ⟨rfl, rfl⟩ := z_e2 hf
  exact z_ri B hW dX10_loseToken_24 (Nat.le_of_ble_eq_true rfl) (Nat.le_of_ble_eq_true rfl)
set_option maxRecDepth 100000 in
def f_X10_inRing_24 (σ : zSt) (l0 : Nat) (l2 : Int32) (s0 : Int32) (s1 : Int32) : Option ((Int32 × Int32) ⊕ (Int32)) :=
(zl (s1 + s0) (fun x1 => (some (.inl (x1, (l2 + (1 : Int32)))))))
set_option maxRecDepth 20000 in
set_option maxHeartbeats 4000000 in
theorem t_X10_inRing_24 (B : z_B p s m args meth c D cA bs RX10 cX10_inRing 3 (some .int)) {r : Int32} {o1 : (Int32 × Int32) ⊕ (Int32)} {σ : zSt} {l0 : Nat} {l2 : Int32} {s0 : Int32} {s1 : Int32} (hf : f_X10_inRing_24 σ l0 l2 s0 s1 = some o1) {H : Heap} {locs : List Loc} {ls : Array Slot} (hW : z_Ok D cA bs s σ H locs) (hl : lv_has ls 3 [(0, .ref l0), (2, .int l2)]) (hk1 : ∀ (l1 : Int32) (l2 : Int32), o1 = .inl (l1, l2) → ∀ {H : Heap} {locs : List Loc} {ls : Array Slot}, z_Ok D cA bs s σ H locs → lv_has ls 3 [(0, .ref l0), (1, .int l1), (2, .int l2)] → W p l e (zrm 3 0 0 64) s m args below meth c H locs 0 0 (MQ below (z_Qi D cA bs r σ) args s 0 0 (fun q => bs ≤ q)) (F0 m 4 ls [])) (hr1 : ∀ x, o1 = .inr x → x = r) : W p l e (zrm 3 0 0 64) s m args below meth c H locs 0 0 (MQ below (z_Qi D cA bs r σ) args s 0 0 (fun q => bs ≤ q)) (F0 m 24 ls [.int s0, .int s1]) := by
  have hx := B.1
  have hb := B.2.1
  have hown := B.2.2.2.1
  have hts := B.2.2.2.2.1
  unfold f_X10_inRing_24 at hf
  refine lv_iadd hx hb dX10_inRing_24 ?_
  obtain ⟨x1, hx2, hf⟩ := z_l hf
  rw [hx2]
  refine lv_istore_n (lv' := [(1, .int x1), (0, .ref l0), (2, .int l2)]) hx hb dX10_inRing_25 rfl hl (by decide) rfl (fun ls hl => ?_)
  refine lv_iinc (v := (l2 + (1 : Int32))) (lv' := [(2, .int (l2 + (1 : Int32))), (1, .int x1), (0, .ref l0)]) hx hb dX10_inRing_26 hl (k := 2) rfl rfl (by decide) rfl (fun ls hl => ?_)
  refine lv_goto (tgt := 4) hx hb dX10_inRing_29 (by decide) ?_
  exact hk1 _ _ (Option.some.inj hf).symm hW (lv_sub hl [2, 1, 0] rfl)
set_option maxRecDepth 100000 in
def b_X10_inRing_4 (σ : zSt) (l0 : Nat) (l1 : Int32) (l2 : Int32) : Option ((Int32 × Int32) ⊕ (Int32)) :=
(if (32 : Int32) ≤ l2 then
(zex (some l1))
else
(if z_ob σ l0 9 then (zb (f_X10_isInRing σ l0 l2) (fun r4 => (if r4 = 0 then
(f_X10_inRing_24 σ l0 l2 (0 : Int32) l1)
else
(f_X10_inRing_24 σ l0 l2 (1 : Int32) l1)))) else none))
set_option maxRecDepth 100000 in
def f_X10_inRing_4 (σ : zSt) (l0 : Nat) (l1 : Int32) (l2 : Int32) : Option (Int32) := zloop (fun (t : Int32 × Int32) => b_X10_inRing_4 σ l0 t.1 t.2) zN (l1, l2)
set_option maxRecDepth 20000 in
set_option maxHeartbeats 4000000 in
theorem tb_X10_inRing_4 (B : z_B p s m args meth c D cA bs RX10 cX10_inRing 3 (some .int)) {r : Int32} {o1 : (Int32 × Int32) ⊕ (Int32)} {σ : zSt} {l0 : Nat} {l1 : Int32} {l2 : Int32} (hf : b_X10_inRing_4 σ l0 l1 l2 = some o1) {H : Heap} {locs : List Loc} {ls : Array Slot} (hW : z_Ok D cA bs s σ H locs) (hl : lv_has ls 3 [(0, .ref l0), (1, .int l1), (2, .int l2)]) (hk1 : ∀ (l1 : Int32) (l2 : Int32), o1 = .inl (l1, l2) → ∀ {H : Heap} {locs : List Loc} {ls : Array Slot}, z_Ok D cA bs s σ H locs → lv_has ls 3 [(0, .ref l0), (1, .int l1), (2, .int l2)] → W p l e (zrm 3 0 0 64) s m args below meth c H locs 0 0 (MQ below (z_Qi D cA bs r σ) args s 0 0 (fun q => bs ≤ q)) (F0 m 4 ls [])) (hr1 : ∀ x, o1 = .inr x → x = r) : W p l e (zrm 3 0 0 64) s m args below meth c H locs 0 0 (MQ below (z_Qi D cA bs r σ) args s 0 0 (fun q => bs ≤ q)) (F0 m 4 ls []) := by
  have hx := B.1
  have hb := B.2.1
  have hown := B.2.2.2.1
  have hts := B.2.2.2.2.1
  unfold b_X10_inRing_4 at hf
  refine lv_iload_n hx hb dX10_inRing_4 rfl (lv_at hl 2 rfl) ?_
  refine lv_bipush (v := (32 : Int32)) hx hb dX10_inRing_5 (by decide) ?_
  refine lv_icmp_ge (tgt := 32) hx hb dX10_inRing_7 (by decide) (fun hc7 => ?_) (fun hc7 => ?_)
  · replace hf := z_ip hc7 hf
    obtain ⟨w1, hf, ho1⟩ := z_x hf
    obtain rfl := hr1 _ ho1
    refine lv_iload_n hx hb dX10_inRing_32 rfl (lv_at hl 1 rfl) ?_
    obtain rfl := z_e1 hf
    exact z_ri B hW dX10_inRing_33 (Nat.le_of_ble_eq_true rfl) (Nat.le_of_ble_eq_true rfl)
  · replace hf := z_in hc7 hf
    refine lv_iload_n hx hb dX10_inRing_10 rfl (lv_at hl 1 rfl) ?_
    refine lv_aload_n hx hb dX10_inRing_11 rfl (lv_at hl 0 rfl) ?_
    refine lv_iload_n hx hb dX10_inRing_12 rfl (lv_at hl 2 rfl) ?_
    obtain ⟨hg2, hf⟩ := z_g hf
    obtain ⟨r4, hq3, hf⟩ := z_b hf
    refine z_ci hW (z_runV (As := [.int l2]) (rest := [.int l1]) B hW zv_X10_83 (K_X10_isInRing hq3) hg2 rfl rfl rfl (Nat.le_of_ble_eq_true rfl) hl.1 ⟨Nat.le_of_ble_eq_true rfl, Nat.le_of_ble_eq_true rfl⟩ dX10_inRing_13 ⟨Nat.le_of_ble_eq_true rfl, Nat.le_of_ble_eq_true rfl⟩) (fun H locs hW => ?_)
    refine lv_if_eq (tgt := 23) hx hb dX10_inRing_16 (by decide) (fun hc16 => ?_) (fun hc16 => ?_)
    · replace hf := z_ip hc16 hf
      refine lv_iconst (v := (0 : Int32)) hx hb dX10_inRing_23 (by decide) ?_
      exact t_X10_inRing_24 B hf hW (lv_sub hl [0, 2] rfl) hk1 hr1
    · replace hf := z_in hc16 hf
      refine lv_iconst (v := (1 : Int32)) hx hb dX10_inRing_19 (by decide) ?_
      refine lv_goto (tgt := 24) hx hb dX10_inRing_20 (by decide) ?_
      exact t_X10_inRing_24 B hf hW (lv_sub hl [0, 2] rfl) hk1 hr1
set_option maxRecDepth 20000 in
set_option maxHeartbeats 4000000 in
theorem t_X10_inRing_4 (B : z_B p s m args meth c D cA bs RX10 cX10_inRing 3 (some .int)) {r : Int32} {σ : zSt} {l0 : Nat}  : ∀ (n : Nat) {l1 : Int32} {l2 : Int32}, zloop (fun (t : Int32 × Int32) => b_X10_inRing_4 σ l0 t.1 t.2) n (l1, l2) = some r → ∀ {H : Heap} {locs : List Loc} {ls : Array Slot}, z_Ok D cA bs s σ H locs → lv_has ls 3 [(0, .ref l0), (1, .int l1), (2, .int l2)] → W p l e (zrm 3 0 0 64) s m args below meth c H locs 0 0 (MQ below (z_Qi D cA bs r σ) args s 0 0 (fun q => bs ≤ q)) (F0 m 4 ls []) := by
  intro n
  induction n with
  | zero => intro l1 l2 hf; cases hf
  | succ n ih =>
    intro l1 l2 hf H locs ls hW hl
    obtain ⟨o1, hb1, hf⟩ := z_lp hf
    refine tb_X10_inRing_4 B hb1 hW hl  (fun l1 l2 he H locs ls hW hl => ?_) (fun x he => ?_)
    · rcases hf with ⟨t, ht, hf⟩ | hf
      · rw [he] at ht
        cases ht
        exact ih hf hW hl
      · rw [he] at hf
        cases hf
    · rcases hf with ⟨t, ht, hf⟩ | hf
      · rw [he] at ht
        cases ht
      · rw [he] at hf
        exact Sum.inr.inj hf
set_option maxRecDepth 100000 in
def f_X10_inRing (σ : zSt) (l0 : Nat) : Option (Int32) :=
(f_X10_inRing_4 σ l0 (0 : Int32) (0 : Int32))
set_option maxRecDepth 20000 in
set_option maxHeartbeats 4000000 in
theorem K_X10_inRing {σ : zSt} {l0 : Nat} {r : Int32} (hf : f_X10_inRing σ l0 = some r) : z_M l D cA bs yX10_inRing cX10_inRing 3 (some .int) 3 64 0 0 [.ref l0] σ (z_Qi D cA bs r σ) := by
  refine z_met (own := RX10) (lv := [(0, .ref l0)]) (by decide) rfl (Nat.le_of_ble_eq_true rfl) rfl (fun p e s m below meth c ls B hnm hW hl => ?_)
  have hx := B.1
  have hb := B.2.1
  have hown := B.2.2.2.1
  have hts := B.2.2.2.2.1
  unfold f_X10_inRing at hf
  refine lv_iconst (v := (0 : Int32)) hx hb dX10_inRing_0 (by decide) ?_
  refine lv_istore_n (lv' := [(1, .int (0 : Int32)), (0, .ref l0)]) hx hb dX10_inRing_1 rfl hl (by decide) rfl (fun ls hl => ?_)
  refine lv_iconst (v := (0 : Int32)) hx hb dX10_inRing_2 (by decide) ?_
  refine lv_istore_n (lv' := [(2, .int (0 : Int32)), (1, .int (0 : Int32)), (0, .ref l0)]) hx hb dX10_inRing_3 rfl hl (by decide) rfl (fun ls hl => ?_)
  unfold f_X10_inRing_4 at hf
  exact t_X10_inRing_4 B  zN hf hW (lv_sub hl [2, 1, 0] rfl)
set_option maxRecDepth 100000 in
def f_X10_settingOf (σ : zSt) (l0 : Nat) (l1 : Int32) : Option (Int32) :=
(if l1 = (3 : Int32) then
(if z_ob σ l0 9 then (zb (f_X10_stations σ l0) (fun r3 => (some r3))) else none)
else
(if l1 = (4 : Int32) then
(if z_ob σ l0 9 then (zb (f_X10_inRing σ l0) (fun r6 => (some r6))) else none)
else
(if l1 = (5 : Int32) then
(if z_ob σ l0 9 then (zc (z_R σ l0 0) none (fun q8 => (if z_ar σ q8 0 then (if z_ix (6 : Int32) (z_ln σ q8) then (some (z_I σ q8 (6 : Int32).toNatClampNeg)) else none) else none))) else none)
else
(if l1 = (6 : Int32) then
(if z_ob σ l0 9 then (zc (z_R σ l0 0) none (fun q13 => (if z_ar σ q13 0 then (if z_ix (3 : Int32) (z_ln σ q13) then (some (z_I σ q13 (3 : Int32).toNatClampNeg)) else none) else none))) else none)
else
(if l1 = (7 : Int32) then
(if z_ob σ l0 9 then (zc (z_R σ l0 0) none (fun q18 => (if z_ar σ q18 0 then (if z_ix (4 : Int32) (z_ln σ q18) then (some (z_I σ q18 (4 : Int32).toNatClampNeg)) else none) else none))) else none)
else
(if l1 = (8 : Int32) then
(if z_ob σ l0 9 then (zc (z_R σ l0 0) none (fun q23 => (if z_ar σ q23 0 then (if z_ix (5 : Int32) (z_ln σ q23) then (some (z_I σ q23 (5 : Int32).toNatClampNeg)) else none) else none))) else none)
else
(if z_ob σ l0 9 then (zc (z_R σ l0 0) none (fun q28 => (if z_ar σ q28 0 then (if z_ix l1 (z_ln σ q28) then (some (z_I σ q28 l1.toNatClampNeg)) else none) else none))) else none)))))))
set_option maxRecDepth 20000 in
set_option maxHeartbeats 4000000 in
theorem K_X10_settingOf {σ : zSt} {l0 : Nat} {l1 : Int32} {r : Int32} (hf : f_X10_settingOf σ l0 l1 = some r) : z_M l D cA bs yX10_settingOf cX10_settingOf 2 (some .int) 4 86 0 0 [.ref l0, .int l1] σ (z_Qi D cA bs r σ) := by
  refine z_met (own := RX10) (lv := [(0, .ref l0), (1, .int l1)]) (by decide) rfl (Nat.le_of_ble_eq_true rfl) rfl (fun p e s m below meth c ls B hnm hW hl => ?_)
  have hx := B.1
  have hb := B.2.1
  have hown := B.2.2.2.1
  have hts := B.2.2.2.2.1
  unfold f_X10_settingOf at hf
  refine lv_iload_n hx hb dX10_settingOf_0 rfl (lv_at hl 1 rfl) ?_
  by_cases hw3 : l1 = (3 : Int32)
  · replace hf := z_ip hw3 hf
    refine lv_tableIn (tgt := 40) (off := 39) hx hb dX10_settingOf_1 (by rw [hw3]; decide) (by rw [hw3]; decide) (by rw [hw3]; decide) (by decide) ?_
    refine lv_aload_n hx hb dX10_settingOf_40 rfl (lv_at hl 0 rfl) ?_
    obtain ⟨hg1, hf⟩ := z_g hf
    obtain ⟨r3, hq2, hf⟩ := z_b hf
    refine z_ci hW (z_runV (As := []) (rest := []) B hW zv_X10_49 (K_X10_stations hq2) hg1 rfl rfl rfl (Nat.le_of_ble_eq_true rfl) hl.1 ⟨Nat.le_of_ble_eq_true rfl, Nat.le_of_ble_eq_true rfl⟩ dX10_settingOf_41 ⟨Nat.le_of_ble_eq_true rfl, Nat.le_of_ble_eq_true rfl⟩) (fun H locs hW => ?_)
    obtain rfl := z_e1 hf
    exact z_ri B hW dX10_settingOf_44 (Nat.le_of_ble_eq_true rfl) (Nat.le_of_ble_eq_true rfl)
  replace hf := z_in hw3 hf
  by_cases hw4 : l1 = (4 : Int32)
  · replace hf := z_ip hw4 hf
    refine lv_tableIn (tgt := 45) (off := 44) hx hb dX10_settingOf_1 (by rw [hw4]; decide) (by rw [hw4]; decide) (by rw [hw4]; decide) (by decide) ?_
    refine lv_aload_n hx hb dX10_settingOf_45 rfl (lv_at hl 0 rfl) ?_
    obtain ⟨hg4, hf⟩ := z_g hf
    obtain ⟨r6, hq5, hf⟩ := z_b hf
    refine z_ci hW (z_runV (As := []) (rest := []) B hW zv_X10_122 (K_X10_inRing hq5) hg4 rfl rfl rfl (Nat.le_of_ble_eq_true rfl) hl.1 ⟨Nat.le_of_ble_eq_true rfl, Nat.le_of_ble_eq_true rfl⟩ dX10_settingOf_46 ⟨Nat.le_of_ble_eq_true rfl, Nat.le_of_ble_eq_true rfl⟩) (fun H locs hW => ?_)
    obtain rfl := z_e1 hf
    exact z_ri B hW dX10_settingOf_49 (Nat.le_of_ble_eq_true rfl) (Nat.le_of_ble_eq_true rfl)
  replace hf := z_in hw4 hf
  by_cases hw5 : l1 = (5 : Int32)
  · replace hf := z_ip hw5 hf
    refine lv_tableIn (tgt := 50) (off := 49) hx hb dX10_settingOf_1 (by rw [hw5]; decide) (by rw [hw5]; decide) (by rw [hw5]; decide) (by decide) ?_
    refine lv_aload_n hx hb dX10_settingOf_50 rfl (lv_at hl 0 rfl) ?_
    obtain ⟨hg7, hf⟩ := z_g hf
    obtain ⟨q8, hv9, hf⟩ := z_nn hf
    refine z_getN B hW (Or.inr zf_X10_7) rfl hg7 hv9 dX10_settingOf_51 ?_
    refine lv_bipush (v := (6 : Int32)) hx hb dX10_settingOf_54 (by decide) ?_
    obtain ⟨hg10, hf⟩ := z_g hf
    obtain ⟨hg11, hf⟩ := z_g hf
    refine z_ald B hW hg10 hg11 dX10_settingOf_56 ?_
    obtain rfl := z_e1 hf
    exact z_ri B hW dX10_settingOf_57 (Nat.le_of_ble_eq_true rfl) (Nat.le_of_ble_eq_true rfl)
  replace hf := z_in hw5 hf
  by_cases hw6 : l1 = (6 : Int32)
  · replace hf := z_ip hw6 hf
    refine lv_tableIn (tgt := 58) (off := 57) hx hb dX10_settingOf_1 (by rw [hw6]; decide) (by rw [hw6]; decide) (by rw [hw6]; decide) (by decide) ?_
    refine lv_aload_n hx hb dX10_settingOf_58 rfl (lv_at hl 0 rfl) ?_
    obtain ⟨hg12, hf⟩ := z_g hf
    obtain ⟨q13, hv14, hf⟩ := z_nn hf
    refine z_getN B hW (Or.inr zf_X10_7) rfl hg12 hv14 dX10_settingOf_59 ?_
    refine lv_iconst (v := (3 : Int32)) hx hb dX10_settingOf_62 (by decide) ?_
    obtain ⟨hg15, hf⟩ := z_g hf
    obtain ⟨hg16, hf⟩ := z_g hf
    refine z_ald B hW hg15 hg16 dX10_settingOf_63 ?_
    obtain rfl := z_e1 hf
    exact z_ri B hW dX10_settingOf_64 (Nat.le_of_ble_eq_true rfl) (Nat.le_of_ble_eq_true rfl)
  replace hf := z_in hw6 hf
  by_cases hw7 : l1 = (7 : Int32)
  · replace hf := z_ip hw7 hf
    refine lv_tableIn (tgt := 65) (off := 64) hx hb dX10_settingOf_1 (by rw [hw7]; decide) (by rw [hw7]; decide) (by rw [hw7]; decide) (by decide) ?_
    refine lv_aload_n hx hb dX10_settingOf_65 rfl (lv_at hl 0 rfl) ?_
    obtain ⟨hg17, hf⟩ := z_g hf
    obtain ⟨q18, hv19, hf⟩ := z_nn hf
    refine z_getN B hW (Or.inr zf_X10_7) rfl hg17 hv19 dX10_settingOf_66 ?_
    refine lv_iconst (v := (4 : Int32)) hx hb dX10_settingOf_69 (by decide) ?_
    obtain ⟨hg20, hf⟩ := z_g hf
    obtain ⟨hg21, hf⟩ := z_g hf
    refine z_ald B hW hg20 hg21 dX10_settingOf_70 ?_
    obtain rfl := z_e1 hf
    exact z_ri B hW dX10_settingOf_71 (Nat.le_of_ble_eq_true rfl) (Nat.le_of_ble_eq_true rfl)
  replace hf := z_in hw7 hf
  by_cases hw8 : l1 = (8 : Int32)
  · replace hf := z_ip hw8 hf
    refine lv_tableIn (tgt := 72) (off := 71) hx hb dX10_settingOf_1 (by rw [hw8]; decide) (by rw [hw8]; decide) (by rw [hw8]; decide) (by decide) ?_
    refine lv_aload_n hx hb dX10_settingOf_72 rfl (lv_at hl 0 rfl) ?_
    obtain ⟨hg22, hf⟩ := z_g hf
    obtain ⟨q23, hv24, hf⟩ := z_nn hf
    refine z_getN B hW (Or.inr zf_X10_7) rfl hg22 hv24 dX10_settingOf_73 ?_
    refine lv_iconst (v := (5 : Int32)) hx hb dX10_settingOf_76 (by decide) ?_
    obtain ⟨hg25, hf⟩ := z_g hf
    obtain ⟨hg26, hf⟩ := z_g hf
    refine z_ald B hW hg25 hg26 dX10_settingOf_77 ?_
    obtain rfl := z_e1 hf
    exact z_ri B hW dX10_settingOf_78 (Nat.le_of_ble_eq_true rfl) (Nat.le_of_ble_eq_true rfl)
  replace hf := z_in hw8 hf
  refine lv_tableOut (tgt := 79) hx hb dX10_settingOf_1 (z_tout (fun k h1 h2 => by rcases (by omega : k = 3 ∨ k = 4 ∨ k = 5 ∨ k = 6 ∨ k = 7 ∨ k = 8) with rfl | rfl | rfl | rfl | rfl | rfl <;> assumption)) (by decide) ?_
  refine lv_aload_n hx hb dX10_settingOf_79 rfl (lv_at hl 0 rfl) ?_
  obtain ⟨hg27, hf⟩ := z_g hf
  obtain ⟨q28, hv29, hf⟩ := z_nn hf
  refine z_getN B hW (Or.inr zf_X10_7) rfl hg27 hv29 dX10_settingOf_80 ?_
  refine lv_iload_n hx hb dX10_settingOf_83 rfl (lv_at hl 1 rfl) ?_
  obtain ⟨hg30, hf⟩ := z_g hf
  obtain ⟨hg31, hf⟩ := z_g hf
  refine z_ald B hW hg30 hg31 dX10_settingOf_84 ?_
  obtain rfl := z_e1 hf
  exact z_ri B hW dX10_settingOf_85 (Nat.le_of_ble_eq_true rfl) (Nat.le_of_ble_eq_true rfl)
set_option maxRecDepth 100000 in
def f_X10_setting_27 (σ : zSt) (s0 : Int32) : Option (Int32 × zSt) :=
(some (s0, σ))
set_option maxRecDepth 20000 in
set_option maxHeartbeats 4000000 in
theorem t_X10_setting_27 (B : z_B p s m args meth c D cA bs RX10 cX10_setting 2 (some .int)) {r : Int32} {σ' : zSt} {σ : zSt} {s0 : Int32} (hf : f_X10_setting_27 σ s0 = some (r, σ')) {H : Heap} {locs : List Loc} {ls : Array Slot} (hW : z_Ok D cA bs s σ H locs) (hl : lv_has ls 2 [])  : W p l e (zrm 5 0 0 107) s m args below meth c H locs 0 0 (MQ below (z_Qi D cA bs r σ') args s 0 0 (fun q => bs ≤ q)) (F0 m 27 ls [.int s0]) := by
  have hx := B.1
  have hb := B.2.1
  have hown := B.2.2.2.1
  have hts := B.2.2.2.2.1
  unfold f_X10_setting_27 at hf
  obtain ⟨rfl, rfl⟩ := z_e2 hf
  exact z_ri B hW dX10_setting_27 (Nat.le_of_ble_eq_true rfl) (Nat.le_of_ble_eq_true rfl)
set_option maxRecDepth 100000 in
def f_X10_setting (σ : zSt) (l0 : Nat) (l1 : Int32) : Option (Int32 × zSt) :=
(zb (f_X10_in σ l1.toInt64 (0 : Int64) (8 : Int64)) (fun r2 => (if z_ob σ l0 9 then (zb2 (f_X10_goes σ l0 r2 (1 : Int32) (1 : Int32)) (fun r5 σ6 => (if r5 = 0 then
(f_X10_setting_27 σ6 (0 : Int32))
else
(if z_ob σ6 l0 9 then (zb (f_X10_settingOf σ6 l0 l1) (fun r9 => (f_X10_setting_27 σ6 r9))) else none)))) else none)))
set_option maxRecDepth 20000 in
set_option maxHeartbeats 4000000 in
theorem K_X10_setting {σ : zSt} {l0 : Nat} {l1 : Int32} {r : Int32} {σ' : zSt} (hf : f_X10_setting σ l0 l1 = some (r, σ')) : z_M l D cA bs yX10_setting cX10_setting 2 (some .int) 5 107 0 0 [.ref l0, .int l1] σ (z_Qi D cA bs r σ') := by
  refine z_met (own := RX10) (lv := [(0, .ref l0), (1, .int l1)]) (by decide) rfl (Nat.le_of_ble_eq_true rfl) rfl (fun p e s m below meth c ls B hnm hW hl => ?_)
  have hx := B.1
  have hb := B.2.1
  have hown := B.2.2.2.1
  have hts := B.2.2.2.2.1
  unfold f_X10_setting at hf
  refine lv_aload_n hx hb dX10_setting_0 rfl (lv_at hl 0 rfl) ?_
  refine lv_iload_n hx hb dX10_setting_1 rfl (lv_at hl 1 rfl) ?_
  refine lv_i2l (v := l1.toInt64) hx hb dX10_setting_2 rfl ?_
  refine lv_lconst (v := (0 : Int64)) hx hb dX10_setting_3 (by decide) ?_
  refine lv_ldc2 hx hb hown (hts _ zk_X10_125) dX10_setting_4 ?_
  obtain ⟨r2, hq1, hf⟩ := z_b hf
  refine z_ci hW (z_runS (As := [.long l1.toInt64, .long (0 : Int64), .long (8 : Int64)]) (rest := [.ref l0]) B hW zv_X10_35 (K_X10_in hq1) rfl rfl (Nat.le_of_ble_eq_true rfl) hl.1 ⟨Nat.le_of_ble_eq_true rfl, Nat.le_of_ble_eq_true rfl⟩ dX10_setting_7 ⟨Nat.le_of_ble_eq_true rfl, Nat.le_of_ble_eq_true rfl⟩) (fun H locs hW => ?_)
  refine lv_iconst (v := (1 : Int32)) hx hb dX10_setting_10 (by decide) ?_
  refine lv_iconst (v := (1 : Int32)) hx hb dX10_setting_11 (by decide) ?_
  obtain ⟨hg3, hf⟩ := z_g hf
  obtain ⟨r5, σ6, hq4, hf⟩ := z_b2 hf
  refine z_ci hW (z_runV (As := [.int r2, .int (1 : Int32), .int (1 : Int32)]) (rest := []) B hW zv_X10_53 (K_X10_goes hq4) hg3 rfl rfl rfl (Nat.le_of_ble_eq_true rfl) hl.1 ⟨Nat.le_of_ble_eq_true rfl, Nat.le_of_ble_eq_true rfl⟩ dX10_setting_12 ⟨Nat.le_of_ble_eq_true rfl, Nat.le_of_ble_eq_true rfl⟩) (fun H locs hW => ?_)
  refine lv_if_eq (tgt := 26) hx hb dX10_setting_15 (by decide) (fun hc15 => ?_) (fun hc15 => ?_)
  · replace hf := z_ip hc15 hf
    refine lv_iconst (v := (0 : Int32)) hx hb dX10_setting_26 (by decide) ?_
    exact t_X10_setting_27 B hf hW (lv_sub hl [] rfl) 
  · replace hf := z_in hc15 hf
    refine lv_aload_n hx hb dX10_setting_18 rfl (lv_at hl 0 rfl) ?_
    refine lv_iload_n hx hb dX10_setting_19 rfl (lv_at hl 1 rfl) ?_
    obtain ⟨hg7, hf⟩ := z_g hf
    obtain ⟨r9, hq8, hf⟩ := z_b hf
    refine z_ci hW (z_runV (As := [.int l1]) (rest := []) B hW zv_X10_127 (K_X10_settingOf hq8) hg7 rfl rfl rfl (Nat.le_of_ble_eq_true rfl) hl.1 ⟨Nat.le_of_ble_eq_true rfl, Nat.le_of_ble_eq_true rfl⟩ dX10_setting_20 ⟨Nat.le_of_ble_eq_true rfl, Nat.le_of_ble_eq_true rfl⟩) (fun H locs hW => ?_)
    refine lv_goto (tgt := 27) hx hb dX10_setting_23 (by decide) ?_
    exact t_X10_setting_27 B hf hW (lv_sub hl [] rfl) 
end GEN
