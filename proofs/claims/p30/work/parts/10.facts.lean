theorem inX0 : ∀ w ∈ u_ws RX0 TX0 10, w ∈ zWS := z_ins [120, 122, 124, 126, 128, 130, 132, 134, 136, 138] (by decide +kernel) (by decide +kernel)
theorem inX1 : ∀ w ∈ u_ws RX1 TX1 2, w ∈ zWS := z_ins [258, 260] (by decide +kernel) (by decide +kernel)
theorem inX2 : ∀ w ∈ u_ws RX2 TX2 11, w ∈ zWS := z_ins [223, 225, 227, 229, 231, 233, 235, 237, 239, 241, 243] (by decide +kernel) (by decide +kernel)
theorem inX3 : ∀ w ∈ u_ws RX3 TX3 2, w ∈ zWS := z_ins [68, 70] (by decide +kernel) (by decide +kernel)
theorem inX4 : ∀ w ∈ u_ws RX4 TX4 3, w ∈ zWS := z_ins [84, 86, 88] (by decide +kernel) (by decide +kernel)
theorem inX6 : ∀ w ∈ u_ws RX6 TX6 9, w ∈ zWS := z_ins [176, 178, 180, 182, 184, 186, 188, 190, 192] (by decide +kernel) (by decide +kernel)
theorem inX7 : ∀ w ∈ u_ws RX7 TX7 2, w ∈ zWS := z_ins [60, 62] (by decide +kernel) (by decide +kernel)
theorem inX9 : ∀ w ∈ u_ws RX9 TX9 5, w ∈ zWS := z_ins [268, 270, 272, 274, 276] (by decide +kernel) (by decide +kernel)
theorem zoi_a : Cond.instanceMethod Lib.objectInit ∈ zWS := z_lw (i := 33) (by decide +kernel) (by decide +kernel)
theorem zoi_b : Cond.code Lib.objectInit ⟨#[0xb1]⟩ 1 none ∈ zWS := z_lw (i := 34) (by decide +kernel) (by decide +kernel)
theorem zoi_X0_1 : Cond.methodLink RX0 1 Lib.objectInit ∈ zWS := z_lw (i := 96) (by decide +kernel) (by decide +kernel)
theorem zf_X0_7 : z_F RX0 7 0 0 := ⟨RX0, TX0, rfl, by decide, z_lw (i := 97) (by decide +kernel) (by decide +kernel), inX0, rfl, tyX0_ok, nmX0, rfl⟩
theorem zf_X0_13 : z_F RX0 13 0 1 := ⟨RX0, TX0, rfl, by decide, z_lw (i := 100) (by decide +kernel) (by decide +kernel), inX0, rfl, tyX0_ok, nmX0, rfl⟩
theorem zf_X0_16 : z_F RX0 16 0 2 := ⟨RX0, TX0, rfl, by decide, z_lw (i := 102) (by decide +kernel) (by decide +kernel), inX0, rfl, tyX0_ok, nmX0, rfl⟩
theorem zf_X0_19 : z_F RX0 19 0 3 := ⟨RX0, TX0, rfl, by decide, z_lw (i := 104) (by decide +kernel) (by decide +kernel), inX0, rfl, tyX0_ok, nmX0, rfl⟩
theorem zf_X0_22 : z_F RX0 22 0 4 := ⟨RX0, TX0, rfl, by decide, z_lw (i := 106) (by decide +kernel) (by decide +kernel), inX0, rfl, tyX0_ok, nmX0, rfl⟩
theorem zf_X0_25 : z_F RX0 25 0 5 := ⟨RX0, TX0, rfl, by decide, z_lw (i := 108) (by decide +kernel) (by decide +kernel), inX0, rfl, tyX0_ok, nmX0, rfl⟩
theorem zf_X0_28 : z_F RX0 28 0 6 := ⟨RX0, TX0, rfl, by decide, z_lw (i := 110) (by decide +kernel) (by decide +kernel), inX0, rfl, tyX0_ok, nmX0, rfl⟩
theorem zf_X0_31 : z_F RX0 31 0 7 := ⟨RX0, TX0, rfl, by decide, z_lw (i := 112) (by decide +kernel) (by decide +kernel), inX0, rfl, tyX0_ok, nmX0, rfl⟩
theorem zf_X0_34 : z_F RX0 34 0 8 := ⟨RX0, TX0, rfl, by decide, z_lw (i := 116) (by decide +kernel) (by decide +kernel), inX0, rfl, tyX0_ok, nmX0, rfl⟩
theorem zf_X0_37 : z_F RX0 37 0 9 := ⟨RX0, TX0, rfl, by decide, z_lw (i := 118) (by decide +kernel) (by decide +kernel), inX0, rfl, tyX0_ok, nmX0, rfl⟩
theorem zmm_X0_41 : z_MM RX0 41 Lib.Math.max.name Lib.Math.max.code := ⟨z_lw (i := 496) (by decide +kernel) (by decide +kernel), z_lw (i := 56) (by decide +kernel) (by decide +kernel), z_lw (i := 13) (by decide +kernel) (by decide +kernel), z_lw (i := 57) (by decide +kernel) (by decide +kernel)⟩
theorem zoi_X7_3 : Cond.methodLink RX7 3 Lib.objectInit ∈ zWS := z_lw (i := 54) (by decide +kernel) (by decide +kernel)
theorem zf_X7_9 : z_FF RX7 9 7 0 := ⟨RX7, TX7, rfl, by decide, z_lw (i := 58) (by decide +kernel) (by decide +kernel), inX7, rfl, tyX7_ok, nmX7, rfl⟩
theorem zmm_X7_15 : z_MM RX7 15 Lib.Math.max.name Lib.Math.max.code := ⟨z_lw (i := 55) (by decide +kernel) (by decide +kernel), z_lw (i := 56) (by decide +kernel) (by decide +kernel), z_lw (i := 13) (by decide +kernel) (by decide +kernel), z_lw (i := 57) (by decide +kernel) (by decide +kernel)⟩
theorem zac_int : Cond.arrayClass (newarray.typeOf .int) ∈ zWS := z_lw (i := 65) (by decide +kernel) (by decide +kernel)
theorem zf_X7_21 : z_FF RX7 21 7 1 := ⟨RX7, TX7, rfl, by decide, z_lw (i := 59) (by decide +kernel) (by decide +kernel), inX7, rfl, tyX7_ok, nmX7, rfl⟩
theorem zoi_X3_3 : Cond.methodLink RX3 3 Lib.objectInit ∈ zWS := z_lw (i := 48) (by decide +kernel) (by decide +kernel)
theorem zw_X3_9 : z_NW RX3 9 7 := ⟨RX7, TX7, rfl, tyX7_ok, inX7, z_lw (i := 49) (by decide +kernel) (by decide +kernel), z_lw (i := 50) (by decide +kernel) (by decide +kernel), z_lw (i := 12) (by decide +kernel) (by decide +kernel), by decide +kernel⟩
theorem zv_X3_13 : z_II RX3 13 yX7_init cX7_init 3 2 := ⟨z_ins [51, 52, 12, 53] (by decide +kernel) (by decide +kernel), rfl, by decide +kernel, by decide +kernel, by decide +kernel⟩
theorem zf_X3_16 : z_FF RX3 16 3 0 := ⟨RX3, TX3, rfl, by decide, z_lw (i := 66) (by decide +kernel) (by decide +kernel), inX3, rfl, tyX3_ok, nmX3, rfl⟩
theorem zoi_X4_3 : Cond.methodLink RX4 3 Lib.objectInit ∈ zWS := z_lw (i := 78) (by decide +kernel) (by decide +kernel)
theorem zf_X4_9 : z_FF RX4 9 4 0 := ⟨RX4, TX4, rfl, by decide, z_lw (i := 79) (by decide +kernel) (by decide +kernel), inX4, rfl, tyX4_ok, nmX4, rfl⟩
theorem zf_X4_15 : z_FF RX4 15 4 1 := ⟨RX4, TX4, rfl, by decide, z_lw (i := 80) (by decide +kernel) (by decide +kernel), inX4, rfl, tyX4_ok, nmX4, rfl⟩
theorem zoi_X6_3 : Cond.methodLink RX6 3 Lib.objectInit ∈ zWS := z_lw (i := 147) (by decide +kernel) (by decide +kernel)
theorem zoi_X2_3 : Cond.methodLink RX2 3 Lib.objectInit ∈ zWS := z_lw (i := 40) (by decide +kernel) (by decide +kernel)
theorem zcl_X2_9 : Cond.classLink RX2 9 RX6 ∈ zWS := z_lw (i := 41) (by decide +kernel) (by decide +kernel)
theorem zf_X2_11 : z_FF RX2 11 2 0 := ⟨RX2, TX2, rfl, by decide, z_lw (i := 195) (by decide +kernel) (by decide +kernel), inX2, rfl, tyX2_ok, nmX2, rfl⟩
theorem zw_X2_17 : z_NW RX2 17 3 := ⟨RX3, TX3, rfl, tyX3_ok, inX3, z_lw (i := 43) (by decide +kernel) (by decide +kernel), z_lw (i := 44) (by decide +kernel) (by decide +kernel), z_lw (i := 11) (by decide +kernel) (by decide +kernel), by decide +kernel⟩
theorem zv_X2_19 : z_IN RX2 19 yX3_init "TokenBus" cX3_init 1 0 := ⟨by decide +kernel, z_ins [46, 11, 47] (by decide +kernel) (by decide +kernel), rfl, by decide +kernel, by decide +kernel, by decide +kernel⟩
theorem zf_X2_20 : z_FF RX2 20 2 1 := ⟨RX2, TX2, rfl, by decide, z_lw (i := 196) (by decide +kernel) (by decide +kernel), inX2, rfl, tyX2_ok, nmX2, rfl⟩
theorem zw_X2_24 : z_NW RX2 24 4 := ⟨RX4, TX4, rfl, tyX4_ok, inX4, z_lw (i := 73) (by decide +kernel) (by decide +kernel), z_lw (i := 74) (by decide +kernel) (by decide +kernel), z_lw (i := 14) (by decide +kernel) (by decide +kernel), by decide +kernel⟩
theorem zv_X2_26 : z_IN RX2 26 yX4_init "TokenBus" cX4_init 1 0 := ⟨by decide +kernel, z_ins [76, 14, 77] (by decide +kernel) (by decide +kernel), rfl, by decide +kernel, by decide +kernel, by decide +kernel⟩
theorem zf_X2_27 : z_FF RX2 27 2 2 := ⟨RX2, TX2, rfl, by decide, z_lw (i := 199) (by decide +kernel) (by decide +kernel), inX2, rfl, tyX2_ok, nmX2, rfl⟩
theorem zw_X2_31 : z_NW RX2 31 0 := ⟨RX0, TX0, rfl, tyX0_ok, inX0, z_lw (i := 91) (by decide +kernel) (by decide +kernel), z_lw (i := 92) (by decide +kernel) (by decide +kernel), z_lw (i := 15) (by decide +kernel) (by decide +kernel), by decide +kernel⟩
theorem zv_X2_33 : z_IN RX2 33 yX0_init "TokenBus" cX0_init 1 0 := ⟨by decide +kernel, z_ins [94, 15, 95] (by decide +kernel) (by decide +kernel), rfl, by decide +kernel, by decide +kernel, by decide +kernel⟩
theorem zf_X2_34 : z_FF RX2 34 2 3 := ⟨RX2, TX2, rfl, by decide, z_lw (i := 201) (by decide +kernel) (by decide +kernel), inX2, rfl, tyX2_ok, nmX2, rfl⟩
theorem zw_X2_38 : z_NW RX2 38 7 := ⟨RX7, TX7, rfl, tyX7_ok, inX7, z_lw (i := 141) (by decide +kernel) (by decide +kernel), z_lw (i := 50) (by decide +kernel) (by decide +kernel), z_lw (i := 12) (by decide +kernel) (by decide +kernel), by decide +kernel⟩
theorem zv_X2_40 : z_II RX2 40 yX7_init cX7_init 3 2 := ⟨z_ins [142, 52, 12, 53] (by decide +kernel) (by decide +kernel), rfl, by decide +kernel, by decide +kernel, by decide +kernel⟩
theorem zf_X2_43 : z_FF RX2 43 2 4 := ⟨RX2, TX2, rfl, by decide, z_lw (i := 204) (by decide +kernel) (by decide +kernel), inX2, rfl, tyX2_ok, nmX2, rfl⟩
theorem zf_X2_47 : z_F RX2 47 2 6 := ⟨RX2, TX2, rfl, by decide, z_lw (i := 208) (by decide +kernel) (by decide +kernel), inX2, rfl, tyX2_ok, nmX2, rfl⟩
theorem zf_X2_51 : z_F RX2 51 2 7 := ⟨RX2, TX2, rfl, by decide, z_lw (i := 211) (by decide +kernel) (by decide +kernel), inX2, rfl, tyX2_ok, nmX2, rfl⟩
theorem zf_X2_54 : z_F RX2 54 2 8 := ⟨RX2, TX2, rfl, by decide, z_lw (i := 214) (by decide +kernel) (by decide +kernel), inX2, rfl, tyX2_ok, nmX2, rfl⟩
theorem zf_X2_57 : z_F RX2 57 2 10 := ⟨RX2, TX2, rfl, by decide, z_lw (i := 220) (by decide +kernel) (by decide +kernel), inX2, rfl, tyX2_ok, nmX2, rfl⟩
theorem zw_X2_9 : z_NW RX2 9 6 := ⟨RX6, TX6, rfl, tyX6_ok, inX6, z_lw (i := 41) (by decide +kernel) (by decide +kernel), z_lw (i := 143) (by decide +kernel) (by decide +kernel), z_lw (i := 16) (by decide +kernel) (by decide +kernel), by decide +kernel⟩
theorem zv_X2_60 : z_IN RX2 60 yX6_init "TokenBus" cX6_init 1 0 := ⟨by decide +kernel, z_ins [145, 16, 146] (by decide +kernel) (by decide +kernel), rfl, by decide +kernel, by decide +kernel, by decide +kernel⟩
theorem zoi_X1_3 : Cond.methodLink RX1 3 Lib.objectInit ∈ zWS := z_lw (i := 251) (by decide +kernel) (by decide +kernel)
theorem zcl_X1_9 : Cond.classLink RX1 9 RX2 ∈ zWS := z_lw (i := 252) (by decide +kernel) (by decide +kernel)
theorem zf_X1_11 : z_FF RX1 11 1 0 := ⟨RX1, TX1, rfl, by decide, z_lw (i := 255) (by decide +kernel) (by decide +kernel), inX1, rfl, tyX1_ok, nmX1, rfl⟩
theorem zw_X1_9 : z_NW RX1 9 2 := ⟨RX2, TX2, rfl, tyX2_ok, inX2, z_lw (i := 252) (by decide +kernel) (by decide +kernel), z_lw (i := 36) (by decide +kernel) (by decide +kernel), z_lw (i := 10) (by decide +kernel) (by decide +kernel), by decide +kernel⟩
theorem zv_X1_17 : z_II RX1 17 yX2_init cX2_init 2 0 := ⟨z_ins [254, 38, 10, 39] (by decide +kernel) (by decide +kernel), rfl, by decide +kernel, by decide +kernel, by decide +kernel⟩
theorem zv_X1_25 : z_V RX1 25 RX1 yX1_stateAt cX1_stateAt 2 (some (.object "TokenBus$Line")) 1 := ⟨z_ins [384, 386, 2, 17, 387] (by decide +kernel) (by decide +kernel), rfl, by decide +kernel, by decide +kernel, by decide +kernel⟩
theorem zf_X1_18 : z_F RX1 18 1 1 := ⟨RX1, TX1, rfl, by decide, z_lw (i := 256) (by decide +kernel) (by decide +kernel), inX1, rfl, tyX1_ok, nmX1, rfl⟩
theorem zmm_X7_25 : z_MM RX7 25 Lib.Math.min.name Lib.Math.min.code := ⟨z_lw (i := 404) (by decide +kernel) (by decide +kernel), z_lw (i := 405) (by decide +kernel) (by decide +kernel), z_lw (i := 13) (by decide +kernel) (by decide +kernel), z_lw (i := 406) (by decide +kernel) (by decide +kernel)⟩
theorem zcp_X7_28 : z_CP RX7 28 := ⟨z_lw (i := 407) (by decide +kernel) (by decide +kernel), z_lw (i := 409) (by decide +kernel) (by decide +kernel), z_lw (i := 408) (by decide +kernel) (by decide +kernel), z_lw (i := 23) (by decide +kernel) (by decide +kernel)⟩
theorem zf_X3_20 : z_F RX3 20 3 1 := ⟨RX3, TX3, rfl, by decide, z_lw (i := 67) (by decide +kernel) (by decide +kernel), inX3, rfl, tyX3_ok, nmX3, rfl⟩
theorem zv_X3_32 : z_V RX3 32 RX7 yX7_copyFrom cX7_copyFrom 5 none 2 := ⟨z_ins [400, 401, 402, 12, 403] (by decide +kernel) (by decide +kernel), rfl, by decide +kernel, by decide +kernel, by decide +kernel⟩
theorem zf_X4_18 : z_F RX4 18 4 2 := ⟨RX4, TX4, rfl, by decide, z_lw (i := 81) (by decide +kernel) (by decide +kernel), inX4, rfl, tyX4_ok, nmX4, rfl⟩
theorem zf_X2_128 : z_F RX2 128 0 0 := ⟨RX0, TX0, rfl, by decide, z_lw (i := 99) (by decide +kernel) (by decide +kernel), inX0, rfl, tyX0_ok, nmX0, rfl⟩
theorem zmm_X2_135 : z_MM RX2 135 Lib.Math.min.name Lib.Math.min.code := ⟨z_lw (i := 422) (by decide +kernel) (by decide +kernel), z_lw (i := 405) (by decide +kernel) (by decide +kernel), z_lw (i := 13) (by decide +kernel) (by decide +kernel), z_lw (i := 406) (by decide +kernel) (by decide +kernel)⟩
theorem zf_X2_61 : z_F RX2 61 2 5 := ⟨RX2, TX2, rfl, by decide, z_lw (i := 207) (by decide +kernel) (by decide +kernel), inX2, rfl, tyX2_ok, nmX2, rfl⟩
theorem zf_X6_9 : z_F RX6 9 6 0 := ⟨RX6, TX6, rfl, by decide, z_lw (i := 148) (by decide +kernel) (by decide +kernel), inX6, rfl, tyX6_ok, nmX6, rfl⟩
theorem zf_X6_15 : z_F RX6 15 6 1 := ⟨RX6, TX6, rfl, by decide, z_lw (i := 153) (by decide +kernel) (by decide +kernel), inX6, rfl, tyX6_ok, nmX6, rfl⟩
theorem zf_X6_19 : z_F RX6 19 6 2 := ⟨RX6, TX6, rfl, by decide, z_lw (i := 157) (by decide +kernel) (by decide +kernel), inX6, rfl, tyX6_ok, nmX6, rfl⟩
theorem zf_X6_22 : z_F RX6 22 6 3 := ⟨RX6, TX6, rfl, by decide, z_lw (i := 160) (by decide +kernel) (by decide +kernel), inX6, rfl, tyX6_ok, nmX6, rfl⟩
theorem zf_X6_25 : z_F RX6 25 6 4 := ⟨RX6, TX6, rfl, by decide, z_lw (i := 162) (by decide +kernel) (by decide +kernel), inX6, rfl, tyX6_ok, nmX6, rfl⟩
theorem zf_X6_28 : z_F RX6 28 6 5 := ⟨RX6, TX6, rfl, by decide, z_lw (i := 164) (by decide +kernel) (by decide +kernel), inX6, rfl, tyX6_ok, nmX6, rfl⟩
theorem zf_X6_31 : z_F RX6 31 6 6 := ⟨RX6, TX6, rfl, by decide, z_lw (i := 168) (by decide +kernel) (by decide +kernel), inX6, rfl, tyX6_ok, nmX6, rfl⟩
theorem zf_X6_34 : z_F RX6 34 6 7 := ⟨RX6, TX6, rfl, by decide, z_lw (i := 172) (by decide +kernel) (by decide +kernel), inX6, rfl, tyX6_ok, nmX6, rfl⟩
theorem zf_X6_37 : z_F RX6 37 6 8 := ⟨RX6, TX6, rfl, by decide, z_lw (i := 174) (by decide +kernel) (by decide +kernel), inX6, rfl, tyX6_ok, nmX6, rfl⟩
theorem zv_X2_96 : z_V RX2 96 RX2 yX2_stationIn cX2_stationIn 2 (some (.object "TokenBus$Station")) 1 := ⟨z_ins [428, 429, 430, 10, 431] (by decide +kernel) (by decide +kernel), rfl, by decide +kernel, by decide +kernel, by decide +kernel⟩
theorem zv_X2_100 : z_V RX2 100 RX6 yX6_copyFrom cX6_copyFrom 2 none 1 := ⟨z_ins [432, 433, 434, 16, 435] (by decide +kernel) (by decide +kernel), rfl, by decide +kernel, by decide +kernel, by decide +kernel⟩
theorem zv_X2_72 : z_V RX2 72 RX2 yX2_takeTimes cX2_takeTimes 2 none 1 := ⟨z_ins [392, 393, 394, 10, 395] (by decide +kernel) (by decide +kernel), rfl, by decide +kernel, by decide +kernel, by decide +kernel⟩
theorem zf_X2_69 : z_F RX2 69 2 9 := ⟨RX2, TX2, rfl, by decide, z_lw (i := 218) (by decide +kernel) (by decide +kernel), inX2, rfl, tyX2_ok, nmX2, rfl⟩
theorem zv_X2_76 : z_V RX2 76 RX3 yX3_copyFrom cX3_copyFrom 2 none 1 := ⟨z_ins [396, 397, 398, 11, 399] (by decide +kernel) (by decide +kernel), rfl, by decide +kernel, by decide +kernel, by decide +kernel⟩
theorem zv_X2_80 : z_V RX2 80 RX4 yX4_copyFrom cX4_copyFrom 3 none 1 := ⟨z_ins [410, 411, 412, 14, 413] (by decide +kernel) (by decide +kernel), rfl, by decide +kernel, by decide +kernel, by decide +kernel⟩
theorem zv_X2_83 : z_V RX2 83 RX0 yX0_copyFrom cX0_copyFrom 2 none 1 := ⟨z_ins [414, 415, 416, 15, 417] (by decide +kernel) (by decide +kernel), rfl, by decide +kernel, by decide +kernel, by decide +kernel⟩
theorem zv_X2_86 : z_V RX2 86 RX2 yX2_logLength cX2_logLength 1 (some .int) 0 := ⟨z_ins [418, 419, 420, 10, 421] (by decide +kernel) (by decide +kernel), rfl, by decide +kernel, by decide +kernel, by decide +kernel⟩
theorem zv_X2_90 : z_V RX2 90 RX7 yX7_copyFrom cX7_copyFrom 5 none 2 := ⟨z_ins [423, 401, 402, 12, 403] (by decide +kernel) (by decide +kernel), rfl, by decide +kernel, by decide +kernel, by decide +kernel⟩
theorem zv_X2_93 : z_V RX2 93 RX2 yX2_copyStations cX2_copyStations 5 none 1 := ⟨z_ins [424, 426, 3, 10, 427] (by decide +kernel) (by decide +kernel), rfl, by decide +kernel, by decide +kernel, by decide +kernel⟩
theorem zv_X1_29 : z_V RX1 29 RX2 yX2_copyFrom cX2_copyFrom 2 none 1 := ⟨z_ins [388, 389, 390, 10, 391] (by decide +kernel) (by decide +kernel), rfl, by decide +kernel, by decide +kernel, by decide +kernel⟩
theorem zv_X1_22 : z_V RX1 22 RX1 yX1_dropOldest cX1_dropOldest 3 none 0 := ⟨z_ins [380, 382, 1, 17, 383] (by decide +kernel) (by decide +kernel), rfl, by decide +kernel, by decide +kernel, by decide +kernel⟩
theorem zk_X2_103 : Cond.constant RX2 103 (900000 : Int32) ∈ zWS := z_lw (i := 359) (by decide +kernel) (by decide +kernel)
theorem zf_X2_104 : z_F RX2 104 6 0 := ⟨RX6, TX6, rfl, by decide, z_lw (i := 150) (by decide +kernel) (by decide +kernel), inX6, rfl, tyX6_ok, nmX6, rfl⟩
theorem zv_X2_107 : z_V RX2 107 RX6 yX6_reset cX6_reset 2 none 1 := ⟨z_ins [668, 669, 670, 16, 671] (by decide +kernel) (by decide +kernel), rfl, by decide +kernel, by decide +kernel, by decide +kernel⟩
theorem zf_X2_111 : z_F RX2 111 6 1 := ⟨RX6, TX6, rfl, by decide, z_lw (i := 156) (by decide +kernel) (by decide +kernel), inX6, rfl, tyX6_ok, nmX6, rfl⟩
theorem zf_X2_115 : z_F RX2 115 6 2 := ⟨RX6, TX6, rfl, by decide, z_lw (i := 159) (by decide +kernel) (by decide +kernel), inX6, rfl, tyX6_ok, nmX6, rfl⟩
theorem zf_X2_118 : z_F RX2 118 6 6 := ⟨RX6, TX6, rfl, by decide, z_lw (i := 171) (by decide +kernel) (by decide +kernel), inX6, rfl, tyX6_ok, nmX6, rfl⟩
theorem zv_X2_121 : z_V RX2 121 RX4 yX4_touch cX4_touch 4 (some .boolean) 2 := ⟨z_ins [480, 481, 482, 14, 483] (by decide +kernel) (by decide +kernel), rfl, by decide +kernel, by decide +kernel, by decide +kernel⟩
theorem zf_X2_125 : z_F RX2 125 0 2 := ⟨RX0, TX0, rfl, by decide, z_lw (i := 103) (by decide +kernel) (by decide +kernel), inX0, rfl, tyX0_ok, nmX0, rfl⟩
theorem zv_X2_131 : z_V RX2 131 RX7 yX7_put cX7_put 5 none 3 := ⟨z_ins [522, 489, 490, 12, 491] (by decide +kernel) (by decide +kernel), rfl, by decide +kernel, by decide +kernel, by decide +kernel⟩
theorem zv_X2_141 : z_V RX2 141 RX7 yX7_at cX7_at 4 (some .int) 2 := ⟨z_ins [638, 466, 467, 12, 468] (by decide +kernel) (by decide +kernel), rfl, by decide +kernel, by decide +kernel, by decide +kernel⟩
theorem zv_X2_144 : z_V RX2 144 RX2 yX2_ringSize cX2_ringSize 4 (some .int) 0 := ⟨z_ins [532, 533, 534, 10, 535] (by decide +kernel) (by decide +kernel), rfl, by decide +kernel, by decide +kernel, by decide +kernel⟩
theorem zf_X2_147 : z_F RX2 147 4 2 := ⟨RX4, TX4, rfl, by decide, z_lw (i := 83) (by decide +kernel) (by decide +kernel), inX4, rfl, tyX4_ok, nmX4, rfl⟩
theorem zv_X2_150 : z_V RX2 150 RX3 yX3_number cX3_number 1 (some .int) 0 := ⟨z_ins [536, 537, 538, 11, 539] (by decide +kernel) (by decide +kernel), rfl, by decide +kernel, by decide +kernel, by decide +kernel⟩
theorem zk_X9_282 : Cond.constantLong RX9 282 (31 : Int64) ∈ zWS := z_lw (i := 606) (by decide +kernel) (by decide +kernel)
theorem zv_X3_24 : z_V RX3 24 RX7 yX7_at cX7_at 4 (some .int) 2 := ⟨z_ins [465, 466, 467, 12, 468] (by decide +kernel) (by decide +kernel), rfl, by decide +kernel, by decide +kernel, by decide +kernel⟩
theorem zv_X2_156 : z_SN RX2 156 yX9_mixed "TokenBus" cX9_mixed 4 (some .long) 2 := ⟨by decide +kernel, z_ins [604, 9, 605] (by decide +kernel) (by decide +kernel), by decide +kernel, by decide +kernel, by decide +kernel⟩
theorem zf_X2_177 : z_F RX2 177 6 5 := ⟨RX6, TX6, rfl, by decide, z_lw (i := 167) (by decide +kernel) (by decide +kernel), inX6, rfl, tyX6_ok, nmX6, rfl⟩
theorem zv_X2_180 : z_V RX2 180 RX3 yX3_follower cX3_follower 2 (some .int) 1 := ⟨z_ins [621, 622, 623, 11, 624] (by decide +kernel) (by decide +kernel), rfl, by decide +kernel, by decide +kernel, by decide +kernel⟩
theorem zv_X2_176 : z_V RX2 176 RX6 yX6_value cX6_value 2 (some .int) 1 := ⟨z_ins [617, 618, 619, 16, 620] (by decide +kernel) (by decide +kernel), rfl, by decide +kernel, by decide +kernel, by decide +kernel⟩
theorem zv_X2_183 : z_V RX2 183 RX2 yX2_logValue cX2_logValue 4 (some .int) 2 := ⟨z_ins [634, 635, 636, 10, 637] (by decide +kernel) (by decide +kernel), rfl, by decide +kernel, by decide +kernel, by decide +kernel⟩
theorem zf_X2_169 : z_F RX2 169 0 7 := ⟨RX0, TX0, rfl, by decide, z_lw (i := 115) (by decide +kernel) (by decide +kernel), inX0, rfl, tyX0_ok, nmX0, rfl⟩
theorem zv_X2_172 : z_V RX2 172 RX2 yX2_withLog cX2_withLog 8 (some .long) 1 := ⟨z_ins [630, 632, 6, 10, 633] (by decide +kernel) (by decide +kernel), rfl, by decide +kernel, by decide +kernel, by decide +kernel⟩
theorem zv_X2_167 : z_V RX2 167 RX0 yX0_value cX0_value 2 (some .int) 1 := ⟨z_ins [626, 627, 628, 15, 629] (by decide +kernel) (by decide +kernel), rfl, by decide +kernel, by decide +kernel, by decide +kernel⟩
theorem zv_X2_164 : z_V RX2 164 RX3 yX3_value cX3_value 3 (some .int) 2 := ⟨z_ins [625, 473, 474, 11, 475] (by decide +kernel) (by decide +kernel), rfl, by decide +kernel, by decide +kernel, by decide +kernel⟩
theorem zv_X2_160 : z_V RX2 160 RX2 yX2_withStation cX2_withStation 8 (some .long) 2 := ⟨z_ins [613, 615, 5, 10, 616] (by decide +kernel) (by decide +kernel), rfl, by decide +kernel, by decide +kernel, by decide +kernel⟩
theorem zv_X2_152 : z_V RX2 152 RX2 yX2_settingValue cX2_settingValue 2 (some .int) 1 := ⟨z_ins [611, 529, 530, 10, 531] (by decide +kernel) (by decide +kernel), rfl, by decide +kernel, by decide +kernel, by decide +kernel⟩
theorem zv_X3_28 : z_V RX3 28 RX3 yX3_has cX3_has 2 (some .boolean) 1 := ⟨z_ins [461, 462, 463, 11, 464] (by decide +kernel) (by decide +kernel), rfl, by decide +kernel, by decide +kernel, by decide +kernel⟩
theorem zf_X3_49 : z_F RX3 49 6 5 := ⟨RX6, TX6, rfl, by decide, z_lw (i := 166) (by decide +kernel) (by decide +kernel), inX6, rfl, tyX6_ok, nmX6, rfl⟩
theorem zf_X3_52 : z_F RX3 52 6 6 := ⟨RX6, TX6, rfl, by decide, z_lw (i := 170) (by decide +kernel) (by decide +kernel), inX6, rfl, tyX6_ok, nmX6, rfl⟩
theorem zv_X3_36 : z_V RX3 36 RX7 yX7_put cX7_put 5 none 3 := ⟨z_ins [488, 489, 490, 12, 491] (by decide +kernel) (by decide +kernel), rfl, by decide +kernel, by decide +kernel, by decide +kernel⟩
theorem zf_X3_40 : z_F RX3 40 6 0 := ⟨RX6, TX6, rfl, by decide, z_lw (i := 151) (by decide +kernel) (by decide +kernel), inX6, rfl, tyX6_ok, nmX6, rfl⟩
theorem zv_X3_45 : z_V RX3 45 RX3 yX3_enqueue cX3_enqueue 7 none 3 := ⟨z_ins [724, 726, 7, 11, 727] (by decide +kernel) (by decide +kernel), rfl, by decide +kernel, by decide +kernel, by decide +kernel⟩
theorem zf_X8_85 : z_F RX8 85 2 5 := ⟨RX2, TX2, rfl, by decide, z_lw (i := 206) (by decide +kernel) (by decide +kernel), inX2, rfl, tyX2_ok, nmX2, rfl⟩
theorem zv_X8_88 : z_V RX8 88 RX2 yX2_stationIn cX2_stationIn 2 (some (.object "TokenBus$Station")) 1 := ⟨z_ins [449, 429, 430, 10, 431] (by decide +kernel) (by decide +kernel), rfl, by decide +kernel, by decide +kernel, by decide +kernel⟩
theorem zf_X8_91 : z_F RX8 91 6 1 := ⟨RX6, TX6, rfl, by decide, z_lw (i := 155) (by decide +kernel) (by decide +kernel), inX6, rfl, tyX6_ok, nmX6, rfl⟩
theorem zf_X8_69 : z_F RX8 69 6 2 := ⟨RX6, TX6, rfl, by decide, z_lw (i := 158) (by decide +kernel) (by decide +kernel), inX6, rfl, tyX6_ok, nmX6, rfl⟩
theorem zv_X8_62 : z_SS RX8 62 yX8_lowest cX8_lowest 4 (some (.object "TokenBus$Station")) 2 := ⟨z_ins [446, 447, 26, 448] (by decide +kernel) (by decide +kernel), by decide +kernel, by decide +kernel, by decide +kernel⟩
theorem zf_X8_25 : z_F RX8 25 2 9 := ⟨RX2, TX2, rfl, by decide, z_lw (i := 217) (by decide +kernel) (by decide +kernel), inX2, rfl, tyX2_ok, nmX2, rfl⟩
theorem zf_X8_66 : z_F RX8 66 2 7 := ⟨RX2, TX2, rfl, by decide, z_lw (i := 212) (by decide +kernel) (by decide +kernel), inX2, rfl, tyX2_ok, nmX2, rfl⟩
theorem zf_X8_53 : z_F RX8 53 6 0 := ⟨RX6, TX6, rfl, by decide, z_lw (i := 149) (by decide +kernel) (by decide +kernel), inX6, rfl, tyX6_ok, nmX6, rfl⟩
theorem zf_X8_9 : z_F RX8 9 2 10 := ⟨RX2, TX2, rfl, by decide, z_lw (i := 221) (by decide +kernel) (by decide +kernel), inX2, rfl, tyX2_ok, nmX2, rfl⟩
theorem zf_X8_76 : z_FF RX8 76 2 3 := ⟨RX2, TX2, rfl, by decide, z_lw (i := 202) (by decide +kernel) (by decide +kernel), inX2, rfl, tyX2_ok, nmX2, rfl⟩
theorem zf_X8_80 : z_F RX8 80 0 3 := ⟨RX0, TX0, rfl, by decide, z_lw (i := 105) (by decide +kernel) (by decide +kernel), inX0, rfl, tyX0_ok, nmX0, rfl⟩
theorem zf_X8_73 : z_F RX8 73 6 3 := ⟨RX6, TX6, rfl, by decide, z_lw (i := 161) (by decide +kernel) (by decide +kernel), inX6, rfl, tyX6_ok, nmX6, rfl⟩
theorem zf_X8_94 : z_F RX8 94 6 8 := ⟨RX6, TX6, rfl, by decide, z_lw (i := 175) (by decide +kernel) (by decide +kernel), inX6, rfl, tyX6_ok, nmX6, rfl⟩
theorem zf_X8_97 : z_F RX8 97 6 7 := ⟨RX6, TX6, rfl, by decide, z_lw (i := 173) (by decide +kernel) (by decide +kernel), inX6, rfl, tyX6_ok, nmX6, rfl⟩
theorem zf_X8_100 : z_F RX8 100 0 0 := ⟨RX0, TX0, rfl, by decide, z_lw (i := 98) (by decide +kernel) (by decide +kernel), inX0, rfl, tyX0_ok, nmX0, rfl⟩
theorem zf_X8_101 : z_F RX8 101 0 7 := ⟨RX0, TX0, rfl, by decide, z_lw (i := 113) (by decide +kernel) (by decide +kernel), inX0, rfl, tyX0_ok, nmX0, rfl⟩
theorem zmm_X8_104 : z_MM RX8 104 Lib.Math.max.name Lib.Math.max.code := ⟨z_lw (i := 453) (by decide +kernel) (by decide +kernel), z_lw (i := 56) (by decide +kernel) (by decide +kernel), z_lw (i := 13) (by decide +kernel) (by decide +kernel), z_lw (i := 57) (by decide +kernel) (by decide +kernel)⟩
theorem zf_X8_110 : z_FF RX8 110 2 1 := ⟨RX2, TX2, rfl, by decide, z_lw (i := 198) (by decide +kernel) (by decide +kernel), inX2, rfl, tyX2_ok, nmX2, rfl⟩
theorem zf_X8_114 : z_F RX8 114 6 5 := ⟨RX6, TX6, rfl, by decide, z_lw (i := 165) (by decide +kernel) (by decide +kernel), inX6, rfl, tyX6_ok, nmX6, rfl⟩
theorem zv_X8_129 : z_V RX8 129 RX3 yX3_value cX3_value 3 (some .int) 2 := ⟨z_ins [472, 473, 474, 11, 475] (by decide +kernel) (by decide +kernel), rfl, by decide +kernel, by decide +kernel, by decide +kernel⟩
theorem zv_X8_132 : z_V RX8 132 RX2 yX2_transmit cX2_transmit 3 (some .boolean) 1 := ⟨z_ins [476, 477, 478, 10, 479] (by decide +kernel) (by decide +kernel), rfl, by decide +kernel, by decide +kernel, by decide +kernel⟩
theorem zv_X8_135 : z_V RX8 135 RX3 yX3_takeFirst cX3_takeFirst 5 (some .int) 2 := ⟨z_ins [484, 485, 486, 11, 487] (by decide +kernel) (by decide +kernel), rfl, by decide +kernel, by decide +kernel, by decide +kernel⟩
theorem zv_X8_139 : z_V RX8 139 RX0 yX0_addSent cX0_addSent 3 none 2 := ⟨z_ins [492, 493, 494, 15, 495] (by decide +kernel) (by decide +kernel), rfl, by decide +kernel, by decide +kernel, by decide +kernel⟩
theorem zv_X8_117 : z_V RX8 117 RX3 yX3_isUrgent cX3_isUrgent 2 (some .boolean) 1 := ⟨z_ins [457, 458, 459, 11, 460] (by decide +kernel) (by decide +kernel), rfl, by decide +kernel, by decide +kernel, by decide +kernel⟩
theorem zf_X8_123 : z_F RX8 123 6 6 := ⟨RX6, TX6, rfl, by decide, z_lw (i := 169) (by decide +kernel) (by decide +kernel), inX6, rfl, tyX6_ok, nmX6, rfl⟩
theorem zv_X8_126 : z_SS RX8 126 yX8_sendFirst cX8_sendFirst 4 (some .boolean) 2 := ⟨z_ins [469, 470, 26, 471] (by decide +kernel) (by decide +kernel), by decide +kernel, by decide +kernel, by decide +kernel⟩
theorem zf_X8_146 : z_F RX8 146 6 4 := ⟨RX6, TX6, rfl, by decide, z_lw (i := 163) (by decide +kernel) (by decide +kernel), inX6, rfl, tyX6_ok, nmX6, rfl⟩
theorem zf_X8_156 : z_F RX8 156 0 4 := ⟨RX0, TX0, rfl, by decide, z_lw (i := 107) (by decide +kernel) (by decide +kernel), inX0, rfl, tyX0_ok, nmX0, rfl⟩
theorem zv_X8_15 : z_V RX8 15 RX2 yX2_stationWith cX2_stationWith 4 (some (.object "TokenBus$Station")) 1 := ⟨z_ins [439, 440, 441, 10, 442] (by decide +kernel) (by decide +kernel), rfl, by decide +kernel, by decide +kernel, by decide +kernel⟩
theorem zf_X8_143 : z_F RX8 143 2 8 := ⟨RX2, TX2, rfl, by decide, z_lw (i := 216) (by decide +kernel) (by decide +kernel), inX2, rfl, tyX2_ok, nmX2, rfl⟩
theorem zv_X8_149 : z_SN RX8 149 yX9_addressBehind "TokenBus" cX9_addressBehind 1 (some .int) 1 := ⟨by decide +kernel, z_ins [501, 9, 502] (by decide +kernel) (by decide +kernel), by decide +kernel, by decide +kernel, by decide +kernel⟩
theorem zv_X8_153 : z_SS RX8 153 yX8_comesIn cX8_comesIn 3 (some .boolean) 2 := ⟨z_ins [503, 504, 26, 505] (by decide +kernel) (by decide +kernel), by decide +kernel, by decide +kernel, by decide +kernel⟩
theorem zv_X8_159 : z_SS RX8 159 yX8_reaches cX8_reaches 3 (some .boolean) 2 := ⟨z_ins [509, 510, 26, 511] (by decide +kernel) (by decide +kernel), by decide +kernel, by decide +kernel, by decide +kernel⟩
theorem zf_X8_163 : z_F RX8 163 0 5 := ⟨RX0, TX0, rfl, by decide, z_lw (i := 109) (by decide +kernel) (by decide +kernel), inX0, rfl, tyX0_ok, nmX0, rfl⟩
theorem zv_X8_19 : z_SS RX8 19 yX8_makeAnew cX8_makeAnew 2 (some (.object "TokenBus$Station")) 1 := ⟨z_ins [443, 444, 26, 445] (by decide +kernel) (by decide +kernel), by decide +kernel, by decide +kernel, by decide +kernel⟩
theorem zv_X8_28 : z_SS RX8 28 yX8_beginVisit cX8_beginVisit 3 (some .int) 2 := ⟨z_ins [450, 451, 26, 452] (by decide +kernel) (by decide +kernel), by decide +kernel, by decide +kernel, by decide +kernel⟩
theorem zf_X8_32 : z_F RX8 32 2 6 := ⟨RX2, TX2, rfl, by decide, z_lw (i := 209) (by decide +kernel) (by decide +kernel), inX2, rfl, tyX2_ok, nmX2, rfl⟩
theorem zv_X8_35 : z_SS RX8 35 yX8_sendMessages cX8_sendMessages 6 (some .int) 3 := ⟨z_ins [454, 455, 26, 456] (by decide +kernel) (by decide +kernel), by decide +kernel, by decide +kernel, by decide +kernel⟩
theorem zv_X8_39 : z_SS RX8 39 yX8_pollGap cX8_pollGap 5 none 2 := ⟨z_ins [497, 498, 26, 499] (by decide +kernel) (by decide +kernel), by decide +kernel, by decide +kernel, by decide +kernel⟩
theorem zv_X8_43 : z_SS RX8 43 yX8_passToNext cX8_passToNext 3 (some .boolean) 2 := ⟨z_ins [506, 507, 26, 508] (by decide +kernel) (by decide +kernel), by decide +kernel, by decide +kernel, by decide +kernel⟩
theorem zv_X8_58 : z_V RX8 58 RX2 yX2_logVisit cX2_logVisit 6 none 4 := ⟨z_ins [518, 519, 520, 10, 521] (by decide +kernel) (by decide +kernel), rfl, by decide +kernel, by decide +kernel, by decide +kernel⟩
theorem zv_X8_47 : z_SS RX8 47 yX8_dropSilent cX8_dropSilent 3 none 2 := ⟨z_ins [512, 513, 26, 514] (by decide +kernel) (by decide +kernel), by decide +kernel, by decide +kernel, by decide +kernel⟩
theorem zv_X8_50 : z_SS RX8 50 yX8_askOthers cX8_askOthers 4 none 2 := ⟨z_ins [515, 516, 26, 517] (by decide +kernel) (by decide +kernel), by decide +kernel, by decide +kernel, by decide +kernel⟩
theorem zoi_X9_1 : Cond.methodLink RX9 1 Lib.objectInit ∈ zWS := z_lw (i := 32) (by decide +kernel) (by decide +kernel)
theorem zw_X9_7 : z_NW RX9 7 2 := ⟨RX2, TX2, rfl, tyX2_ok, inX2, z_lw (i := 35) (by decide +kernel) (by decide +kernel), z_lw (i := 36) (by decide +kernel) (by decide +kernel), z_lw (i := 10) (by decide +kernel) (by decide +kernel), by decide +kernel⟩
theorem zv_X9_9 : z_II RX9 9 yX2_init cX2_init 2 0 := ⟨z_ins [37, 38, 10, 39] (by decide +kernel) (by decide +kernel), rfl, by decide +kernel, by decide +kernel, by decide +kernel⟩
theorem zf_X9_10 : z_FF RX9 10 8 0 := ⟨RX9, TX9, rfl, by decide, z_lw (i := 263) (by decide +kernel) (by decide +kernel), inX9, rfl, tyX9_ok, nmX9, rfl⟩
theorem zf_X9_16 : z_FF RX9 16 8 1 := ⟨RX9, TX9, rfl, by decide, z_lw (i := 264) (by decide +kernel) (by decide +kernel), inX9, rfl, tyX9_ok, nmX9, rfl⟩
theorem zw_X9_19 : z_NW RX9 19 1 := ⟨RX1, TX1, rfl, tyX1_ok, inX1, z_lw (i := 246) (by decide +kernel) (by decide +kernel), z_lw (i := 247) (by decide +kernel) (by decide +kernel), z_lw (i := 17) (by decide +kernel) (by decide +kernel), by decide +kernel⟩
theorem zv_X9_21 : z_II RX9 21 yX1_init cX1_init 2 0 := ⟨z_ins [248, 249, 17, 250] (by decide +kernel) (by decide +kernel), rfl, by decide +kernel, by decide +kernel, by decide +kernel⟩
theorem zf_X9_22 : z_FF RX9 22 8 2 := ⟨RX9, TX9, rfl, by decide, z_lw (i := 265) (by decide +kernel) (by decide +kernel), inX9, rfl, tyX9_ok, nmX9, rfl⟩
theorem zac_byte : Cond.arrayClass (newarray.typeOf .byte) ∈ zWS := z_lw (i := 279) (by decide +kernel) (by decide +kernel)
theorem zf_X9_26 : z_FF RX9 26 8 3 := ⟨RX9, TX9, rfl, by decide, z_lw (i := 266) (by decide +kernel) (by decide +kernel), inX9, rfl, tyX9_ok, nmX9, rfl⟩
theorem zv_X9_80 : z_SS RX9 80 yX9_isWithin cX9_isWithin 3 (some .boolean) 3 := ⟨z_ins [284, 285, 9, 286] (by decide +kernel) (by decide +kernel), by decide +kernel, by decide +kernel, by decide +kernel⟩
theorem zv_X9_30 : z_SS RX9 30 yX9_isAddress cX9_isAddress 1 (some .boolean) 1 := ⟨z_ins [654, 655, 9, 656] (by decide +kernel) (by decide +kernel), by decide +kernel, by decide +kernel, by decide +kernel⟩
theorem zv_X9_41 : z_V RX9 41 RX2 yX2_stationWith cX2_stationWith 4 (some (.object "TokenBus$Station")) 1 := ⟨z_ins [658, 440, 441, 10, 442] (by decide +kernel) (by decide +kernel), rfl, by decide +kernel, by decide +kernel, by decide +kernel⟩
theorem zv_X9_45 : z_V RX9 45 RX2 yX2_isFull cX2_isFull 1 (some .boolean) 0 := ⟨z_ins [659, 660, 661, 10, 662] (by decide +kernel) (by decide +kernel), rfl, by decide +kernel, by decide +kernel, by decide +kernel⟩
theorem zv_X9_54 : z_V RX9 54 RX1 yX1_save cX1_save 3 none 1 := ⟨z_ins [376, 377, 378, 17, 379] (by decide +kernel) (by decide +kernel), rfl, by decide +kernel, by decide +kernel, by decide +kernel⟩
theorem zv_X9_58 : z_V RX9 58 RX2 yX2_placeStation cX2_placeStation 5 (some (.object "TokenBus$Station")) 1 := ⟨z_ins [664, 665, 666, 10, 667] (by decide +kernel) (by decide +kernel), rfl, by decide +kernel, by decide +kernel, by decide +kernel⟩
theorem zf_X9_61 : z_F RX9 61 2 5 := ⟨RX2, TX2, rfl, by decide, z_lw (i := 205) (by decide +kernel) (by decide +kernel), inX2, rfl, tyX2_ok, nmX2, rfl⟩
theorem zf_X9_70 : z_F RX9 70 6 1 := ⟨RX6, TX6, rfl, by decide, z_lw (i := 154) (by decide +kernel) (by decide +kernel), inX6, rfl, tyX6_ok, nmX6, rfl⟩
theorem zv_X9_76 : z_V RX9 76 RX2 yX2_switchStation cX2_switchStation 3 none 2 := ⟨z_ins [706, 707, 708, 10, 709] (by decide +kernel) (by decide +kernel), rfl, by decide +kernel, by decide +kernel, by decide +kernel⟩
theorem zf_X9_86 : z_F RX9 86 2 6 := ⟨RX2, TX2, rfl, by decide, z_lw (i := 210) (by decide +kernel) (by decide +kernel), inX2, rfl, tyX2_ok, nmX2, rfl⟩
theorem zf_X9_89 : z_F RX9 89 2 7 := ⟨RX2, TX2, rfl, by decide, z_lw (i := 213) (by decide +kernel) (by decide +kernel), inX2, rfl, tyX2_ok, nmX2, rfl⟩
theorem zf_X9_92 : z_F RX9 92 2 8 := ⟨RX2, TX2, rfl, by decide, z_lw (i := 215) (by decide +kernel) (by decide +kernel), inX2, rfl, tyX2_ok, nmX2, rfl⟩
theorem zf_X9_97 : z_FF RX9 97 2 1 := ⟨RX2, TX2, rfl, by decide, z_lw (i := 197) (by decide +kernel) (by decide +kernel), inX2, rfl, tyX2_ok, nmX2, rfl⟩
theorem zv_X9_101 : z_V RX9 101 RX3 yX3_isFull cX3_isFull 1 (some .boolean) 0 := ⟨z_ins [715, 716, 717, 11, 718] (by decide +kernel) (by decide +kernel), rfl, by decide +kernel, by decide +kernel, by decide +kernel⟩
theorem zf_X9_106 : z_F RX9 106 2 9 := ⟨RX2, TX2, rfl, by decide, z_lw (i := 219) (by decide +kernel) (by decide +kernel), inX2, rfl, tyX2_ok, nmX2, rfl⟩
theorem zv_X9_109 : z_V RX9 109 RX3 yX3_add cX3_add 6 (some .int) 4 := ⟨z_ins [720, 721, 722, 11, 723] (by decide +kernel) (by decide +kernel), rfl, by decide +kernel, by decide +kernel, by decide +kernel⟩
theorem zk_X9_113 : Cond.constant RX9 113 (1000000 : Int32) ∈ zWS := z_lw (i := 732) (by decide +kernel) (by decide +kernel)
theorem zf_X9_116 : z_FF RX9 116 2 2 := ⟨RX2, TX2, rfl, by decide, z_lw (i := 200) (by decide +kernel) (by decide +kernel), inX2, rfl, tyX2_ok, nmX2, rfl⟩
theorem zv_X9_120 : z_V RX9 120 RX4 yX4_isFull cX4_isFull 1 (some .boolean) 0 := ⟨z_ins [734, 735, 736, 14, 737] (by decide +kernel) (by decide +kernel), rfl, by decide +kernel, by decide +kernel, by decide +kernel⟩
theorem zv_X9_125 : z_V RX9 125 RX4 yX4_add cX4_add 3 none 2 := ⟨z_ins [739, 740, 741, 14, 742] (by decide +kernel) (by decide +kernel), rfl, by decide +kernel, by decide +kernel, by decide +kernel⟩
theorem zf_X9_128 : z_F RX9 128 4 2 := ⟨RX4, TX4, rfl, by decide, z_lw (i := 82) (by decide +kernel) (by decide +kernel), inX4, rfl, tyX4_ok, nmX4, rfl⟩
theorem zv_X9_133 : z_V RX9 133 RX2 yX2_isTooLate cX2_isTooLate 1 (some .boolean) 0 := ⟨z_ins [355, 356, 357, 10, 358] (by decide +kernel) (by decide +kernel), rfl, by decide +kernel, by decide +kernel, by decide +kernel⟩
theorem zv_X9_138 : z_SS RX9 138 yX8_makeVisit cX8_makeVisit 5 none 1 := ⟨z_ins [436, 437, 26, 438] (by decide +kernel) (by decide +kernel), by decide +kernel, by decide +kernel, by decide +kernel⟩
theorem zf_X9_143 : z_F RX9 143 2 10 := ⟨RX2, TX2, rfl, by decide, z_lw (i := 222) (by decide +kernel) (by decide +kernel), inX2, rfl, tyX2_ok, nmX2, rfl⟩
theorem zv_X9_148 : z_V RX9 148 RX2 yX2_settingValue cX2_settingValue 2 (some .int) 1 := ⟨z_ins [528, 529, 530, 10, 531] (by decide +kernel) (by decide +kernel), rfl, by decide +kernel, by decide +kernel, by decide +kernel⟩
theorem zv_X9_154 : z_V RX9 154 RX6 yX6_value cX6_value 2 (some .int) 1 := ⟨z_ins [761, 618, 619, 16, 620] (by decide +kernel) (by decide +kernel), rfl, by decide +kernel, by decide +kernel, by decide +kernel⟩
theorem zv_X9_157 : z_V RX9 157 RX2 yX2_stationIn cX2_stationIn 2 (some (.object "TokenBus$Station")) 1 := ⟨z_ins [684, 429, 430, 10, 431] (by decide +kernel) (by decide +kernel), rfl, by decide +kernel, by decide +kernel, by decide +kernel⟩
theorem zf_X9_165 : z_F RX9 165 6 0 := ⟨RX6, TX6, rfl, by decide, z_lw (i := 152) (by decide +kernel) (by decide +kernel), inX6, rfl, tyX6_ok, nmX6, rfl⟩
theorem zv_X9_177 : z_V RX9 177 RX3 yX3_has cX3_has 2 (some .boolean) 1 := ⟨z_ins [544, 462, 463, 11, 464] (by decide +kernel) (by decide +kernel), rfl, by decide +kernel, by decide +kernel, by decide +kernel⟩
theorem zv_X9_184 : z_V RX9 184 RX3 yX3_value cX3_value 3 (some .int) 2 := ⟨z_ins [562, 473, 474, 11, 475] (by decide +kernel) (by decide +kernel), rfl, by decide +kernel, by decide +kernel, by decide +kernel⟩
theorem zf_X9_191 : z_FF RX9 191 2 3 := ⟨RX2, TX2, rfl, by decide, z_lw (i := 203) (by decide +kernel) (by decide +kernel), inX2, rfl, tyX2_ok, nmX2, rfl⟩
theorem zv_X9_195 : z_V RX9 195 RX0 yX0_value cX0_value 2 (some .int) 1 := ⟨z_ins [755, 627, 628, 15, 629] (by decide +kernel) (by decide +kernel), rfl, by decide +kernel, by decide +kernel, by decide +kernel⟩
theorem zv_X9_202 : z_V RX9 202 RX2 yX2_logLength cX2_logLength 1 (some .int) 0 := ⟨z_ins [766, 419, 420, 10, 421] (by decide +kernel) (by decide +kernel), rfl, by decide +kernel, by decide +kernel, by decide +kernel⟩
theorem zv_X9_210 : z_V RX9 210 RX2 yX2_logValue cX2_logValue 4 (some .int) 2 := ⟨z_ins [773, 635, 636, 10, 637] (by decide +kernel) (by decide +kernel), rfl, by decide +kernel, by decide +kernel, by decide +kernel⟩
theorem zf_X9_213 : z_F RX9 213 0 7 := ⟨RX0, TX0, rfl, by decide, z_lw (i := 114) (by decide +kernel) (by decide +kernel), inX0, rfl, tyX0_ok, nmX0, rfl⟩
theorem zf_X9_216 : z_F RX9 216 0 1 := ⟨RX0, TX0, rfl, by decide, z_lw (i := 101) (by decide +kernel) (by decide +kernel), inX0, rfl, tyX0_ok, nmX0, rfl⟩
theorem zf_X9_222 : z_F RX9 222 0 9 := ⟨RX0, TX0, rfl, by decide, z_lw (i := 119) (by decide +kernel) (by decide +kernel), inX0, rfl, tyX0_ok, nmX0, rfl⟩
theorem zf_X9_219 : z_F RX9 219 0 8 := ⟨RX0, TX0, rfl, by decide, z_lw (i := 117) (by decide +kernel) (by decide +kernel), inX0, rfl, tyX0_ok, nmX0, rfl⟩
theorem zf_X9_226 : z_F RX9 226 0 6 := ⟨RX0, TX0, rfl, by decide, z_lw (i := 111) (by decide +kernel) (by decide +kernel), inX0, rfl, tyX0_ok, nmX0, rfl⟩
theorem zv_X9_231 : z_V RX9 231 RX2 yX2_copyFrom cX2_copyFrom 2 none 1 := ⟨z_ins [568, 389, 390, 10, 391] (by decide +kernel) (by decide +kernel), rfl, by decide +kernel, by decide +kernel, by decide +kernel⟩
theorem zv_X9_234 : z_V RX9 234 RX2 yX2_isComplete cX2_isComplete 3 (some .boolean) 0 := ⟨z_ins [573, 574, 575, 10, 576] (by decide +kernel) (by decide +kernel), rfl, by decide +kernel, by decide +kernel, by decide +kernel⟩
theorem zv_X9_284 : z_V RX9 284 RX2 yX2_isWaitedAt cX2_isWaitedAt 3 (some .boolean) 0 := ⟨z_ins [585, 586, 587, 10, 588] (by decide +kernel) (by decide +kernel), rfl, by decide +kernel, by decide +kernel, by decide +kernel⟩
theorem zv_X9_237 : z_V RX9 237 RX9 yX9_sendsAll cX9_sendsAll 4 (some .boolean) 2 := ⟨z_ins [581, 583, 4, 9, 584] (by decide +kernel) (by decide +kernel), rfl, by decide +kernel, by decide +kernel, by decide +kernel⟩
theorem zf_X9_264 : z_F RX9 264 1 1 := ⟨RX1, TX1, rfl, by decide, z_lw (i := 257) (by decide +kernel) (by decide +kernel), inX1, rfl, tyX1_ok, nmX1, rfl⟩
theorem zv_X9_269 : z_V RX9 269 RX1 yX1_restore cX1_restore 3 none 1 := ⟨z_ins [594, 595, 596, 17, 597] (by decide +kernel) (by decide +kernel), rfl, by decide +kernel, by decide +kernel, by decide +kernel⟩
theorem zk_X9_272 : Cond.constantLong RX9 272 (3169 : Int64) ∈ zWS := z_lw (i := 602) (by decide +kernel) (by decide +kernel)
theorem zf_X9_242 : z_F RX9 242 8 4 := ⟨RX9, TX9, rfl, by decide, z_lw (i := 267) (by decide +kernel) (by decide +kernel), inX9, rfl, tyX9_ok, nmX9, rfl⟩
theorem zv_X9_274 : z_SS RX9 274 yX9_mixed cX9_mixed 4 (some .long) 2 := ⟨z_ins [603, 604, 9, 605] (by decide +kernel) (by decide +kernel), by decide +kernel, by decide +kernel, by decide +kernel⟩
theorem zv_X9_278 : z_V RX9 278 RX2 yX2_hashed cX2_hashed 7 (some .long) 1 := ⟨z_ins [607, 608, 609, 10, 610] (by decide +kernel) (by decide +kernel), rfl, by decide +kernel, by decide +kernel, by decide +kernel⟩
theorem zk_L_7 : Cond.constant RL 7 (1759714724 : Int32) ∈ zWS := z_lw (i := 642) (by decide +kernel) (by decide +kernel)
theorem zk_L_8 : Cond.constant RL 8 (2147483647 : Int32) ∈ zWS := z_lw (i := 646) (by decide +kernel) (by decide +kernel)
theorem zv_L_9 : z_SS RL 9 yL_cell cL_cell 2 (some .int) 2 := ⟨z_ins [639, 640, 8, 641] (by decide +kernel) (by decide +kernel), by decide +kernel, by decide +kernel, by decide +kernel⟩
theorem zv_L_15 : z_SS RL 15 yL_up cL_up 2 (some .int) 2 := ⟨z_ins [643, 644, 8, 645] (by decide +kernel) (by decide +kernel), by decide +kernel, by decide +kernel, by decide +kernel⟩
theorem zv_L_25 : z_V RL 25 RX9 yX9_setTimes cX9_setTimes 5 (some .int) 3 := ⟨z_ins [672, 673, 674, 9, 675] (by decide +kernel) (by decide +kernel), rfl, by decide +kernel, by decide +kernel, by decide +kernel⟩
theorem zv_L_19 : z_V RL 19 RX9 yX9_addStation cX9_addStation 2 (some .int) 1 := ⟨z_ins [650, 651, 652, 9, 653] (by decide +kernel) (by decide +kernel), rfl, by decide +kernel, by decide +kernel, by decide +kernel⟩
theorem zv_L_29 : z_V RL 29 RX9 yX9_setting cX9_setting 2 (some .int) 1 := ⟨z_ins [523, 524, 525, 9, 526] (by decide +kernel) (by decide +kernel), rfl, by decide +kernel, by decide +kernel, by decide +kernel⟩
theorem zv_L_32 : z_V RL 32 RX9 yX9_addressAt cX9_addressAt 3 (some .int) 1 := ⟨z_ins [680, 681, 682, 9, 683] (by decide +kernel) (by decide +kernel), rfl, by decide +kernel, by decide +kernel, by decide +kernel⟩
theorem zv_L_35 : z_V RL 35 RX9 yX9_setOn cX9_setOn 5 (some .boolean) 2 := ⟨z_ins [686, 687, 688, 9, 689] (by decide +kernel) (by decide +kernel), rfl, by decide +kernel, by decide +kernel, by decide +kernel⟩
theorem zv_L_39 : z_V RL 39 RX9 yX9_give cX9_give 5 (some .int) 3 := ⟨z_ins [710, 711, 712, 9, 713] (by decide +kernel) (by decide +kernel), rfl, by decide +kernel, by decide +kernel, by decide +kernel⟩
theorem zv_L_42 : z_V RL 42 RX9 yX9_addNoise cX9_addNoise 3 (some .int) 2 := ⟨z_ins [728, 729, 730, 9, 731] (by decide +kernel) (by decide +kernel), rfl, by decide +kernel, by decide +kernel, by decide +kernel⟩
theorem zv_L_45 : z_V RL 45 RX9 yX9_loseToken cX9_loseToken 2 (some .int) 0 := ⟨z_ins [743, 744, 745, 9, 746] (by decide +kernel) (by decide +kernel), rfl, by decide +kernel, by decide +kernel, by decide +kernel⟩
theorem zv_L_49 : z_V RL 49 RX9 yX9_run cX9_run 3 (some .int) 1 := ⟨z_ins [280, 281, 282, 9, 283] (by decide +kernel) (by decide +kernel), rfl, by decide +kernel, by decide +kernel, by decide +kernel⟩
theorem zv_L_58 : z_V RL 58 RX9 yX9_logged cX9_logged 1 (some .int) 0 := ⟨z_ins [762, 763, 764, 9, 765] (by decide +kernel) (by decide +kernel), rfl, by decide +kernel, by decide +kernel, by decide +kernel⟩
theorem zv_L_64 : z_V RL 64 RX9 yX9_waits cX9_waits 3 (some .double) 1 := ⟨z_ins [774, 775, 776, 9, 777] (by decide +kernel) (by decide +kernel), rfl, by decide +kernel, by decide +kernel, by decide +kernel⟩
theorem zv_L_68 : z_V RL 68 RX9 yX9_use cX9_use 1 (some .double) 0 := ⟨z_ins [778, 779, 780, 9, 781] (by decide +kernel) (by decide +kernel), rfl, by decide +kernel, by decide +kernel, by decide +kernel⟩
theorem zv_L_61 : z_V RL 61 RX9 yX9_visit cX9_visit 3 (some .int) 2 := ⟨z_ins [767, 768, 769, 9, 770] (by decide +kernel) (by decide +kernel), rfl, by decide +kernel, by decide +kernel, by decide +kernel⟩
theorem zv_L_55 : z_V RL 55 RX9 yX9_station cX9_station 4 (some .int) 2 := ⟨z_ins [756, 757, 758, 9, 759] (by decide +kernel) (by decide +kernel), rfl, by decide +kernel, by decide +kernel, by decide +kernel⟩
theorem zv_L_52 : z_V RL 52 RX9 yX9_count cX9_count 2 (some .int) 1 := ⟨z_ins [750, 751, 752, 9, 753] (by decide +kernel) (by decide +kernel), rfl, by decide +kernel, by decide +kernel, by decide +kernel⟩
theorem zv_L_72 : z_V RL 72 RX9 yX9_greatestRotation cX9_greatestRotation 1 (some .int) 0 := ⟨z_ins [785, 786, 787, 9, 788] (by decide +kernel) (by decide +kernel), rfl, by decide +kernel, by decide +kernel, by decide +kernel⟩
theorem zw_L_20 : z_NW RL 20 8 := ⟨RX9, TX9, rfl, tyX9_ok, inX9, z_lw (i := 27) (by decide +kernel) (by decide +kernel), z_lw (i := 28) (by decide +kernel) (by decide +kernel), z_lw (i := 9) (by decide +kernel) (by decide +kernel), by decide +kernel⟩
theorem zv_L_75 : z_II RL 75 yX9_init cX9_init 1 0 := ⟨z_ins [29, 30, 9, 31] (by decide +kernel) (by decide +kernel), rfl, by decide +kernel, by decide +kernel, by decide +kernel⟩
theorem zv_L_76 : z_SS RL 76 yL_adds cL_adds 8 (some .boolean) 3 := ⟨z_ins [647, 648, 8, 649] (by decide +kernel) (by decide +kernel), by decide +kernel, by decide +kernel, by decide +kernel⟩
theorem zv_L_104 : z_V RL 104 RX9 yX9_digest cX9_digest 3 (some .long) 0 := ⟨z_ins [598, 599, 600, 9, 601] (by decide +kernel) (by decide +kernel), rfl, by decide +kernel, by decide +kernel, by decide +kernel⟩
theorem zv_L_88 : z_SS RL 88 yL_isSound cL_isSound 6 (some .boolean) 1 := ⟨z_ins [782, 783, 8, 784] (by decide +kernel) (by decide +kernel), by decide +kernel, by decide +kernel, by decide +kernel⟩
theorem zv_L_108 : z_V RL 108 RX9 yX9_undo cX9_undo 1 (some .int) 0 := ⟨z_ins [589, 590, 591, 9, 592] (by decide +kernel) (by decide +kernel), rfl, by decide +kernel, by decide +kernel, by decide +kernel⟩
theorem zv_L_95 : z_V RL 95 RX9 yX9_leastTarget cX9_leastTarget 3 (some .int) 1 := ⟨z_ins [577, 578, 579, 9, 580] (by decide +kernel) (by decide +kernel), rfl, by decide +kernel, by decide +kernel, by decide +kernel⟩
theorem zv_L_98 : z_V RL 98 RX9 yX9_message cX9_message 3 (some .int) 2 := ⟨z_ins [540, 541, 542, 9, 543] (by decide +kernel) (by decide +kernel), rfl, by decide +kernel, by decide +kernel, by decide +kernel⟩
theorem zv_L_101 : z_V RL 101 RX9 yX9_waitOf cX9_waitOf 4 (some .int) 1 := ⟨z_ins [563, 564, 565, 9, 566] (by decide +kernel) (by decide +kernel), rfl, by decide +kernel, by decide +kernel, by decide +kernel⟩
theorem zv_L_92 : z_V RL 92 RX9 yX9_completeAfter cX9_completeAfter 2 (some .int) 0 := ⟨z_ins [569, 570, 571, 9, 572] (by decide +kernel) (by decide +kernel), rfl, by decide +kernel, by decide +kernel, by decide +kernel⟩
theorem zv_L_80 : z_SS RL 80 yL_isStep cL_isStep 7 (some .boolean) 3 := ⟨z_ins [677, 678, 8, 679] (by decide +kernel) (by decide +kernel), by decide +kernel, by decide +kernel, by decide +kernel⟩
theorem zv_L_84 : z_SS RL 84 yL_areAlike cL_areAlike 6 (some .boolean) 2 := ⟨z_ins [747, 748, 8, 749] (by decide +kernel) (by decide +kernel), by decide +kernel, by decide +kernel, by decide +kernel⟩
