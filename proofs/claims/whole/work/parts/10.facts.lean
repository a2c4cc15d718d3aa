theorem inX0 : ∀ w ∈ u_ws RX0 TX0 10, w ∈ zWS := z_ins [162, 164, 166, 168, 170, 172, 174, 176, 178, 180] (by decide +kernel) (by decide +kernel)
theorem inX1 : ∀ w ∈ u_ws RX1 TX1 2, w ∈ zWS := z_ins [303, 305] (by decide +kernel) (by decide +kernel)
theorem inX2 : ∀ w ∈ u_ws RX2 TX2 11, w ∈ zWS := z_ins [268, 270, 272, 274, 276, 278, 280, 282, 284, 286, 288] (by decide +kernel) (by decide +kernel)
theorem inX3 : ∀ w ∈ u_ws RX3 TX3 2, w ∈ zWS := z_ins [110, 112] (by decide +kernel) (by decide +kernel)
theorem inX4 : ∀ w ∈ u_ws RX4 TX4 3, w ∈ zWS := z_ins [126, 128, 130] (by decide +kernel) (by decide +kernel)
theorem inX5 : ∀ w ∈ u_ws RX5 TX5 6, w ∈ zWS := z_ins [444, 446, 448, 450, 452, 454] (by decide +kernel) (by decide +kernel)
theorem inX6 : ∀ w ∈ u_ws RX6 TX6 9, w ∈ zWS := z_ins [219, 221, 223, 225, 227, 229, 231, 233, 235] (by decide +kernel) (by decide +kernel)
theorem inX7 : ∀ w ∈ u_ws RX7 TX7 2, w ∈ zWS := z_ins [102, 104] (by decide +kernel) (by decide +kernel)
theorem inX9 : ∀ w ∈ u_ws RX9 TX9 5, w ∈ zWS := z_ins [313, 315, 317, 319, 321] (by decide +kernel) (by decide +kernel)
theorem inX10 : ∀ w ∈ u_ws RX10 TX10 10, w ∈ zWS := z_ins [1006, 1008, 1010, 1012, 1014, 1016, 1018, 1020, 1022, 1024] (by decide +kernel) (by decide +kernel)
theorem zoi_a : Cond.instanceMethod Lib.objectInit ∈ zWS := z_lw (i := 75) (by decide +kernel) (by decide +kernel)
theorem zoi_b : Cond.code Lib.objectInit ⟨#[0xb1]⟩ 1 none ∈ zWS := z_lw (i := 76) (by decide +kernel) (by decide +kernel)
theorem zoi_X0_1 : Cond.methodLink RX0 1 Lib.objectInit ∈ zWS := z_lw (i := 138) (by decide +kernel) (by decide +kernel)
theorem zf_X0_7 : z_F RX0 7 0 0 := ⟨RX0, TX0, rfl, by decide, z_lw (i := 139) (by decide +kernel) (by decide +kernel), inX0, rfl, tyX0_ok, nmX0, rfl⟩
theorem zf_X0_13 : z_F RX0 13 0 1 := ⟨RX0, TX0, rfl, by decide, z_lw (i := 142) (by decide +kernel) (by decide +kernel), inX0, rfl, tyX0_ok, nmX0, rfl⟩
theorem zf_X0_16 : z_F RX0 16 0 2 := ⟨RX0, TX0, rfl, by decide, z_lw (i := 144) (by decide +kernel) (by decide +kernel), inX0, rfl, tyX0_ok, nmX0, rfl⟩
theorem zf_X0_19 : z_F RX0 19 0 3 := ⟨RX0, TX0, rfl, by decide, z_lw (i := 146) (by decide +kernel) (by decide +kernel), inX0, rfl, tyX0_ok, nmX0, rfl⟩
theorem zf_X0_22 : z_F RX0 22 0 4 := ⟨RX0, TX0, rfl, by decide, z_lw (i := 148) (by decide +kernel) (by decide +kernel), inX0, rfl, tyX0_ok, nmX0, rfl⟩
theorem zf_X0_25 : z_F RX0 25 0 5 := ⟨RX0, TX0, rfl, by decide, z_lw (i := 150) (by decide +kernel) (by decide +kernel), inX0, rfl, tyX0_ok, nmX0, rfl⟩
theorem zf_X0_28 : z_F RX0 28 0 6 := ⟨RX0, TX0, rfl, by decide, z_lw (i := 152) (by decide +kernel) (by decide +kernel), inX0, rfl, tyX0_ok, nmX0, rfl⟩
theorem zf_X0_31 : z_F RX0 31 0 7 := ⟨RX0, TX0, rfl, by decide, z_lw (i := 154) (by decide +kernel) (by decide +kernel), inX0, rfl, tyX0_ok, nmX0, rfl⟩
theorem zf_X0_34 : z_F RX0 34 0 8 := ⟨RX0, TX0, rfl, by decide, z_lw (i := 158) (by decide +kernel) (by decide +kernel), inX0, rfl, tyX0_ok, nmX0, rfl⟩
theorem zf_X0_37 : z_F RX0 37 0 9 := ⟨RX0, TX0, rfl, by decide, z_lw (i := 160) (by decide +kernel) (by decide +kernel), inX0, rfl, tyX0_ok, nmX0, rfl⟩
theorem zmm_X0_41 : z_MM RX0 41 Lib.Math.max.name Lib.Math.max.code := ⟨z_lw (i := 813) (by decide +kernel) (by decide +kernel), z_lw (i := 98) (by decide +kernel) (by decide +kernel), z_lw (i := 53) (by decide +kernel) (by decide +kernel), z_lw (i := 99) (by decide +kernel) (by decide +kernel)⟩
theorem zoi_X7_3 : Cond.methodLink RX7 3 Lib.objectInit ∈ zWS := z_lw (i := 96) (by decide +kernel) (by decide +kernel)
theorem zf_X7_9 : z_FF RX7 9 7 0 := ⟨RX7, TX7, rfl, by decide, z_lw (i := 100) (by decide +kernel) (by decide +kernel), inX7, rfl, tyX7_ok, nmX7, rfl⟩
theorem zmm_X7_15 : z_MM RX7 15 Lib.Math.max.name Lib.Math.max.code := ⟨z_lw (i := 97) (by decide +kernel) (by decide +kernel), z_lw (i := 98) (by decide +kernel) (by decide +kernel), z_lw (i := 53) (by decide +kernel) (by decide +kernel), z_lw (i := 99) (by decide +kernel) (by decide +kernel)⟩
theorem zac_int : Cond.arrayClass (newarray.typeOf .int) ∈ zWS := z_lw (i := 107) (by decide +kernel) (by decide +kernel)
theorem zf_X7_21 : z_FF RX7 21 7 1 := ⟨RX7, TX7, rfl, by decide, z_lw (i := 101) (by decide +kernel) (by decide +kernel), inX7, rfl, tyX7_ok, nmX7, rfl⟩
theorem zoi_X3_3 : Cond.methodLink RX3 3 Lib.objectInit ∈ zWS := z_lw (i := 90) (by decide +kernel) (by decide +kernel)
theorem zw_X3_9 : z_NW RX3 9 7 := ⟨RX7, TX7, rfl, tyX7_ok, inX7, z_lw (i := 91) (by decide +kernel) (by decide +kernel), z_lw (i := 92) (by decide +kernel) (by decide +kernel), z_lw (i := 52) (by decide +kernel) (by decide +kernel), by decide +kernel⟩
theorem zv_X3_13 : z_II RX3 13 yX7_init cX7_init 3 2 := ⟨z_ins [93, 94, 52, 95] (by decide +kernel) (by decide +kernel), rfl, by decide +kernel, by decide +kernel, by decide +kernel⟩
theorem zf_X3_16 : z_FF RX3 16 3 0 := ⟨RX3, TX3, rfl, by decide, z_lw (i := 108) (by decide +kernel) (by decide +kernel), inX3, rfl, tyX3_ok, nmX3, rfl⟩
theorem zoi_X4_3 : Cond.methodLink RX4 3 Lib.objectInit ∈ zWS := z_lw (i := 120) (by decide +kernel) (by decide +kernel)
theorem zf_X4_9 : z_FF RX4 9 4 0 := ⟨RX4, TX4, rfl, by decide, z_lw (i := 121) (by decide +kernel) (by decide +kernel), inX4, rfl, tyX4_ok, nmX4, rfl⟩
theorem zf_X4_15 : z_FF RX4 15 4 1 := ⟨RX4, TX4, rfl, by decide, z_lw (i := 122) (by decide +kernel) (by decide +kernel), inX4, rfl, tyX4_ok, nmX4, rfl⟩
theorem zoi_X6_3 : Cond.methodLink RX6 3 Lib.objectInit ∈ zWS := z_lw (i := 189) (by decide +kernel) (by decide +kernel)
theorem zoi_X2_3 : Cond.methodLink RX2 3 Lib.objectInit ∈ zWS := z_lw (i := 82) (by decide +kernel) (by decide +kernel)
theorem zcl_X2_9 : Cond.classLink RX2 9 RX6 ∈ zWS := z_lw (i := 83) (by decide +kernel) (by decide +kernel)
theorem zf_X2_11 : z_FF RX2 11 2 0 := ⟨RX2, TX2, rfl, by decide, z_lw (i := 238) (by decide +kernel) (by decide +kernel), inX2, rfl, tyX2_ok, nmX2, rfl⟩
theorem zw_X2_17 : z_NW RX2 17 3 := ⟨RX3, TX3, rfl, tyX3_ok, inX3, z_lw (i := 85) (by decide +kernel) (by decide +kernel), z_lw (i := 86) (by decide +kernel) (by decide +kernel), z_lw (i := 51) (by decide +kernel) (by decide +kernel), by decide +kernel⟩
theorem zv_X2_19 : z_IN RX2 19 yX3_init "TokenBus" cX3_init 1 0 := ⟨by decide +kernel, z_ins [88, 51, 89] (by decide +kernel) (by decide +kernel), rfl, by decide +kernel, by decide +kernel, by decide +kernel⟩
theorem zf_X2_20 : z_FF RX2 20 2 1 := ⟨RX2, TX2, rfl, by decide, z_lw (i := 239) (by decide +kernel) (by decide +kernel), inX2, rfl, tyX2_ok, nmX2, rfl⟩
theorem zw_X2_24 : z_NW RX2 24 4 := ⟨RX4, TX4, rfl, tyX4_ok, inX4, z_lw (i := 115) (by decide +kernel) (by decide +kernel), z_lw (i := 116) (by decide +kernel) (by decide +kernel), z_lw (i := 54) (by decide +kernel) (by decide +kernel), by decide +kernel⟩
theorem zv_X2_26 : z_IN RX2 26 yX4_init "TokenBus" cX4_init 1 0 := ⟨by decide +kernel, z_ins [118, 54, 119] (by decide +kernel) (by decide +kernel), rfl, by decide +kernel, by decide +kernel, by decide +kernel⟩
theorem zf_X2_27 : z_FF RX2 27 2 2 := ⟨RX2, TX2, rfl, by decide, z_lw (i := 243) (by decide +kernel) (by decide +kernel), inX2, rfl, tyX2_ok, nmX2, rfl⟩
theorem zw_X2_31 : z_NW RX2 31 0 := ⟨RX0, TX0, rfl, tyX0_ok, inX0, z_lw (i := 133) (by decide +kernel) (by decide +kernel), z_lw (i := 134) (by decide +kernel) (by decide +kernel), z_lw (i := 55) (by decide +kernel) (by decide +kernel), by decide +kernel⟩
theorem zv_X2_33 : z_IN RX2 33 yX0_init "TokenBus" cX0_init 1 0 := ⟨by decide +kernel, z_ins [136, 55, 137] (by decide +kernel) (by decide +kernel), rfl, by decide +kernel, by decide +kernel, by decide +kernel⟩
theorem zf_X2_34 : z_FF RX2 34 2 3 := ⟨RX2, TX2, rfl, by decide, z_lw (i := 245) (by decide +kernel) (by decide +kernel), inX2, rfl, tyX2_ok, nmX2, rfl⟩
theorem zw_X2_38 : z_NW RX2 38 7 := ⟨RX7, TX7, rfl, tyX7_ok, inX7, z_lw (i := 183) (by decide +kernel) (by decide +kernel), z_lw (i := 92) (by decide +kernel) (by decide +kernel), z_lw (i := 52) (by decide +kernel) (by decide +kernel), by decide +kernel⟩
theorem zv_X2_40 : z_II RX2 40 yX7_init cX7_init 3 2 := ⟨z_ins [184, 94, 52, 95] (by decide +kernel) (by decide +kernel), rfl, by decide +kernel, by decide +kernel, by decide +kernel⟩
theorem zf_X2_43 : z_FF RX2 43 2 4 := ⟨RX2, TX2, rfl, by decide, z_lw (i := 248) (by decide +kernel) (by decide +kernel), inX2, rfl, tyX2_ok, nmX2, rfl⟩
theorem zf_X2_47 : z_F RX2 47 2 6 := ⟨RX2, TX2, rfl, by decide, z_lw (i := 252) (by decide +kernel) (by decide +kernel), inX2, rfl, tyX2_ok, nmX2, rfl⟩
theorem zf_X2_51 : z_F RX2 51 2 7 := ⟨RX2, TX2, rfl, by decide, z_lw (i := 255) (by decide +kernel) (by decide +kernel), inX2, rfl, tyX2_ok, nmX2, rfl⟩
theorem zf_X2_54 : z_F RX2 54 2 8 := ⟨RX2, TX2, rfl, by decide, z_lw (i := 258) (by decide +kernel) (by decide +kernel), inX2, rfl, tyX2_ok, nmX2, rfl⟩
theorem zf_X2_57 : z_F RX2 57 2 10 := ⟨RX2, TX2, rfl, by decide, z_lw (i := 265) (by decide +kernel) (by decide +kernel), inX2, rfl, tyX2_ok, nmX2, rfl⟩
theorem zw_X2_9 : z_NW RX2 9 6 := ⟨RX6, TX6, rfl, tyX6_ok, inX6, z_lw (i := 83) (by decide +kernel) (by decide +kernel), z_lw (i := 185) (by decide +kernel) (by decide +kernel), z_lw (i := 56) (by decide +kernel) (by decide +kernel), by decide +kernel⟩
theorem zv_X2_60 : z_IN RX2 60 yX6_init "TokenBus" cX6_init 1 0 := ⟨by decide +kernel, z_ins [187, 56, 188] (by decide +kernel) (by decide +kernel), rfl, by decide +kernel, by decide +kernel, by decide +kernel⟩
theorem zoi_X1_3 : Cond.methodLink RX1 3 Lib.objectInit ∈ zWS := z_lw (i := 296) (by decide +kernel) (by decide +kernel)
theorem zcl_X1_9 : Cond.classLink RX1 9 RX2 ∈ zWS := z_lw (i := 297) (by decide +kernel) (by decide +kernel)
theorem zf_X1_11 : z_FF RX1 11 1 0 := ⟨RX1, TX1, rfl, by decide, z_lw (i := 300) (by decide +kernel) (by decide +kernel), inX1, rfl, tyX1_ok, nmX1, rfl⟩
theorem zw_X1_9 : z_NW RX1 9 2 := ⟨RX2, TX2, rfl, tyX2_ok, inX2, z_lw (i := 297) (by decide +kernel) (by decide +kernel), z_lw (i := 78) (by decide +kernel) (by decide +kernel), z_lw (i := 50) (by decide +kernel) (by decide +kernel), by decide +kernel⟩
theorem zv_X1_17 : z_II RX1 17 yX2_init cX2_init 2 0 := ⟨z_ins [299, 80, 50, 81] (by decide +kernel) (by decide +kernel), rfl, by decide +kernel, by decide +kernel, by decide +kernel⟩
theorem zv_X1_25 : z_V RX1 25 RX1 yX1_stateAt cX1_stateAt 2 (some (.object "TokenBus$Line")) 1 := ⟨z_ins [337, 339, 1, 57, 340] (by decide +kernel) (by decide +kernel), rfl, by decide +kernel, by decide +kernel, by decide +kernel⟩
theorem zf_X1_18 : z_F RX1 18 1 1 := ⟨RX1, TX1, rfl, by decide, z_lw (i := 301) (by decide +kernel) (by decide +kernel), inX1, rfl, tyX1_ok, nmX1, rfl⟩
theorem zmm_X7_25 : z_MM RX7 25 Lib.Math.min.name Lib.Math.min.code := ⟨z_lw (i := 357) (by decide +kernel) (by decide +kernel), z_lw (i := 358) (by decide +kernel) (by decide +kernel), z_lw (i := 53) (by decide +kernel) (by decide +kernel), z_lw (i := 359) (by decide +kernel) (by decide +kernel)⟩
theorem zcp_X7_28 : z_CP RX7 28 := ⟨z_lw (i := 360) (by decide +kernel) (by decide +kernel), z_lw (i := 362) (by decide +kernel) (by decide +kernel), z_lw (i := 361) (by decide +kernel) (by decide +kernel), z_lw (i := 64) (by decide +kernel) (by decide +kernel)⟩
theorem zf_X3_20 : z_F RX3 20 3 1 := ⟨RX3, TX3, rfl, by decide, z_lw (i := 109) (by decide +kernel) (by decide +kernel), inX3, rfl, tyX3_ok, nmX3, rfl⟩
theorem zv_X3_32 : z_V RX3 32 RX7 yX7_copyFrom cX7_copyFrom 5 none 2 := ⟨z_ins [353, 354, 355, 52, 356] (by decide +kernel) (by decide +kernel), rfl, by decide +kernel, by decide +kernel, by decide +kernel⟩
theorem zf_X4_18 : z_F RX4 18 4 2 := ⟨RX4, TX4, rfl, by decide, z_lw (i := 123) (by decide +kernel) (by decide +kernel), inX4, rfl, tyX4_ok, nmX4, rfl⟩
theorem zf_X2_128 : z_F RX2 128 0 0 := ⟨RX0, TX0, rfl, by decide, z_lw (i := 141) (by decide +kernel) (by decide +kernel), inX0, rfl, tyX0_ok, nmX0, rfl⟩
theorem zmm_X2_135 : z_MM RX2 135 Lib.Math.min.name Lib.Math.min.code := ⟨z_lw (i := 375) (by decide +kernel) (by decide +kernel), z_lw (i := 358) (by decide +kernel) (by decide +kernel), z_lw (i := 53) (by decide +kernel) (by decide +kernel), z_lw (i := 359) (by decide +kernel) (by decide +kernel)⟩
theorem zf_X2_61 : z_F RX2 61 2 5 := ⟨RX2, TX2, rfl, by decide, z_lw (i := 249) (by decide +kernel) (by decide +kernel), inX2, rfl, tyX2_ok, nmX2, rfl⟩
theorem zf_X6_9 : z_F RX6 9 6 0 := ⟨RX6, TX6, rfl, by decide, z_lw (i := 190) (by decide +kernel) (by decide +kernel), inX6, rfl, tyX6_ok, nmX6, rfl⟩
theorem zf_X6_15 : z_F RX6 15 6 1 := ⟨RX6, TX6, rfl, by decide, z_lw (i := 195) (by decide +kernel) (by decide +kernel), inX6, rfl, tyX6_ok, nmX6, rfl⟩
theorem zf_X6_19 : z_F RX6 19 6 2 := ⟨RX6, TX6, rfl, by decide, z_lw (i := 199) (by decide +kernel) (by decide +kernel), inX6, rfl, tyX6_ok, nmX6, rfl⟩
theorem zf_X6_22 : z_F RX6 22 6 3 := ⟨RX6, TX6, rfl, by decide, z_lw (i := 202) (by decide +kernel) (by decide +kernel), inX6, rfl, tyX6_ok, nmX6, rfl⟩
theorem zf_X6_25 : z_F RX6 25 6 4 := ⟨RX6, TX6, rfl, by decide, z_lw (i := 204) (by decide +kernel) (by decide +kernel), inX6, rfl, tyX6_ok, nmX6, rfl⟩
theorem zf_X6_28 : z_F RX6 28 6 5 := ⟨RX6, TX6, rfl, by decide, z_lw (i := 206) (by decide +kernel) (by decide +kernel), inX6, rfl, tyX6_ok, nmX6, rfl⟩
theorem zf_X6_31 : z_F RX6 31 6 6 := ⟨RX6, TX6, rfl, by decide, z_lw (i := 210) (by decide +kernel) (by decide +kernel), inX6, rfl, tyX6_ok, nmX6, rfl⟩
theorem zf_X6_34 : z_F RX6 34 6 7 := ⟨RX6, TX6, rfl, by decide, z_lw (i := 215) (by decide +kernel) (by decide +kernel), inX6, rfl, tyX6_ok, nmX6, rfl⟩
theorem zf_X6_37 : z_F RX6 37 6 8 := ⟨RX6, TX6, rfl, by decide, z_lw (i := 217) (by decide +kernel) (by decide +kernel), inX6, rfl, tyX6_ok, nmX6, rfl⟩
theorem zv_X2_96 : z_V RX2 96 RX2 yX2_stationIn cX2_stationIn 2 (some (.object "TokenBus$Station")) 1 := ⟨z_ins [381, 382, 383, 50, 384] (by decide +kernel) (by decide +kernel), rfl, by decide +kernel, by decide +kernel, by decide +kernel⟩
theorem zv_X2_100 : z_V RX2 100 RX6 yX6_copyFrom cX6_copyFrom 2 none 1 := ⟨z_ins [385, 386, 387, 56, 388] (by decide +kernel) (by decide +kernel), rfl, by decide +kernel, by decide +kernel, by decide +kernel⟩
theorem zv_X2_72 : z_V RX2 72 RX2 yX2_takeTimes cX2_takeTimes 2 none 1 := ⟨z_ins [345, 346, 347, 50, 348] (by decide +kernel) (by decide +kernel), rfl, by decide +kernel, by decide +kernel, by decide +kernel⟩
theorem zf_X2_69 : z_F RX2 69 2 9 := ⟨RX2, TX2, rfl, by decide, z_lw (i := 262) (by decide +kernel) (by decide +kernel), inX2, rfl, tyX2_ok, nmX2, rfl⟩
theorem zv_X2_76 : z_V RX2 76 RX3 yX3_copyFrom cX3_copyFrom 2 none 1 := ⟨z_ins [349, 350, 351, 51, 352] (by decide +kernel) (by decide +kernel), rfl, by decide +kernel, by decide +kernel, by decide +kernel⟩
theorem zv_X2_80 : z_V RX2 80 RX4 yX4_copyFrom cX4_copyFrom 3 none 1 := ⟨z_ins [363, 364, 365, 54, 366] (by decide +kernel) (by decide +kernel), rfl, by decide +kernel, by decide +kernel, by decide +kernel⟩
theorem zv_X2_83 : z_V RX2 83 RX0 yX0_copyFrom cX0_copyFrom 2 none 1 := ⟨z_ins [367, 368, 369, 55, 370] (by decide +kernel) (by decide +kernel), rfl, by decide +kernel, by decide +kernel, by decide +kernel⟩
theorem zv_X2_86 : z_V RX2 86 RX2 yX2_logLength cX2_logLength 1 (some .int) 0 := ⟨z_ins [371, 372, 373, 50, 374] (by decide +kernel) (by decide +kernel), rfl, by decide +kernel, by decide +kernel, by decide +kernel⟩
theorem zv_X2_90 : z_V RX2 90 RX7 yX7_copyFrom cX7_copyFrom 5 none 2 := ⟨z_ins [376, 354, 355, 52, 356] (by decide +kernel) (by decide +kernel), rfl, by decide +kernel, by decide +kernel, by decide +kernel⟩
theorem zv_X2_93 : z_V RX2 93 RX2 yX2_copyStations cX2_copyStations 5 none 1 := ⟨z_ins [377, 379, 2, 50, 380] (by decide +kernel) (by decide +kernel), rfl, by decide +kernel, by decide +kernel, by decide +kernel⟩
theorem zv_X1_29 : z_V RX1 29 RX2 yX2_copyFrom cX2_copyFrom 2 none 1 := ⟨z_ins [341, 342, 343, 50, 344] (by decide +kernel) (by decide +kernel), rfl, by decide +kernel, by decide +kernel, by decide +kernel⟩
theorem zv_X1_22 : z_V RX1 22 RX1 yX1_dropOldest cX1_dropOldest 3 none 0 := ⟨z_ins [333, 335, 0, 57, 336] (by decide +kernel) (by decide +kernel), rfl, by decide +kernel, by decide +kernel, by decide +kernel⟩
theorem zv_X2_64 : z_V RX2 64 RX3 yX3_clear cX3_clear 1 none 0 := ⟨z_ins [418, 419, 420, 51, 421] (by decide +kernel) (by decide +kernel), rfl, by decide +kernel, by decide +kernel, by decide +kernel⟩
theorem zv_X2_67 : z_V RX2 67 RX4 yX4_clear cX4_clear 1 none 0 := ⟨z_ins [422, 423, 424, 54, 425] (by decide +kernel) (by decide +kernel), rfl, by decide +kernel, by decide +kernel, by decide +kernel⟩
theorem zv_X2_68 : z_V RX2 68 RX0 yX0_clear cX0_clear 1 none 0 := ⟨z_ins [426, 427, 428, 55, 429] (by decide +kernel) (by decide +kernel), rfl, by decide +kernel, by decide +kernel, by decide +kernel⟩
theorem zk_X2_103 : Cond.constant RX2 103 (900000 : Int32) ∈ zWS := z_lw (i := 765) (by decide +kernel) (by decide +kernel)
theorem zf_X2_104 : z_F RX2 104 6 0 := ⟨RX6, TX6, rfl, by decide, z_lw (i := 192) (by decide +kernel) (by decide +kernel), inX6, rfl, tyX6_ok, nmX6, rfl⟩
theorem zv_X2_107 : z_V RX2 107 RX6 yX6_reset cX6_reset 2 none 1 := ⟨z_ins [507, 508, 509, 56, 510] (by decide +kernel) (by decide +kernel), rfl, by decide +kernel, by decide +kernel, by decide +kernel⟩
theorem zf_X2_111 : z_F RX2 111 6 1 := ⟨RX6, TX6, rfl, by decide, z_lw (i := 198) (by decide +kernel) (by decide +kernel), inX6, rfl, tyX6_ok, nmX6, rfl⟩
theorem zf_X2_115 : z_F RX2 115 6 2 := ⟨RX6, TX6, rfl, by decide, z_lw (i := 201) (by decide +kernel) (by decide +kernel), inX6, rfl, tyX6_ok, nmX6, rfl⟩
theorem zf_X2_118 : z_F RX2 118 6 6 := ⟨RX6, TX6, rfl, by decide, z_lw (i := 214) (by decide +kernel) (by decide +kernel), inX6, rfl, tyX6_ok, nmX6, rfl⟩
theorem zv_X2_121 : z_V RX2 121 RX4 yX4_touch cX4_touch 4 (some .boolean) 2 := ⟨z_ins [801, 802, 803, 54, 804] (by decide +kernel) (by decide +kernel), rfl, by decide +kernel, by decide +kernel, by decide +kernel⟩
theorem zf_X2_125 : z_F RX2 125 0 2 := ⟨RX0, TX0, rfl, by decide, z_lw (i := 145) (by decide +kernel) (by decide +kernel), inX0, rfl, tyX0_ok, nmX0, rfl⟩
theorem zv_X2_131 : z_V RX2 131 RX7 yX7_put cX7_put 5 none 3 := ⟨z_ins [839, 521, 522, 52, 523] (by decide +kernel) (by decide +kernel), rfl, by decide +kernel, by decide +kernel, by decide +kernel⟩
theorem zv_X2_141 : z_V RX2 141 RX7 yX7_at cX7_at 4 (some .int) 2 := ⟨z_ins [587, 529, 530, 52, 531] (by decide +kernel) (by decide +kernel), rfl, by decide +kernel, by decide +kernel, by decide +kernel⟩
theorem zv_X2_144 : z_V RX2 144 RX2 yX2_ringSize cX2_ringSize 4 (some .int) 0 := ⟨z_ins [550, 551, 552, 50, 553] (by decide +kernel) (by decide +kernel), rfl, by decide +kernel, by decide +kernel, by decide +kernel⟩
theorem zf_X2_147 : z_F RX2 147 4 2 := ⟨RX4, TX4, rfl, by decide, z_lw (i := 125) (by decide +kernel) (by decide +kernel), inX4, rfl, tyX4_ok, nmX4, rfl⟩
theorem zv_X2_150 : z_V RX2 150 RX3 yX3_number cX3_number 1 (some .int) 0 := ⟨z_ins [554, 555, 556, 51, 557] (by decide +kernel) (by decide +kernel), rfl, by decide +kernel, by decide +kernel, by decide +kernel⟩
theorem zk_X9_282 : Cond.constantLong RX9 282 (31 : Int64) ∈ zWS := z_lw (i := 541) (by decide +kernel) (by decide +kernel)
theorem zv_X3_24 : z_V RX3 24 RX7 yX7_at cX7_at 4 (some .int) 2 := ⟨z_ins [528, 529, 530, 52, 531] (by decide +kernel) (by decide +kernel), rfl, by decide +kernel, by decide +kernel, by decide +kernel⟩
theorem zv_X2_156 : z_SN RX2 156 yX9_mixed "TokenBus" cX9_mixed 4 (some .long) 2 := ⟨by decide +kernel, z_ins [539, 49, 540] (by decide +kernel) (by decide +kernel), by decide +kernel, by decide +kernel, by decide +kernel⟩
theorem zf_X2_177 : z_F RX2 177 6 5 := ⟨RX6, TX6, rfl, by decide, z_lw (i := 209) (by decide +kernel) (by decide +kernel), inX6, rfl, tyX6_ok, nmX6, rfl⟩
theorem zv_X2_180 : z_V RX2 180 RX3 yX3_follower cX3_follower 2 (some .int) 1 := ⟨z_ins [567, 568, 569, 51, 570] (by decide +kernel) (by decide +kernel), rfl, by decide +kernel, by decide +kernel, by decide +kernel⟩
theorem zv_X2_176 : z_V RX2 176 RX6 yX6_value cX6_value 2 (some .int) 1 := ⟨z_ins [563, 564, 565, 56, 566] (by decide +kernel) (by decide +kernel), rfl, by decide +kernel, by decide +kernel, by decide +kernel⟩
theorem zv_X2_183 : z_V RX2 183 RX2 yX2_logValue cX2_logValue 4 (some .int) 2 := ⟨z_ins [583, 584, 585, 50, 586] (by decide +kernel) (by decide +kernel), rfl, by decide +kernel, by decide +kernel, by decide +kernel⟩
theorem zf_X2_169 : z_F RX2 169 0 7 := ⟨RX0, TX0, rfl, by decide, z_lw (i := 157) (by decide +kernel) (by decide +kernel), inX0, rfl, tyX0_ok, nmX0, rfl⟩
theorem zv_X2_172 : z_V RX2 172 RX2 yX2_withLog cX2_withLog 8 (some .long) 1 := ⟨z_ins [579, 581, 13, 50, 582] (by decide +kernel) (by decide +kernel), rfl, by decide +kernel, by decide +kernel, by decide +kernel⟩
theorem zv_X2_167 : z_V RX2 167 RX0 yX0_value cX0_value 2 (some .int) 1 := ⟨z_ins [575, 576, 577, 55, 578] (by decide +kernel) (by decide +kernel), rfl, by decide +kernel, by decide +kernel, by decide +kernel⟩
theorem zv_X2_164 : z_V RX2 164 RX3 yX3_value cX3_value 3 (some .int) 2 := ⟨z_ins [571, 572, 573, 51, 574] (by decide +kernel) (by decide +kernel), rfl, by decide +kernel, by decide +kernel, by decide +kernel⟩
theorem zv_X2_160 : z_V RX2 160 RX2 yX2_withStation cX2_withStation 8 (some .long) 2 := ⟨z_ins [559, 561, 12, 50, 562] (by decide +kernel) (by decide +kernel), rfl, by decide +kernel, by decide +kernel, by decide +kernel⟩
theorem zv_X2_152 : z_V RX2 152 RX2 yX2_settingValue cX2_settingValue 2 (some .int) 1 := ⟨z_ins [546, 547, 548, 50, 549] (by decide +kernel) (by decide +kernel), rfl, by decide +kernel, by decide +kernel, by decide +kernel⟩
theorem zv_X3_28 : z_V RX3 28 RX3 yX3_has cX3_has 2 (some .boolean) 1 := ⟨z_ins [789, 790, 791, 51, 792] (by decide +kernel) (by decide +kernel), rfl, by decide +kernel, by decide +kernel, by decide +kernel⟩
theorem zf_X3_49 : z_F RX3 49 6 5 := ⟨RX6, TX6, rfl, by decide, z_lw (i := 208) (by decide +kernel) (by decide +kernel), inX6, rfl, tyX6_ok, nmX6, rfl⟩
theorem zf_X3_52 : z_F RX3 52 6 6 := ⟨RX6, TX6, rfl, by decide, z_lw (i := 212) (by decide +kernel) (by decide +kernel), inX6, rfl, tyX6_ok, nmX6, rfl⟩
theorem zv_X3_36 : z_V RX3 36 RX7 yX7_put cX7_put 5 none 3 := ⟨z_ins [520, 521, 522, 52, 523] (by decide +kernel) (by decide +kernel), rfl, by decide +kernel, by decide +kernel, by decide +kernel⟩
theorem zf_X3_40 : z_F RX3 40 6 0 := ⟨RX6, TX6, rfl, by decide, z_lw (i := 193) (by decide +kernel) (by decide +kernel), inX6, rfl, tyX6_ok, nmX6, rfl⟩
theorem zv_X3_45 : z_V RX3 45 RX3 yX3_enqueue cX3_enqueue 7 none 3 := ⟨z_ins [524, 526, 11, 51, 527] (by decide +kernel) (by decide +kernel), rfl, by decide +kernel, by decide +kernel, by decide +kernel⟩
theorem zv_X3_55 : z_V RX3 55 RX3 yX3_follower cX3_follower 2 (some .int) 1 := ⟨z_ins [895, 568, 569, 51, 570] (by decide +kernel) (by decide +kernel), rfl, by decide +kernel, by decide +kernel, by decide +kernel⟩
theorem zoi_X5_3 : Cond.methodLink RX5 3 Lib.objectInit ∈ zWS := z_lw (i := 436) (by decide +kernel) (by decide +kernel)
theorem zf_X5_9 : z_F RX5 9 5 5 := ⟨RX5, TX5, rfl, by decide, z_lw (i := 442) (by decide +kernel) (by decide +kernel), inX5, rfl, tyX5_ok, nmX5, rfl⟩
theorem zf_X5_15 : z_FF RX5 15 5 0 := ⟨RX5, TX5, rfl, by decide, z_lw (i := 437) (by decide +kernel) (by decide +kernel), inX5, rfl, tyX5_ok, nmX5, rfl⟩
theorem zf_X5_19 : z_FF RX5 19 5 1 := ⟨RX5, TX5, rfl, by decide, z_lw (i := 438) (by decide +kernel) (by decide +kernel), inX5, rfl, tyX5_ok, nmX5, rfl⟩
theorem zf_X5_22 : z_FF RX5 22 5 2 := ⟨RX5, TX5, rfl, by decide, z_lw (i := 439) (by decide +kernel) (by decide +kernel), inX5, rfl, tyX5_ok, nmX5, rfl⟩
theorem zf_X5_26 : z_F RX5 26 5 3 := ⟨RX5, TX5, rfl, by decide, z_lw (i := 440) (by decide +kernel) (by decide +kernel), inX5, rfl, tyX5_ok, nmX5, rfl⟩
theorem zv_X5_33 : z_V RX5 33 RX5 yX5_sign cX5_sign 1 (some .int) 0 := ⟨z_ins [465, 467, 4, 68, 468] (by decide +kernel) (by decide +kernel), rfl, by decide +kernel, by decide +kernel, by decide +kernel⟩
theorem zv_X5_76 : z_V RX5 76 RX5 yX5_digit cX5_digit 2 (some .int) 0 := ⟨z_ins [481, 483, 7, 68, 484] (by decide +kernel) (by decide +kernel), rfl, by decide +kernel, by decide +kernel, by decide +kernel⟩
theorem zv_X5_52 : z_V RX5 52 RX5 yX5_failsAt cX5_failsAt 2 (some .boolean) 1 := ⟨z_ins [485, 487, 8, 68, 488] (by decide +kernel) (by decide +kernel), rfl, by decide +kernel, by decide +kernel, by decide +kernel⟩
theorem zv_X9_80 : z_SS RX9 80 yX9_isWithin cX9_isWithin 3 (some .boolean) 3 := ⟨z_ins [492, 493, 49, 494] (by decide +kernel) (by decide +kernel), by decide +kernel, by decide +kernel, by decide +kernel⟩
theorem zv_X5_56 : z_V RX5 56 RX5 yX5_readNumber cX5_readNumber 3 (some .int) 0 := ⟨z_ins [477, 479, 6, 68, 480] (by decide +kernel) (by decide +kernel), rfl, by decide +kernel, by decide +kernel, by decide +kernel⟩
theorem zv_X5_59 : z_SN RX5 59 yX9_isAddress "TokenBus" cX9_isAddress 1 (some .boolean) 1 := ⟨by decide +kernel, z_ins [490, 49, 491] (by decide +kernel) (by decide +kernel), by decide +kernel, by decide +kernel, by decide +kernel⟩
theorem zv_X5_62 : z_V RX5 62 RX2 yX2_stationWith cX2_stationWith 4 (some (.object "TokenBus$Station")) 1 := ⟨z_ins [495, 496, 497, 50, 498] (by decide +kernel) (by decide +kernel), rfl, by decide +kernel, by decide +kernel, by decide +kernel⟩
theorem zv_X5_66 : z_V RX5 66 RX5 yX5_skips cX5_skips 2 (some .boolean) 1 := ⟨z_ins [499, 501, 9, 68, 502] (by decide +kernel) (by decide +kernel), rfl, by decide +kernel, by decide +kernel, by decide +kernel⟩
theorem zv_X5_69 : z_V RX5 69 RX2 yX2_placeStation cX2_placeStation 5 (some (.object "TokenBus$Station")) 1 := ⟨z_ins [503, 504, 505, 50, 506] (by decide +kernel) (by decide +kernel), rfl, by decide +kernel, by decide +kernel, by decide +kernel⟩
theorem zf_X5_45 : z_F RX5 45 5 4 := ⟨RX5, TX5, rfl, by decide, z_lw (i := 441) (by decide +kernel) (by decide +kernel), inX5, rfl, tyX5_ok, nmX5, rfl⟩
theorem zv_X5_72 : z_SN RX5 72 yX9_isWithin "TokenBus" cX9_isWithin 3 (some .boolean) 3 := ⟨by decide +kernel, z_ins [493, 49, 494] (by decide +kernel) (by decide +kernel), by decide +kernel, by decide +kernel, by decide +kernel⟩
theorem zf_X5_79 : z_FF RX5 79 2 1 := ⟨RX2, TX2, rfl, by decide, z_lw (i := 241) (by decide +kernel) (by decide +kernel), inX2, rfl, tyX2_ok, nmX2, rfl⟩
theorem zf_X5_83 : z_F RX5 83 2 9 := ⟨RX2, TX2, rfl, by decide, z_lw (i := 264) (by decide +kernel) (by decide +kernel), inX2, rfl, tyX2_ok, nmX2, rfl⟩
theorem zv_X5_86 : z_V RX5 86 RX3 yX3_add cX3_add 6 (some .int) 4 := ⟨z_ins [516, 517, 518, 51, 519] (by decide +kernel) (by decide +kernel), rfl, by decide +kernel, by decide +kernel, by decide +kernel⟩
theorem zv_X5_49 : z_V RX5 49 RX5 yX5_readMessage cX5_readMessage 4 (some .boolean) 0 := ⟨z_ins [511, 513, 10, 68, 514] (by decide +kernel) (by decide +kernel), rfl, by decide +kernel, by decide +kernel, by decide +kernel⟩
theorem zv_X5_37 : z_V RX5 37 RX2 yX2_isFull cX2_isFull 1 (some .boolean) 0 := ⟨z_ins [469, 470, 471, 50, 472] (by decide +kernel) (by decide +kernel), rfl, by decide +kernel, by decide +kernel, by decide +kernel⟩
theorem zv_X5_42 : z_V RX5 42 RX5 yX5_readStation cX5_readStation 3 (some .boolean) 0 := ⟨z_ins [473, 475, 5, 68, 476] (by decide +kernel) (by decide +kernel), rfl, by decide +kernel, by decide +kernel, by decide +kernel⟩
theorem zv_X5_29 : z_V RX5 29 RX5 yX5_readItem cX5_readItem 2 (some .boolean) 0 := ⟨z_ins [461, 463, 3, 68, 464] (by decide +kernel) (by decide +kernel), rfl, by decide +kernel, by decide +kernel, by decide +kernel⟩
theorem zf_X8_85 : z_F RX8 85 2 5 := ⟨RX2, TX2, rfl, by decide, z_lw (i := 251) (by decide +kernel) (by decide +kernel), inX2, rfl, tyX2_ok, nmX2, rfl⟩
theorem zv_X8_88 : z_V RX8 88 RX2 yX2_stationIn cX2_stationIn 2 (some (.object "TokenBus$Station")) 1 := ⟨z_ins [777, 382, 383, 50, 384] (by decide +kernel) (by decide +kernel), rfl, by decide +kernel, by decide +kernel, by decide +kernel⟩
theorem zf_X8_91 : z_F RX8 91 6 1 := ⟨RX6, TX6, rfl, by decide, z_lw (i := 197) (by decide +kernel) (by decide +kernel), inX6, rfl, tyX6_ok, nmX6, rfl⟩
theorem zf_X8_69 : z_F RX8 69 6 2 := ⟨RX6, TX6, rfl, by decide, z_lw (i := 200) (by decide +kernel) (by decide +kernel), inX6, rfl, tyX6_ok, nmX6, rfl⟩
theorem zv_X8_62 : z_SS RX8 62 yX8_lowest cX8_lowest 4 (some (.object "TokenBus$Station")) 2 := ⟨z_ins [774, 775, 66, 776] (by decide +kernel) (by decide +kernel), by decide +kernel, by decide +kernel, by decide +kernel⟩
theorem zf_X8_25 : z_F RX8 25 2 9 := ⟨RX2, TX2, rfl, by decide, z_lw (i := 261) (by decide +kernel) (by decide +kernel), inX2, rfl, tyX2_ok, nmX2, rfl⟩
theorem zf_X8_66 : z_F RX8 66 2 7 := ⟨RX2, TX2, rfl, by decide, z_lw (i := 256) (by decide +kernel) (by decide +kernel), inX2, rfl, tyX2_ok, nmX2, rfl⟩
theorem zf_X8_53 : z_F RX8 53 6 0 := ⟨RX6, TX6, rfl, by decide, z_lw (i := 191) (by decide +kernel) (by decide +kernel), inX6, rfl, tyX6_ok, nmX6, rfl⟩
theorem zf_X8_9 : z_F RX8 9 2 10 := ⟨RX2, TX2, rfl, by decide, z_lw (i := 266) (by decide +kernel) (by decide +kernel), inX2, rfl, tyX2_ok, nmX2, rfl⟩
theorem zf_X8_76 : z_FF RX8 76 2 3 := ⟨RX2, TX2, rfl, by decide, z_lw (i := 246) (by decide +kernel) (by decide +kernel), inX2, rfl, tyX2_ok, nmX2, rfl⟩
theorem zf_X8_80 : z_F RX8 80 0 3 := ⟨RX0, TX0, rfl, by decide, z_lw (i := 147) (by decide +kernel) (by decide +kernel), inX0, rfl, tyX0_ok, nmX0, rfl⟩
theorem zf_X8_73 : z_F RX8 73 6 3 := ⟨RX6, TX6, rfl, by decide, z_lw (i := 203) (by decide +kernel) (by decide +kernel), inX6, rfl, tyX6_ok, nmX6, rfl⟩
theorem zf_X8_94 : z_F RX8 94 6 8 := ⟨RX6, TX6, rfl, by decide, z_lw (i := 218) (by decide +kernel) (by decide +kernel), inX6, rfl, tyX6_ok, nmX6, rfl⟩
theorem zf_X8_97 : z_F RX8 97 6 7 := ⟨RX6, TX6, rfl, by decide, z_lw (i := 216) (by decide +kernel) (by decide +kernel), inX6, rfl, tyX6_ok, nmX6, rfl⟩
theorem zf_X8_100 : z_F RX8 100 0 0 := ⟨RX0, TX0, rfl, by decide, z_lw (i := 140) (by decide +kernel) (by decide +kernel), inX0, rfl, tyX0_ok, nmX0, rfl⟩
theorem zf_X8_101 : z_F RX8 101 0 7 := ⟨RX0, TX0, rfl, by decide, z_lw (i := 155) (by decide +kernel) (by decide +kernel), inX0, rfl, tyX0_ok, nmX0, rfl⟩
theorem zmm_X8_104 : z_MM RX8 104 Lib.Math.max.name Lib.Math.max.code := ⟨z_lw (i := 781) (by decide +kernel) (by decide +kernel), z_lw (i := 98) (by decide +kernel) (by decide +kernel), z_lw (i := 53) (by decide +kernel) (by decide +kernel), z_lw (i := 99) (by decide +kernel) (by decide +kernel)⟩
theorem zf_X8_110 : z_FF RX8 110 2 1 := ⟨RX2, TX2, rfl, by decide, z_lw (i := 242) (by decide +kernel) (by decide +kernel), inX2, rfl, tyX2_ok, nmX2, rfl⟩
theorem zf_X8_114 : z_F RX8 114 6 5 := ⟨RX6, TX6, rfl, by decide, z_lw (i := 207) (by decide +kernel) (by decide +kernel), inX6, rfl, tyX6_ok, nmX6, rfl⟩
theorem zv_X8_129 : z_V RX8 129 RX3 yX3_value cX3_value 3 (some .int) 2 := ⟨z_ins [796, 572, 573, 51, 574] (by decide +kernel) (by decide +kernel), rfl, by decide +kernel, by decide +kernel, by decide +kernel⟩
theorem zv_X8_132 : z_V RX8 132 RX2 yX2_transmit cX2_transmit 3 (some .boolean) 1 := ⟨z_ins [797, 798, 799, 50, 800] (by decide +kernel) (by decide +kernel), rfl, by decide +kernel, by decide +kernel, by decide +kernel⟩
theorem zv_X8_135 : z_V RX8 135 RX3 yX3_takeFirst cX3_takeFirst 5 (some .int) 2 := ⟨z_ins [805, 806, 807, 51, 808] (by decide +kernel) (by decide +kernel), rfl, by decide +kernel, by decide +kernel, by decide +kernel⟩
theorem zv_X8_139 : z_V RX8 139 RX0 yX0_addSent cX0_addSent 3 none 2 := ⟨z_ins [809, 810, 811, 55, 812] (by decide +kernel) (by decide +kernel), rfl, by decide +kernel, by decide +kernel, by decide +kernel⟩
theorem zv_X8_117 : z_V RX8 117 RX3 yX3_isUrgent cX3_isUrgent 2 (some .boolean) 1 := ⟨z_ins [785, 786, 787, 51, 788] (by decide +kernel) (by decide +kernel), rfl, by decide +kernel, by decide +kernel, by decide +kernel⟩
theorem zf_X8_123 : z_F RX8 123 6 6 := ⟨RX6, TX6, rfl, by decide, z_lw (i := 211) (by decide +kernel) (by decide +kernel), inX6, rfl, tyX6_ok, nmX6, rfl⟩
theorem zv_X8_126 : z_SS RX8 126 yX8_sendFirst cX8_sendFirst 4 (some .boolean) 2 := ⟨z_ins [793, 794, 66, 795] (by decide +kernel) (by decide +kernel), by decide +kernel, by decide +kernel, by decide +kernel⟩
theorem zf_X8_146 : z_F RX8 146 6 4 := ⟨RX6, TX6, rfl, by decide, z_lw (i := 205) (by decide +kernel) (by decide +kernel), inX6, rfl, tyX6_ok, nmX6, rfl⟩
theorem zf_X8_156 : z_F RX8 156 0 4 := ⟨RX0, TX0, rfl, by decide, z_lw (i := 149) (by decide +kernel) (by decide +kernel), inX0, rfl, tyX0_ok, nmX0, rfl⟩
theorem zv_X8_15 : z_V RX8 15 RX2 yX2_stationWith cX2_stationWith 4 (some (.object "TokenBus$Station")) 1 := ⟨z_ins [770, 496, 497, 50, 498] (by decide +kernel) (by decide +kernel), rfl, by decide +kernel, by decide +kernel, by decide +kernel⟩
theorem zf_X8_143 : z_F RX8 143 2 8 := ⟨RX2, TX2, rfl, by decide, z_lw (i := 260) (by decide +kernel) (by decide +kernel), inX2, rfl, tyX2_ok, nmX2, rfl⟩
theorem zv_X8_149 : z_SN RX8 149 yX9_addressBehind "TokenBus" cX9_addressBehind 1 (some .int) 1 := ⟨by decide +kernel, z_ins [818, 49, 819] (by decide +kernel) (by decide +kernel), by decide +kernel, by decide +kernel, by decide +kernel⟩
theorem zv_X8_153 : z_SS RX8 153 yX8_comesIn cX8_comesIn 3 (some .boolean) 2 := ⟨z_ins [820, 821, 66, 822] (by decide +kernel) (by decide +kernel), by decide +kernel, by decide +kernel, by decide +kernel⟩
theorem zv_X8_159 : z_SS RX8 159 yX8_reaches cX8_reaches 3 (some .boolean) 2 := ⟨z_ins [826, 827, 66, 828] (by decide +kernel) (by decide +kernel), by decide +kernel, by decide +kernel, by decide +kernel⟩
theorem zf_X8_163 : z_F RX8 163 0 5 := ⟨RX0, TX0, rfl, by decide, z_lw (i := 151) (by decide +kernel) (by decide +kernel), inX0, rfl, tyX0_ok, nmX0, rfl⟩
theorem zv_X8_19 : z_SS RX8 19 yX8_makeAnew cX8_makeAnew 2 (some (.object "TokenBus$Station")) 1 := ⟨z_ins [771, 772, 66, 773] (by decide +kernel) (by decide +kernel), by decide +kernel, by decide +kernel, by decide +kernel⟩
theorem zv_X8_28 : z_SS RX8 28 yX8_beginVisit cX8_beginVisit 3 (some .int) 2 := ⟨z_ins [778, 779, 66, 780] (by decide +kernel) (by decide +kernel), by decide +kernel, by decide +kernel, by decide +kernel⟩
theorem zf_X8_32 : z_F RX8 32 2 6 := ⟨RX2, TX2, rfl, by decide, z_lw (i := 253) (by decide +kernel) (by decide +kernel), inX2, rfl, tyX2_ok, nmX2, rfl⟩
theorem zv_X8_35 : z_SS RX8 35 yX8_sendMessages cX8_sendMessages 6 (some .int) 3 := ⟨z_ins [782, 783, 66, 784] (by decide +kernel) (by decide +kernel), by decide +kernel, by decide +kernel, by decide +kernel⟩
theorem zv_X8_39 : z_SS RX8 39 yX8_pollGap cX8_pollGap 5 none 2 := ⟨z_ins [814, 815, 66, 816] (by decide +kernel) (by decide +kernel), by decide +kernel, by decide +kernel, by decide +kernel⟩
theorem zv_X8_43 : z_SS RX8 43 yX8_passToNext cX8_passToNext 3 (some .boolean) 2 := ⟨z_ins [823, 824, 66, 825] (by decide +kernel) (by decide +kernel), by decide +kernel, by decide +kernel, by decide +kernel⟩
theorem zv_X8_58 : z_V RX8 58 RX2 yX2_logVisit cX2_logVisit 6 none 4 := ⟨z_ins [835, 836, 837, 50, 838] (by decide +kernel) (by decide +kernel), rfl, by decide +kernel, by decide +kernel, by decide +kernel⟩
theorem zv_X8_47 : z_SS RX8 47 yX8_dropSilent cX8_dropSilent 3 none 2 := ⟨z_ins [829, 830, 66, 831] (by decide +kernel) (by decide +kernel), by decide +kernel, by decide +kernel, by decide +kernel⟩
theorem zv_X8_50 : z_SS RX8 50 yX8_askOthers cX8_askOthers 4 none 2 := ⟨z_ins [832, 833, 66, 834] (by decide +kernel) (by decide +kernel), by decide +kernel, by decide +kernel, by decide +kernel⟩
theorem zoi_X9_1 : Cond.methodLink RX9 1 Lib.objectInit ∈ zWS := z_lw (i := 74) (by decide +kernel) (by decide +kernel)
theorem zw_X9_7 : z_NW RX9 7 2 := ⟨RX2, TX2, rfl, tyX2_ok, inX2, z_lw (i := 77) (by decide +kernel) (by decide +kernel), z_lw (i := 78) (by decide +kernel) (by decide +kernel), z_lw (i := 50) (by decide +kernel) (by decide +kernel), by decide +kernel⟩
theorem zv_X9_9 : z_II RX9 9 yX2_init cX2_init 2 0 := ⟨z_ins [79, 80, 50, 81] (by decide +kernel) (by decide +kernel), rfl, by decide +kernel, by decide +kernel, by decide +kernel⟩
theorem zf_X9_10 : z_FF RX9 10 8 0 := ⟨RX9, TX9, rfl, by decide, z_lw (i := 308) (by decide +kernel) (by decide +kernel), inX9, rfl, tyX9_ok, nmX9, rfl⟩
theorem zf_X9_16 : z_FF RX9 16 8 1 := ⟨RX9, TX9, rfl, by decide, z_lw (i := 309) (by decide +kernel) (by decide +kernel), inX9, rfl, tyX9_ok, nmX9, rfl⟩
theorem zw_X9_19 : z_NW RX9 19 1 := ⟨RX1, TX1, rfl, tyX1_ok, inX1, z_lw (i := 291) (by decide +kernel) (by decide +kernel), z_lw (i := 292) (by decide +kernel) (by decide +kernel), z_lw (i := 57) (by decide +kernel) (by decide +kernel), by decide +kernel⟩
theorem zv_X9_21 : z_II RX9 21 yX1_init cX1_init 2 0 := ⟨z_ins [293, 294, 57, 295] (by decide +kernel) (by decide +kernel), rfl, by decide +kernel, by decide +kernel, by decide +kernel⟩
theorem zf_X9_22 : z_FF RX9 22 8 2 := ⟨RX9, TX9, rfl, by decide, z_lw (i := 310) (by decide +kernel) (by decide +kernel), inX9, rfl, tyX9_ok, nmX9, rfl⟩
theorem zac_byte : Cond.arrayClass (newarray.typeOf .byte) ∈ zWS := z_lw (i := 324) (by decide +kernel) (by decide +kernel)
theorem zf_X9_26 : z_FF RX9 26 8 3 := ⟨RX9, TX9, rfl, by decide, z_lw (i := 311) (by decide +kernel) (by decide +kernel), inX9, rfl, tyX9_ok, nmX9, rfl⟩
theorem zv_X9_30 : z_SS RX9 30 yX9_isAddress cX9_isAddress 1 (some .boolean) 1 := ⟨z_ins [597, 490, 49, 491] (by decide +kernel) (by decide +kernel), by decide +kernel, by decide +kernel, by decide +kernel⟩
theorem zv_X9_41 : z_V RX9 41 RX2 yX2_stationWith cX2_stationWith 4 (some (.object "TokenBus$Station")) 1 := ⟨z_ins [666, 496, 497, 50, 498] (by decide +kernel) (by decide +kernel), rfl, by decide +kernel, by decide +kernel, by decide +kernel⟩
theorem zv_X9_45 : z_V RX9 45 RX2 yX2_isFull cX2_isFull 1 (some .boolean) 0 := ⟨z_ins [667, 470, 471, 50, 472] (by decide +kernel) (by decide +kernel), rfl, by decide +kernel, by decide +kernel, by decide +kernel⟩
theorem zv_X9_54 : z_V RX9 54 RX1 yX1_save cX1_save 3 none 1 := ⟨z_ins [329, 330, 331, 57, 332] (by decide +kernel) (by decide +kernel), rfl, by decide +kernel, by decide +kernel, by decide +kernel⟩
theorem zv_X9_58 : z_V RX9 58 RX2 yX2_placeStation cX2_placeStation 5 (some (.object "TokenBus$Station")) 1 := ⟨z_ins [684, 504, 505, 50, 506] (by decide +kernel) (by decide +kernel), rfl, by decide +kernel, by decide +kernel, by decide +kernel⟩
theorem zf_X9_61 : z_F RX9 61 2 5 := ⟨RX2, TX2, rfl, by decide, z_lw (i := 250) (by decide +kernel) (by decide +kernel), inX2, rfl, tyX2_ok, nmX2, rfl⟩
theorem zf_X9_70 : z_F RX9 70 6 1 := ⟨RX6, TX6, rfl, by decide, z_lw (i := 196) (by decide +kernel) (by decide +kernel), inX6, rfl, tyX6_ok, nmX6, rfl⟩
theorem zv_X9_76 : z_V RX9 76 RX2 yX2_switchStation cX2_switchStation 3 none 2 := ⟨z_ins [709, 710, 711, 50, 712] (by decide +kernel) (by decide +kernel), rfl, by decide +kernel, by decide +kernel, by decide +kernel⟩
theorem zf_X9_86 : z_F RX9 86 2 6 := ⟨RX2, TX2, rfl, by decide, z_lw (i := 254) (by decide +kernel) (by decide +kernel), inX2, rfl, tyX2_ok, nmX2, rfl⟩
theorem zf_X9_89 : z_F RX9 89 2 7 := ⟨RX2, TX2, rfl, by decide, z_lw (i := 257) (by decide +kernel) (by decide +kernel), inX2, rfl, tyX2_ok, nmX2, rfl⟩
theorem zf_X9_92 : z_F RX9 92 2 8 := ⟨RX2, TX2, rfl, by decide, z_lw (i := 259) (by decide +kernel) (by decide +kernel), inX2, rfl, tyX2_ok, nmX2, rfl⟩
theorem zf_X9_97 : z_FF RX9 97 2 1 := ⟨RX2, TX2, rfl, by decide, z_lw (i := 240) (by decide +kernel) (by decide +kernel), inX2, rfl, tyX2_ok, nmX2, rfl⟩
theorem zv_X9_101 : z_V RX9 101 RX3 yX3_isFull cX3_isFull 1 (some .boolean) 0 := ⟨z_ins [729, 730, 731, 51, 732] (by decide +kernel) (by decide +kernel), rfl, by decide +kernel, by decide +kernel, by decide +kernel⟩
theorem zf_X9_106 : z_F RX9 106 2 9 := ⟨RX2, TX2, rfl, by decide, z_lw (i := 263) (by decide +kernel) (by decide +kernel), inX2, rfl, tyX2_ok, nmX2, rfl⟩
theorem zv_X9_109 : z_V RX9 109 RX3 yX3_add cX3_add 6 (some .int) 4 := ⟨z_ins [734, 517, 518, 51, 519] (by decide +kernel) (by decide +kernel), rfl, by decide +kernel, by decide +kernel, by decide +kernel⟩
theorem zk_X9_113 : Cond.constant RX9 113 (1000000 : Int32) ∈ zWS := z_lw (i := 742) (by decide +kernel) (by decide +kernel)
theorem zf_X9_116 : z_FF RX9 116 2 2 := ⟨RX2, TX2, rfl, by decide, z_lw (i := 244) (by decide +kernel) (by decide +kernel), inX2, rfl, tyX2_ok, nmX2, rfl⟩
theorem zv_X9_120 : z_V RX9 120 RX4 yX4_isFull cX4_isFull 1 (some .boolean) 0 := ⟨z_ins [744, 745, 746, 54, 747] (by decide +kernel) (by decide +kernel), rfl, by decide +kernel, by decide +kernel, by decide +kernel⟩
theorem zv_X9_125 : z_V RX9 125 RX4 yX4_add cX4_add 3 none 2 := ⟨z_ins [749, 750, 751, 54, 752] (by decide +kernel) (by decide +kernel), rfl, by decide +kernel, by decide +kernel, by decide +kernel⟩
theorem zf_X9_128 : z_F RX9 128 4 2 := ⟨RX4, TX4, rfl, by decide, z_lw (i := 124) (by decide +kernel) (by decide +kernel), inX4, rfl, tyX4_ok, nmX4, rfl⟩
theorem zv_X9_133 : z_V RX9 133 RX2 yX2_isTooLate cX2_isTooLate 1 (some .boolean) 0 := ⟨z_ins [761, 762, 763, 50, 764] (by decide +kernel) (by decide +kernel), rfl, by decide +kernel, by decide +kernel, by decide +kernel⟩
theorem zv_X9_138 : z_SS RX9 138 yX8_makeVisit cX8_makeVisit 5 none 1 := ⟨z_ins [767, 768, 66, 769] (by decide +kernel) (by decide +kernel), by decide +kernel, by decide +kernel, by decide +kernel⟩
theorem zf_X9_143 : z_F RX9 143 2 10 := ⟨RX2, TX2, rfl, by decide, z_lw (i := 267) (by decide +kernel) (by decide +kernel), inX2, rfl, tyX2_ok, nmX2, rfl⟩
theorem zv_X9_148 : z_V RX9 148 RX2 yX2_settingValue cX2_settingValue 2 (some .int) 1 := ⟨z_ins [848, 547, 548, 50, 549] (by decide +kernel) (by decide +kernel), rfl, by decide +kernel, by decide +kernel, by decide +kernel⟩
theorem zv_X9_154 : z_V RX9 154 RX6 yX6_value cX6_value 2 (some .int) 1 := ⟨z_ins [857, 564, 565, 56, 566] (by decide +kernel) (by decide +kernel), rfl, by decide +kernel, by decide +kernel, by decide +kernel⟩
theorem zv_X9_157 : z_V RX9 157 RX2 yX2_stationIn cX2_stationIn 2 (some (.object "TokenBus$Station")) 1 := ⟨z_ins [866, 382, 383, 50, 384] (by decide +kernel) (by decide +kernel), rfl, by decide +kernel, by decide +kernel, by decide +kernel⟩
theorem zf_X9_165 : z_F RX9 165 6 0 := ⟨RX6, TX6, rfl, by decide, z_lw (i := 194) (by decide +kernel) (by decide +kernel), inX6, rfl, tyX6_ok, nmX6, rfl⟩
theorem zf_X9_168 : z_F RX9 168 6 6 := ⟨RX6, TX6, rfl, by decide, z_lw (i := 213) (by decide +kernel) (by decide +kernel), inX6, rfl, tyX6_ok, nmX6, rfl⟩
theorem zv_X9_173 : z_V RX9 173 RX3 yX3_inQueue cX3_inQueue 5 (some .int) 2 := ⟨z_ins [891, 892, 893, 51, 894] (by decide +kernel) (by decide +kernel), rfl, by decide +kernel, by decide +kernel, by decide +kernel⟩
theorem zv_X9_177 : z_V RX9 177 RX3 yX3_has cX3_has 2 (some .boolean) 1 := ⟨z_ins [903, 790, 791, 51, 792] (by decide +kernel) (by decide +kernel), rfl, by decide +kernel, by decide +kernel, by decide +kernel⟩
theorem zv_X9_184 : z_V RX9 184 RX3 yX3_value cX3_value 3 (some .int) 2 := ⟨z_ins [906, 572, 573, 51, 574] (by decide +kernel) (by decide +kernel), rfl, by decide +kernel, by decide +kernel, by decide +kernel⟩
theorem zf_X9_191 : z_FF RX9 191 2 3 := ⟨RX2, TX2, rfl, by decide, z_lw (i := 247) (by decide +kernel) (by decide +kernel), inX2, rfl, tyX2_ok, nmX2, rfl⟩
theorem zv_X9_195 : z_V RX9 195 RX0 yX0_value cX0_value 2 (some .int) 1 := ⟨z_ins [915, 576, 577, 55, 578] (by decide +kernel) (by decide +kernel), rfl, by decide +kernel, by decide +kernel, by decide +kernel⟩
theorem zv_X9_198 : z_V RX9 198 RX4 yX4_touch cX4_touch 4 (some .boolean) 2 := ⟨z_ins [924, 802, 803, 54, 804] (by decide +kernel) (by decide +kernel), rfl, by decide +kernel, by decide +kernel, by decide +kernel⟩
theorem zv_X9_202 : z_V RX9 202 RX2 yX2_logLength cX2_logLength 1 (some .int) 0 := ⟨z_ins [393, 372, 373, 50, 374] (by decide +kernel) (by decide +kernel), rfl, by decide +kernel, by decide +kernel, by decide +kernel⟩
theorem zv_X9_210 : z_V RX9 210 RX2 yX2_logValue cX2_logValue 4 (some .int) 2 := ⟨z_ins [934, 584, 585, 50, 586] (by decide +kernel) (by decide +kernel), rfl, by decide +kernel, by decide +kernel, by decide +kernel⟩
theorem zf_X9_213 : z_F RX9 213 0 7 := ⟨RX0, TX0, rfl, by decide, z_lw (i := 156) (by decide +kernel) (by decide +kernel), inX0, rfl, tyX0_ok, nmX0, rfl⟩
theorem zf_X9_216 : z_F RX9 216 0 1 := ⟨RX0, TX0, rfl, by decide, z_lw (i := 143) (by decide +kernel) (by decide +kernel), inX0, rfl, tyX0_ok, nmX0, rfl⟩
theorem zf_X9_222 : z_F RX9 222 0 9 := ⟨RX0, TX0, rfl, by decide, z_lw (i := 161) (by decide +kernel) (by decide +kernel), inX0, rfl, tyX0_ok, nmX0, rfl⟩
theorem zf_X9_219 : z_F RX9 219 0 8 := ⟨RX0, TX0, rfl, by decide, z_lw (i := 159) (by decide +kernel) (by decide +kernel), inX0, rfl, tyX0_ok, nmX0, rfl⟩
theorem zf_X9_226 : z_F RX9 226 0 6 := ⟨RX0, TX0, rfl, by decide, z_lw (i := 153) (by decide +kernel) (by decide +kernel), inX0, rfl, tyX0_ok, nmX0, rfl⟩
theorem zv_X9_231 : z_V RX9 231 RX2 yX2_copyFrom cX2_copyFrom 2 none 1 := ⟨z_ins [532, 342, 343, 50, 344] (by decide +kernel) (by decide +kernel), rfl, by decide +kernel, by decide +kernel, by decide +kernel⟩
theorem zv_X9_234 : z_V RX9 234 RX2 yX2_isComplete cX2_isComplete 3 (some .boolean) 0 := ⟨z_ins [950, 951, 952, 50, 953] (by decide +kernel) (by decide +kernel), rfl, by decide +kernel, by decide +kernel, by decide +kernel⟩
theorem zv_X9_284 : z_V RX9 284 RX2 yX2_isWaitedAt cX2_isWaitedAt 3 (some .boolean) 0 := ⟨z_ins [965, 966, 967, 50, 968] (by decide +kernel) (by decide +kernel), rfl, by decide +kernel, by decide +kernel, by decide +kernel⟩
theorem zv_X9_237 : z_V RX9 237 RX9 yX9_sendsAll cX9_sendsAll 4 (some .boolean) 2 := ⟨z_ins [961, 963, 15, 49, 964] (by decide +kernel) (by decide +kernel), rfl, by decide +kernel, by decide +kernel, by decide +kernel⟩
theorem zf_X9_242 : z_F RX9 242 8 4 := ⟨RX9, TX9, rfl, by decide, z_lw (i := 312) (by decide +kernel) (by decide +kernel), inX9, rfl, tyX9_ok, nmX9, rfl⟩
theorem zv_X9_247 : z_V RX9 247 RX2 yX2_clear cX2_clear 1 none 0 := ⟨z_ins [414, 415, 416, 50, 417] (by decide +kernel) (by decide +kernel), rfl, by decide +kernel, by decide +kernel, by decide +kernel⟩
theorem zv_X9_250 : z_V RX9 250 RX2 yX2_takeTimes cX2_takeTimes 2 none 1 := ⟨z_ins [430, 346, 347, 50, 348] (by decide +kernel) (by decide +kernel), rfl, by decide +kernel, by decide +kernel, by decide +kernel⟩
theorem zw_X9_253 : z_NW RX9 253 5 := ⟨RX5, TX5, rfl, tyX5_ok, inX5, z_lw (i := 431) (by decide +kernel) (by decide +kernel), z_lw (i := 432) (by decide +kernel) (by decide +kernel), z_lw (i := 68) (by decide +kernel) (by decide +kernel), by decide +kernel⟩
theorem zv_X9_255 : z_II RX9 255 yX5_init cX5_init 4 3 := ⟨z_ins [433, 434, 68, 435] (by decide +kernel) (by decide +kernel), rfl, by decide +kernel, by decide +kernel, by decide +kernel⟩
theorem zv_X9_258 : z_V RX9 258 RX5 yX5_readItems cX5_readItems 2 (some .int) 0 := ⟨z_ins [457, 458, 459, 68, 460] (by decide +kernel) (by decide +kernel), rfl, by decide +kernel, by decide +kernel, by decide +kernel⟩
theorem zf_X9_261 : z_F RX9 261 5 5 := ⟨RX5, TX5, rfl, by decide, z_lw (i := 443) (by decide +kernel) (by decide +kernel), inX5, rfl, tyX5_ok, nmX5, rfl⟩
theorem zf_X9_264 : z_F RX9 264 1 1 := ⟨RX1, TX1, rfl, by decide, z_lw (i := 302) (by decide +kernel) (by decide +kernel), inX1, rfl, tyX1_ok, nmX1, rfl⟩
theorem zv_X9_269 : z_V RX9 269 RX1 yX1_restore cX1_restore 3 none 1 := ⟨z_ins [986, 987, 988, 57, 989] (by decide +kernel) (by decide +kernel), rfl, by decide +kernel, by decide +kernel, by decide +kernel⟩
theorem zk_X9_272 : Cond.constantLong RX9 272 (3169 : Int64) ∈ zWS := z_lw (i := 537) (by decide +kernel) (by decide +kernel)
theorem zv_X9_274 : z_SS RX9 274 yX9_mixed cX9_mixed 4 (some .long) 2 := ⟨z_ins [538, 539, 49, 540] (by decide +kernel) (by decide +kernel), by decide +kernel, by decide +kernel, by decide +kernel⟩
theorem zv_X9_278 : z_V RX9 278 RX2 yX2_hashed cX2_hashed 7 (some .long) 1 := ⟨z_ins [542, 543, 544, 50, 545] (by decide +kernel) (by decide +kernel), rfl, by decide +kernel, by decide +kernel, by decide +kernel⟩
theorem zoi_X10_1 : Cond.methodLink RX10 1 Lib.objectInit ∈ zWS := z_lw (i := 995) (by decide +kernel) (by decide +kernel)
theorem zf_X10_7 : z_FF RX10 7 9 0 := ⟨RX10, TX10, rfl, by decide, z_lw (i := 996) (by decide +kernel) (by decide +kernel), inX10, rfl, tyX10_ok, nmX10, rfl⟩
theorem zf_X10_13 : z_FF RX10 13 9 1 := ⟨RX10, TX10, rfl, by decide, z_lw (i := 997) (by decide +kernel) (by decide +kernel), inX10, rfl, tyX10_ok, nmX10, rfl⟩
theorem zf_X10_16 : z_FF RX10 16 9 2 := ⟨RX10, TX10, rfl, by decide, z_lw (i := 998) (by decide +kernel) (by decide +kernel), inX10, rfl, tyX10_ok, nmX10, rfl⟩
theorem zf_X10_19 : z_FF RX10 19 9 5 := ⟨RX10, TX10, rfl, by decide, z_lw (i := 1001) (by decide +kernel) (by decide +kernel), inX10, rfl, tyX10_ok, nmX10, rfl⟩
theorem zf_X10_22 : z_F RX10 22 9 4 := ⟨RX10, TX10, rfl, by decide, z_lw (i := 1000) (by decide +kernel) (by decide +kernel), inX10, rfl, tyX10_ok, nmX10, rfl⟩
theorem zf_X10_26 : z_F RX10 26 9 3 := ⟨RX10, TX10, rfl, by decide, z_lw (i := 999) (by decide +kernel) (by decide +kernel), inX10, rfl, tyX10_ok, nmX10, rfl⟩
theorem zv_X10_29 : z_SS RX10 29 yX10_at cX10_at 2 (some .int) 2 := ⟨z_ins [1047, 1048, 58, 1049] (by decide +kernel) (by decide +kernel), by decide +kernel, by decide +kernel, by decide +kernel⟩
theorem zk_X10_33 : Cond.constantLong RX10 33 (31 : Int64) ∈ zWS := z_lw (i := 1035) (by decide +kernel) (by decide +kernel)
theorem zv_X10_35 : z_SS RX10 35 yX10_in cX10_in 6 (some .boolean) 3 := ⟨z_ins [1036, 1037, 58, 1038] (by decide +kernel) (by decide +kernel), by decide +kernel, by decide +kernel, by decide +kernel⟩
theorem zv_X10_39 : z_V RX10 39 RX10 yX10_of cX10_of 3 (some .int) 2 := ⟨z_ins [1043, 1045, 17, 58, 1046] (by decide +kernel) (by decide +kernel), rfl, by decide +kernel, by decide +kernel, by decide +kernel⟩
theorem zv_X10_42 : z_SS RX10 42 yX10_inMessage cX10_inMessage 2 (some .int) 2 := ⟨z_ins [1085, 1086, 58, 1087] (by decide +kernel) (by decide +kernel), by decide +kernel, by decide +kernel, by decide +kernel⟩
theorem zv_X10_53 : z_V RX10 53 RX10 yX10_goes cX10_goes 4 (some .boolean) 3 := ⟨z_ins [1054, 1056, 19, 58, 1057] (by decide +kernel) (by decide +kernel), rfl, by decide +kernel, by decide +kernel, by decide +kernel⟩
theorem zv_X10_57 : z_V RX10 57 RX10 yX10_save cX10_save 2 none 0 := ⟨z_ins [1058, 1060, 20, 58, 1061] (by decide +kernel) (by decide +kernel), rfl, by decide +kernel, by decide +kernel, by decide +kernel⟩
theorem zv_X10_60 : z_V RX10 60 RX10 yX10_adds cX10_adds 2 none 1 := ⟨z_ins [1062, 1064, 21, 58, 1065] (by decide +kernel) (by decide +kernel), rfl, by decide +kernel, by decide +kernel, by decide +kernel⟩
theorem zv_X10_49 : z_V RX10 49 RX10 yX10_stations cX10_stations 3 (some .int) 0 := ⟨z_ins [1050, 1052, 18, 58, 1053] (by decide +kernel) (by decide +kernel), rfl, by decide +kernel, by decide +kernel, by decide +kernel⟩
theorem zv_X10_45 : z_V RX10 45 RX10 yX10_isStation cX10_isStation 2 (some .boolean) 1 := ⟨z_ins [1039, 1041, 16, 58, 1042] (by decide +kernel) (by decide +kernel), rfl, by decide +kernel, by decide +kernel, by decide +kernel⟩
theorem zk_X10_64 : Cond.constantLong RX10 64 (500 : Int64) ∈ zWS := z_lw (i := 1074) (by decide +kernel) (by decide +kernel)
theorem zk_X10_66 : Cond.constantLong RX10 66 (20 : Int64) ∈ zWS := z_lw (i := 1075) (by decide +kernel) (by decide +kernel)
theorem zv_X10_70 : z_V RX10 70 RX10 yX10_gives cX10_gives 5 (some .int) 3 := ⟨z_ins [1081, 1083, 22, 58, 1084] (by decide +kernel) (by decide +kernel), rfl, by decide +kernel, by decide +kernel, by decide +kernel⟩
theorem zk_X10_68 : Cond.constantLong RX10 68 (9 : Int64) ∈ zWS := z_lw (i := 1080) (by decide +kernel) (by decide +kernel)
theorem zk_X10_74 : Cond.constantLong RX10 74 (1000000 : Int64) ∈ zWS := z_lw (i := 1092) (by decide +kernel) (by decide +kernel)
theorem zv_X10_76 : z_V RX10 76 RX10 yX10_isLoud cX10_isLoud 5 (some .boolean) 2 := ⟨z_ins [1131, 1133, 31, 58, 1134] (by decide +kernel) (by decide +kernel), rfl, by decide +kernel, by decide +kernel, by decide +kernel⟩
theorem zv_X10_80 : z_V RX10 80 RX10 yX10_ofMessage cX10_ofMessage 3 (some .int) 2 := ⟨z_ins [1119, 1121, 28, 58, 1122] (by decide +kernel) (by decide +kernel), rfl, by decide +kernel, by decide +kernel, by decide +kernel⟩
theorem zv_X10_83 : z_V RX10 83 RX10 yX10_isInRing cX10_isInRing 2 (some .boolean) 1 := ⟨z_ins [1107, 1109, 25, 58, 1110] (by decide +kernel) (by decide +kernel), rfl, by decide +kernel, by decide +kernel, by decide +kernel⟩
theorem zv_X10_86 : z_V RX10 86 RX10 yX10_nextOf cX10_nextOf 7 (some .int) 2 := ⟨z_ins [1115, 1117, 27, 58, 1118] (by decide +kernel) (by decide +kernel), rfl, by decide +kernel, by decide +kernel, by decide +kernel⟩
theorem zv_X10_89 : z_V RX10 89 RX10 yX10_takes cX10_takes 3 (some .boolean) 1 := ⟨z_ins [1127, 1129, 30, 58, 1130] (by decide +kernel) (by decide +kernel), rfl, by decide +kernel, by decide +kernel, by decide +kernel⟩
theorem zv_X10_92 : z_V RX10 92 RX10 yX10_sends cX10_sends 4 (some .boolean) 1 := ⟨z_ins [1123, 1125, 29, 58, 1126] (by decide +kernel) (by decide +kernel), rfl, by decide +kernel, by decide +kernel, by decide +kernel⟩
theorem zv_X10_95 : z_SS RX10 95 yX10_behind cX10_behind 3 (some .int) 2 := ⟨z_ins [1143, 1144, 58, 1145] (by decide +kernel) (by decide +kernel), by decide +kernel, by decide +kernel, by decide +kernel⟩
theorem zv_X10_102 : z_V RX10 102 RX10 yX10_sendsAll cX10_sendsAll 6 none 3 := ⟨z_ins [1111, 1113, 26, 58, 1114] (by decide +kernel) (by decide +kernel), rfl, by decide +kernel, by decide +kernel, by decide +kernel⟩
theorem zv_X10_106 : z_V RX10 106 RX10 yX10_logs cX10_logs 6 none 4 := ⟨z_ins [1135, 1137, 32, 58, 1138] (by decide +kernel) (by decide +kernel), rfl, by decide +kernel, by decide +kernel, by decide +kernel⟩
theorem zv_X10_110 : z_V RX10 110 RX10 yX10_polls cX10_polls 6 none 1 := ⟨z_ins [1139, 1141, 33, 58, 1142] (by decide +kernel) (by decide +kernel), rfl, by decide +kernel, by decide +kernel, by decide +kernel⟩
theorem zv_X10_113 : z_V RX10 113 RX10 yX10_passes cX10_passes 5 none 1 := ⟨z_ins [1146, 1148, 34, 58, 1149] (by decide +kernel) (by decide +kernel), rfl, by decide +kernel, by decide +kernel, by decide +kernel⟩
theorem zv_X10_98 : z_V RX10 98 RX10 yX10_makesToken cX10_makesToken 3 (some .boolean) 0 := ⟨z_ins [1103, 1105, 24, 58, 1106] (by decide +kernel) (by decide +kernel), rfl, by decide +kernel, by decide +kernel, by decide +kernel⟩
theorem zk_X10_116 : Cond.constantLong RX10 116 (200 : Int64) ∈ zWS := z_lw (i := 1097) (by decide +kernel) (by decide +kernel)
theorem zk_X10_118 : Cond.constant RX10 118 (900000 : Int32) ∈ zWS := z_lw (i := 1098) (by decide +kernel) (by decide +kernel)
theorem zv_X10_119 : z_V RX10 119 RX10 yX10_visits cX10_visits 5 none 0 := ⟨z_ins [1099, 1101, 23, 58, 1102] (by decide +kernel) (by decide +kernel), rfl, by decide +kernel, by decide +kernel, by decide +kernel⟩
theorem zv_X10_122 : z_V RX10 122 RX10 yX10_inRing cX10_inRing 3 (some .int) 0 := ⟨z_ins [1163, 1165, 36, 58, 1166] (by decide +kernel) (by decide +kernel), rfl, by decide +kernel, by decide +kernel, by decide +kernel⟩
theorem zk_X10_125 : Cond.constantLong RX10 125 (8 : Int64) ∈ zWS := z_lw (i := 1158) (by decide +kernel) (by decide +kernel)
theorem zv_X10_127 : z_V RX10 127 RX10 yX10_settingOf cX10_settingOf 2 (some .int) 1 := ⟨z_ins [1159, 1161, 35, 58, 1162] (by decide +kernel) (by decide +kernel), rfl, by decide +kernel, by decide +kernel, by decide +kernel⟩
theorem zv_X10_131 : z_V RX10 131 RX10 yX10_queueOf cX10_queueOf 4 (some .int) 1 := ⟨z_ins [1176, 1178, 38, 58, 1179] (by decide +kernel) (by decide +kernel), rfl, by decide +kernel, by decide +kernel, by decide +kernel⟩
theorem zk_X10_134 : Cond.constantLong RX10 134 (6 : Int64) ∈ zWS := z_lw (i := 1171) (by decide +kernel) (by decide +kernel)
theorem zv_X10_136 : z_V RX10 136 RX10 yX10_stationOf cX10_stationOf 3 (some .int) 2 := ⟨z_ins [1172, 1174, 37, 58, 1175] (by decide +kernel) (by decide +kernel), rfl, by decide +kernel, by decide +kernel, by decide +kernel⟩
theorem zk_X10_139 : Cond.constantLong RX10 139 (4 : Int64) ∈ zWS := z_lw (i := 1192) (by decide +kernel) (by decide +kernel)
theorem zk_X10_141 : Cond.constantLong RX10 141 (3 : Int64) ∈ zWS := z_lw (i := 1209) (by decide +kernel) (by decide +kernel)
theorem zv_X10_143 : z_V RX10 143 RX10 yX10_lays cX10_lays 2 none 0 := ⟨z_ins [1226, 1228, 39, 58, 1229] (by decide +kernel) (by decide +kernel), rfl, by decide +kernel, by decide +kernel, by decide +kernel⟩
theorem zv_X10_146 : z_V RX10 146 RX10 yX10_takesBack cX10_takesBack 2 none 0 := ⟨z_ins [1230, 1232, 40, 58, 1233] (by decide +kernel) (by decide +kernel), rfl, by decide +kernel, by decide +kernel, by decide +kernel⟩
theorem zv_X10_149 : z_V RX10 149 RX10 yX10_isComplete cX10_isComplete 3 (some .boolean) 0 := ⟨z_ins [1238, 1240, 41, 58, 1241] (by decide +kernel) (by decide +kernel), rfl, by decide +kernel, by decide +kernel, by decide +kernel⟩
theorem zk_X10_152 : Cond.constantLong RX10 152 (100 : Int64) ∈ zWS := z_lw (i := 1246) (by decide +kernel) (by decide +kernel)
theorem zv_X10_154 : z_V RX10 154 RX10 yX10_waiting cX10_waiting 3 (some .int) 0 := ⟨z_ins [1247, 1249, 42, 58, 1250] (by decide +kernel) (by decide +kernel), rfl, by decide +kernel, by decide +kernel, by decide +kernel⟩
theorem zk_X10_157 : Cond.constantLong RX10 157 (127 : Int64) ∈ zWS := z_lw (i := 1255) (by decide +kernel) (by decide +kernel)
theorem zf_X10_159 : z_F RX10 159 9 6 := ⟨RX10, TX10, rfl, by decide, z_lw (i := 1002) (by decide +kernel) (by decide +kernel), inX10, rfl, tyX10_ok, nmX10, rfl⟩
theorem zf_X10_162 : z_F RX10 162 9 7 := ⟨RX10, TX10, rfl, by decide, z_lw (i := 1003) (by decide +kernel) (by decide +kernel), inX10, rfl, tyX10_ok, nmX10, rfl⟩
theorem zk_X10_165 : Cond.constantLong RX10 165 (48 : Int64) ∈ zWS := z_lw (i := 1280) (by decide +kernel) (by decide +kernel)
theorem zk_X10_167 : Cond.constantLong RX10 167 (57 : Int64) ∈ zWS := z_lw (i := 1281) (by decide +kernel) (by decide +kernel)
theorem zf_X10_169 : z_F RX10 169 9 8 := ⟨RX10, TX10, rfl, by decide, z_lw (i := 1004) (by decide +kernel) (by decide +kernel), inX10, rfl, tyX10_ok, nmX10, rfl⟩
theorem zv_X10_172 : z_V RX10 172 RX10 yX10_isFigure cX10_isFigure 1 (some .boolean) 0 := ⟨z_ins [1276, 1278, 46, 58, 1279] (by decide +kernel) (by decide +kernel), rfl, by decide +kernel, by decide +kernel, by decide +kernel⟩
theorem zf_X10_181 : z_F RX10 181 9 9 := ⟨RX10, TX10, rfl, by decide, z_lw (i := 1005) (by decide +kernel) (by decide +kernel), inX10, rfl, tyX10_ok, nmX10, rfl⟩
theorem zv_X10_175 : z_V RX10 175 RX10 yX10_passesByte cX10_passesByte 3 (some .boolean) 1 := ⟨z_ins [1268, 1270, 44, 58, 1271] (by decide +kernel) (by decide +kernel), rfl, by decide +kernel, by decide +kernel, by decide +kernel⟩
theorem zv_X10_178 : z_V RX10 178 RX10 yX10_readsNumber cX10_readsNumber 2 (some .boolean) 0 := ⟨z_ins [1272, 1274, 45, 58, 1275] (by decide +kernel) (by decide +kernel), rfl, by decide +kernel, by decide +kernel, by decide +kernel⟩
theorem zv_X10_184 : z_V RX10 184 RX10 yX10_readsItem cX10_readsItem 4 (some .boolean) 0 := ⟨z_ins [1264, 1266, 43, 58, 1267] (by decide +kernel) (by decide +kernel), rfl, by decide +kernel, by decide +kernel, by decide +kernel⟩
theorem zv_X10_187 : z_SS RX10 187 yX10_sums cX10_sums 4 (some .long) 2 := ⟨z_ins [1291, 1292, 58, 1293] (by decide +kernel) (by decide +kernel), by decide +kernel, by decide +kernel, by decide +kernel⟩
theorem zk_X10_191 : Cond.constantLong RX10 191 (3169 : Int64) ∈ zWS := z_lw (i := 1290) (by decide +kernel) (by decide +kernel)
theorem zv_X10_193 : z_V RX10 193 RX10 yX10_withStation cX10_withStation 7 (some .long) 2 := ⟨z_ins [1294, 1296, 47, 58, 1297] (by decide +kernel) (by decide +kernel), rfl, by decide +kernel, by decide +kernel, by decide +kernel⟩
