section
-- ===== PART A: goes FIRST, ahead of the names: the tables' words, and 'selects' of the private methods out of them =====
/-- a private method of a class that the tables say can be made, by its rows of tables_1 -/
def lw_okq (q : MethodName × Nat) : Prop := (q.1.cls ≠ "java/lang/invoke/MethodHandle" ∧ q.1.cls ≠ "java/lang/invoke/VarHandle") ∧ Cond.instantiable q.1.cls q.2 ∈ tables_1 ∧ Cond.privateMethod q.1 ∈ tables_1 ∧ Cond.instanceMethod q.1 ∈ tables_1
theorem lw_p0 : lw_okq (⟨"TokenBus$History", "dropOldest", "()V"⟩, 2) := ⟨⟨by decide +kernel, by decide +kernel⟩, List.mem_of_getElem? (i := 241) (by decide +kernel), List.mem_of_getElem? (i := 283) (by decide +kernel), List.mem_of_getElem? (i := 284) (by decide +kernel)⟩
theorem lw_p1 : lw_okq (⟨"TokenBus$History", "stateAt", "(I)LTokenBus$Line;"⟩, 2) := ⟨⟨by decide +kernel, by decide +kernel⟩, List.mem_of_getElem? (i := 241) (by decide +kernel), List.mem_of_getElem? (i := 287) (by decide +kernel), List.mem_of_getElem? (i := 288) (by decide +kernel)⟩
theorem lw_p2 : lw_okq (⟨"TokenBus$Line", "copyStations", "(LTokenBus$Line;)V"⟩, 11) := ⟨⟨by decide +kernel, by decide +kernel⟩, List.mem_of_getElem? (i := 30) (by decide +kernel), List.mem_of_getElem? (i := 330) (by decide +kernel), List.mem_of_getElem? (i := 331) (by decide +kernel)⟩
theorem lw_p3 : lw_okq (⟨"TokenBus$Reader", "readItem", "()Z"⟩, 6) := ⟨⟨by decide +kernel, by decide +kernel⟩, List.mem_of_getElem? (i := 384) (by decide +kernel), List.mem_of_getElem? (i := 414) (by decide +kernel), List.mem_of_getElem? (i := 415) (by decide +kernel)⟩
theorem lw_p4 : lw_okq (⟨"TokenBus$Reader", "sign", "()I"⟩, 6) := ⟨⟨by decide +kernel, by decide +kernel⟩, List.mem_of_getElem? (i := 384) (by decide +kernel), List.mem_of_getElem? (i := 418) (by decide +kernel), List.mem_of_getElem? (i := 419) (by decide +kernel)⟩
theorem lw_p5 : lw_okq (⟨"TokenBus$Reader", "readStation", "()Z"⟩, 6) := ⟨⟨by decide +kernel, by decide +kernel⟩, List.mem_of_getElem? (i := 384) (by decide +kernel), List.mem_of_getElem? (i := 426) (by decide +kernel), List.mem_of_getElem? (i := 427) (by decide +kernel)⟩
theorem lw_p6 : lw_okq (⟨"TokenBus$Reader", "readNumber", "()I"⟩, 6) := ⟨⟨by decide +kernel, by decide +kernel⟩, List.mem_of_getElem? (i := 384) (by decide +kernel), List.mem_of_getElem? (i := 430) (by decide +kernel), List.mem_of_getElem? (i := 431) (by decide +kernel)⟩
theorem lw_p7 : lw_okq (⟨"TokenBus$Reader", "digit", "()I"⟩, 6) := ⟨⟨by decide +kernel, by decide +kernel⟩, List.mem_of_getElem? (i := 384) (by decide +kernel), List.mem_of_getElem? (i := 434) (by decide +kernel), List.mem_of_getElem? (i := 435) (by decide +kernel)⟩
theorem lw_p8 : lw_okq (⟨"TokenBus$Reader", "failsAt", "(I)Z"⟩, 6) := ⟨⟨by decide +kernel, by decide +kernel⟩, List.mem_of_getElem? (i := 384) (by decide +kernel), List.mem_of_getElem? (i := 438) (by decide +kernel), List.mem_of_getElem? (i := 439) (by decide +kernel)⟩
theorem lw_p9 : lw_okq (⟨"TokenBus$Reader", "skips", "(I)Z"⟩, 6) := ⟨⟨by decide +kernel, by decide +kernel⟩, List.mem_of_getElem? (i := 384) (by decide +kernel), List.mem_of_getElem? (i := 452) (by decide +kernel), List.mem_of_getElem? (i := 453) (by decide +kernel)⟩
theorem lw_p10 : lw_okq (⟨"TokenBus$Reader", "readMessage", "()Z"⟩, 6) := ⟨⟨by decide +kernel, by decide +kernel⟩, List.mem_of_getElem? (i := 384) (by decide +kernel), List.mem_of_getElem? (i := 464) (by decide +kernel), List.mem_of_getElem? (i := 465) (by decide +kernel)⟩
theorem lw_p11 : lw_okq (⟨"TokenBus$Messages", "enqueue", "(LTokenBus$Station;II)V"⟩, 2) := ⟨⟨by decide +kernel, by decide +kernel⟩, List.mem_of_getElem? (i := 38) (by decide +kernel), List.mem_of_getElem? (i := 477) (by decide +kernel), List.mem_of_getElem? (i := 478) (by decide +kernel)⟩
theorem lw_p12 : lw_okq (⟨"TokenBus$Line", "withStation", "(JLTokenBus$Station;)J"⟩, 11) := ⟨⟨by decide +kernel, by decide +kernel⟩, List.mem_of_getElem? (i := 30) (by decide +kernel), List.mem_of_getElem? (i := 516) (by decide +kernel), List.mem_of_getElem? (i := 517) (by decide +kernel)⟩
theorem lw_p13 : lw_okq (⟨"TokenBus$Line", "withLog", "(J)J"⟩, 11) := ⟨⟨by decide +kernel, by decide +kernel⟩, List.mem_of_getElem? (i := 30) (by decide +kernel), List.mem_of_getElem? (i := 533) (by decide +kernel), List.mem_of_getElem? (i := 534) (by decide +kernel)⟩
theorem lw_p14 : lw_okq (⟨"java/lang/Throwable", "fillInStackTrace", "(I)Ljava/lang/Throwable;"⟩, 6) := ⟨⟨by decide +kernel, by decide +kernel⟩, List.mem_of_getElem? (i := 591) (by decide +kernel), List.mem_of_getElem? (i := 589) (by decide +kernel), List.mem_of_getElem? (i := 590) (by decide +kernel)⟩
theorem lw_p15 : lw_okq (⟨"TokenBus", "sendsAll", "(II)Z"⟩, 5) := ⟨⟨by decide +kernel, by decide +kernel⟩, List.mem_of_getElem? (i := 22) (by decide +kernel), List.mem_of_getElem? (i := 914) (by decide +kernel), List.mem_of_getElem? (i := 915) (by decide +kernel)⟩
def lw_privs_1 : List (MethodName × Nat) := [(⟨"TokenBus$History", "dropOldest", "()V"⟩, 2), (⟨"TokenBus$History", "stateAt", "(I)LTokenBus$Line;"⟩, 2), (⟨"TokenBus$Line", "copyStations", "(LTokenBus$Line;)V"⟩, 11), (⟨"TokenBus$Reader", "readItem", "()Z"⟩, 6), (⟨"TokenBus$Reader", "sign", "()I"⟩, 6), (⟨"TokenBus$Reader", "readStation", "()Z"⟩, 6), (⟨"TokenBus$Reader", "readNumber", "()I"⟩, 6), (⟨"TokenBus$Reader", "digit", "()I"⟩, 6), (⟨"TokenBus$Reader", "failsAt", "(I)Z"⟩, 6), (⟨"TokenBus$Reader", "skips", "(I)Z"⟩, 6), (⟨"TokenBus$Reader", "readMessage", "()Z"⟩, 6), (⟨"TokenBus$Messages", "enqueue", "(LTokenBus$Station;II)V"⟩, 2), (⟨"TokenBus$Line", "withStation", "(JLTokenBus$Station;)J"⟩, 11), (⟨"TokenBus$Line", "withLog", "(J)J"⟩, 11), (⟨"java/lang/Throwable", "fillInStackTrace", "(I)Ljava/lang/Throwable;"⟩, 6), (⟨"TokenBus", "sendsAll", "(II)Z"⟩, 5)]
theorem lw_r1 : ∀ q ∈ lw_privs_1, lw_okq q := List.forall_mem_cons.mpr ⟨lw_p0, List.forall_mem_cons.mpr ⟨lw_p1, List.forall_mem_cons.mpr ⟨lw_p2, List.forall_mem_cons.mpr ⟨lw_p3, List.forall_mem_cons.mpr ⟨lw_p4, List.forall_mem_cons.mpr ⟨lw_p5, List.forall_mem_cons.mpr ⟨lw_p6, List.forall_mem_cons.mpr ⟨lw_p7, List.forall_mem_cons.mpr ⟨lw_p8, List.forall_mem_cons.mpr ⟨lw_p9, List.forall_mem_cons.mpr ⟨lw_p10, List.forall_mem_cons.mpr ⟨lw_p11, List.forall_mem_cons.mpr ⟨lw_p12, List.forall_mem_cons.mpr ⟨lw_p13, List.forall_mem_cons.mpr ⟨lw_p14, List.forall_mem_cons.mpr ⟨lw_p15, fun _ h => absurd h List.not_mem_nil⟩⟩⟩⟩⟩⟩⟩⟩⟩⟩⟩⟩⟩⟩⟩⟩
theorem lw_p16 : lw_okq (⟨"TokenBusModel", "isStation", "(I)Z"⟩, 10) := ⟨⟨by decide +kernel, by decide +kernel⟩, List.mem_of_getElem? (i := 943) (by decide +kernel), List.mem_of_getElem? (i := 992) (by decide +kernel), List.mem_of_getElem? (i := 993) (by decide +kernel)⟩
theorem lw_p17 : lw_okq (⟨"TokenBusModel", "of", "(II)I"⟩, 10) := ⟨⟨by decide +kernel, by decide +kernel⟩, List.mem_of_getElem? (i := 943) (by decide +kernel), List.mem_of_getElem? (i := 996) (by decide +kernel), List.mem_of_getElem? (i := 997) (by decide +kernel)⟩
theorem lw_p18 : lw_okq (⟨"TokenBusModel", "stations", "()I"⟩, 10) := ⟨⟨by decide +kernel, by decide +kernel⟩, List.mem_of_getElem? (i := 943) (by decide +kernel), List.mem_of_getElem? (i := 1003) (by decide +kernel), List.mem_of_getElem? (i := 1004) (by decide +kernel)⟩
theorem lw_p19 : lw_okq (⟨"TokenBusModel", "goes", "(ZZZ)Z"⟩, 10) := ⟨⟨by decide +kernel, by decide +kernel⟩, List.mem_of_getElem? (i := 943) (by decide +kernel), List.mem_of_getElem? (i := 1007) (by decide +kernel), List.mem_of_getElem? (i := 1008) (by decide +kernel)⟩
theorem lw_p20 : lw_okq (⟨"TokenBusModel", "save", "()V"⟩, 10) := ⟨⟨by decide +kernel, by decide +kernel⟩, List.mem_of_getElem? (i := 943) (by decide +kernel), List.mem_of_getElem? (i := 1011) (by decide +kernel), List.mem_of_getElem? (i := 1012) (by decide +kernel)⟩
theorem lw_p21 : lw_okq (⟨"TokenBusModel", "adds", "(I)V"⟩, 10) := ⟨⟨by decide +kernel, by decide +kernel⟩, List.mem_of_getElem? (i := 943) (by decide +kernel), List.mem_of_getElem? (i := 1015) (by decide +kernel), List.mem_of_getElem? (i := 1016) (by decide +kernel)⟩
theorem lw_p22 : lw_okq (⟨"TokenBusModel", "gives", "(III)I"⟩, 10) := ⟨⟨by decide +kernel, by decide +kernel⟩, List.mem_of_getElem? (i := 943) (by decide +kernel), List.mem_of_getElem? (i := 1034) (by decide +kernel), List.mem_of_getElem? (i := 1035) (by decide +kernel)⟩
theorem lw_p23 : lw_okq (⟨"TokenBusModel", "visits", "()V"⟩, 10) := ⟨⟨by decide +kernel, by decide +kernel⟩, List.mem_of_getElem? (i := 943) (by decide +kernel), List.mem_of_getElem? (i := 1052) (by decide +kernel), List.mem_of_getElem? (i := 1053) (by decide +kernel)⟩
theorem lw_p24 : lw_okq (⟨"TokenBusModel", "makesToken", "()Z"⟩, 10) := ⟨⟨by decide +kernel, by decide +kernel⟩, List.mem_of_getElem? (i := 943) (by decide +kernel), List.mem_of_getElem? (i := 1056) (by decide +kernel), List.mem_of_getElem? (i := 1057) (by decide +kernel)⟩
theorem lw_p25 : lw_okq (⟨"TokenBusModel", "isInRing", "(I)Z"⟩, 10) := ⟨⟨by decide +kernel, by decide +kernel⟩, List.mem_of_getElem? (i := 943) (by decide +kernel), List.mem_of_getElem? (i := 1060) (by decide +kernel), List.mem_of_getElem? (i := 1061) (by decide +kernel)⟩
theorem lw_p26 : lw_okq (⟨"TokenBusModel", "sendsAll", "(III)V"⟩, 10) := ⟨⟨by decide +kernel, by decide +kernel⟩, List.mem_of_getElem? (i := 943) (by decide +kernel), List.mem_of_getElem? (i := 1064) (by decide +kernel), List.mem_of_getElem? (i := 1065) (by decide +kernel)⟩
theorem lw_p27 : lw_okq (⟨"TokenBusModel", "nextOf", "(II)I"⟩, 10) := ⟨⟨by decide +kernel, by decide +kernel⟩, List.mem_of_getElem? (i := 943) (by decide +kernel), List.mem_of_getElem? (i := 1068) (by decide +kernel), List.mem_of_getElem? (i := 1069) (by decide +kernel)⟩
theorem lw_p28 : lw_okq (⟨"TokenBusModel", "ofMessage", "(II)I"⟩, 10) := ⟨⟨by decide +kernel, by decide +kernel⟩, List.mem_of_getElem? (i := 943) (by decide +kernel), List.mem_of_getElem? (i := 1072) (by decide +kernel), List.mem_of_getElem? (i := 1073) (by decide +kernel)⟩
theorem lw_p29 : lw_okq (⟨"TokenBusModel", "sends", "(I)Z"⟩, 10) := ⟨⟨by decide +kernel, by decide +kernel⟩, List.mem_of_getElem? (i := 943) (by decide +kernel), List.mem_of_getElem? (i := 1076) (by decide +kernel), List.mem_of_getElem? (i := 1077) (by decide +kernel)⟩
theorem lw_p30 : lw_okq (⟨"TokenBusModel", "takes", "(I)Z"⟩, 10) := ⟨⟨by decide +kernel, by decide +kernel⟩, List.mem_of_getElem? (i := 943) (by decide +kernel), List.mem_of_getElem? (i := 1080) (by decide +kernel), List.mem_of_getElem? (i := 1081) (by decide +kernel)⟩
theorem lw_p31 : lw_okq (⟨"TokenBusModel", "isLoud", "(II)Z"⟩, 10) := ⟨⟨by decide +kernel, by decide +kernel⟩, List.mem_of_getElem? (i := 943) (by decide +kernel), List.mem_of_getElem? (i := 1084) (by decide +kernel), List.mem_of_getElem? (i := 1085) (by decide +kernel)⟩
def lw_privs_2 : List (MethodName × Nat) := [(⟨"TokenBusModel", "isStation", "(I)Z"⟩, 10), (⟨"TokenBusModel", "of", "(II)I"⟩, 10), (⟨"TokenBusModel", "stations", "()I"⟩, 10), (⟨"TokenBusModel", "goes", "(ZZZ)Z"⟩, 10), (⟨"TokenBusModel", "save", "()V"⟩, 10), (⟨"TokenBusModel", "adds", "(I)V"⟩, 10), (⟨"TokenBusModel", "gives", "(III)I"⟩, 10), (⟨"TokenBusModel", "visits", "()V"⟩, 10), (⟨"TokenBusModel", "makesToken", "()Z"⟩, 10), (⟨"TokenBusModel", "isInRing", "(I)Z"⟩, 10), (⟨"TokenBusModel", "sendsAll", "(III)V"⟩, 10), (⟨"TokenBusModel", "nextOf", "(II)I"⟩, 10), (⟨"TokenBusModel", "ofMessage", "(II)I"⟩, 10), (⟨"TokenBusModel", "sends", "(I)Z"⟩, 10), (⟨"TokenBusModel", "takes", "(I)Z"⟩, 10), (⟨"TokenBusModel", "isLoud", "(II)Z"⟩, 10)]
theorem lw_r2 : ∀ q ∈ lw_privs_2, lw_okq q := List.forall_mem_cons.mpr ⟨lw_p16, List.forall_mem_cons.mpr ⟨lw_p17, List.forall_mem_cons.mpr ⟨lw_p18, List.forall_mem_cons.mpr ⟨lw_p19, List.forall_mem_cons.mpr ⟨lw_p20, List.forall_mem_cons.mpr ⟨lw_p21, List.forall_mem_cons.mpr ⟨lw_p22, List.forall_mem_cons.mpr ⟨lw_p23, List.forall_mem_cons.mpr ⟨lw_p24, List.forall_mem_cons.mpr ⟨lw_p25, List.forall_mem_cons.mpr ⟨lw_p26, List.forall_mem_cons.mpr ⟨lw_p27, List.forall_mem_cons.mpr ⟨lw_p28, List.forall_mem_cons.mpr ⟨lw_p29, List.forall_mem_cons.mpr ⟨lw_p30, List.forall_mem_cons.mpr ⟨lw_p31, fun _ h => absurd h List.not_mem_nil⟩⟩⟩⟩⟩⟩⟩⟩⟩⟩⟩⟩⟩⟩⟩⟩
theorem lw_p32 : lw_okq (⟨"TokenBusModel", "logs", "(IIII)V"⟩, 10) := ⟨⟨by decide +kernel, by decide +kernel⟩, List.mem_of_getElem? (i := 943) (by decide +kernel), List.mem_of_getElem? (i := 1088) (by decide +kernel), List.mem_of_getElem? (i := 1089) (by decide +kernel)⟩
theorem lw_p33 : lw_okq (⟨"TokenBusModel", "polls", "(I)V"⟩, 10) := ⟨⟨by decide +kernel, by decide +kernel⟩, List.mem_of_getElem? (i := 943) (by decide +kernel), List.mem_of_getElem? (i := 1092) (by decide +kernel), List.mem_of_getElem? (i := 1093) (by decide +kernel)⟩
theorem lw_p34 : lw_okq (⟨"TokenBusModel", "passes", "(I)V"⟩, 10) := ⟨⟨by decide +kernel, by decide +kernel⟩, List.mem_of_getElem? (i := 943) (by decide +kernel), List.mem_of_getElem? (i := 1099) (by decide +kernel), List.mem_of_getElem? (i := 1100) (by decide +kernel)⟩
theorem lw_p35 : lw_okq (⟨"TokenBusModel", "settingOf", "(I)I"⟩, 10) := ⟨⟨by decide +kernel, by decide +kernel⟩, List.mem_of_getElem? (i := 943) (by decide +kernel), List.mem_of_getElem? (i := 1112) (by decide +kernel), List.mem_of_getElem? (i := 1113) (by decide +kernel)⟩
theorem lw_p36 : lw_okq (⟨"TokenBusModel", "inRing", "()I"⟩, 10) := ⟨⟨by decide +kernel, by decide +kernel⟩, List.mem_of_getElem? (i := 943) (by decide +kernel), List.mem_of_getElem? (i := 1116) (by decide +kernel), List.mem_of_getElem? (i := 1117) (by decide +kernel)⟩
theorem lw_p37 : lw_okq (⟨"TokenBusModel", "stationOf", "(II)I"⟩, 10) := ⟨⟨by decide +kernel, by decide +kernel⟩, List.mem_of_getElem? (i := 943) (by decide +kernel), List.mem_of_getElem? (i := 1125) (by decide +kernel), List.mem_of_getElem? (i := 1126) (by decide +kernel)⟩
theorem lw_p38 : lw_okq (⟨"TokenBusModel", "queueOf", "(I)I"⟩, 10) := ⟨⟨by decide +kernel, by decide +kernel⟩, List.mem_of_getElem? (i := 943) (by decide +kernel), List.mem_of_getElem? (i := 1129) (by decide +kernel), List.mem_of_getElem? (i := 1130) (by decide +kernel)⟩
theorem lw_p39 : lw_okq (⟨"TokenBusModel", "lays", "()V"⟩, 10) := ⟨⟨by decide +kernel, by decide +kernel⟩, List.mem_of_getElem? (i := 943) (by decide +kernel), List.mem_of_getElem? (i := 1179) (by decide +kernel), List.mem_of_getElem? (i := 1180) (by decide +kernel)⟩
theorem lw_p40 : lw_okq (⟨"TokenBusModel", "takesBack", "()V"⟩, 10) := ⟨⟨by decide +kernel, by decide +kernel⟩, List.mem_of_getElem? (i := 943) (by decide +kernel), List.mem_of_getElem? (i := 1183) (by decide +kernel), List.mem_of_getElem? (i := 1184) (by decide +kernel)⟩
theorem lw_p41 : lw_okq (⟨"TokenBusModel", "isComplete", "()Z"⟩, 10) := ⟨⟨by decide +kernel, by decide +kernel⟩, List.mem_of_getElem? (i := 943) (by decide +kernel), List.mem_of_getElem? (i := 1191) (by decide +kernel), List.mem_of_getElem? (i := 1192) (by decide +kernel)⟩
theorem lw_p42 : lw_okq (⟨"TokenBusModel", "waiting", "()I"⟩, 10) := ⟨⟨by decide +kernel, by decide +kernel⟩, List.mem_of_getElem? (i := 943) (by decide +kernel), List.mem_of_getElem? (i := 1200) (by decide +kernel), List.mem_of_getElem? (i := 1201) (by decide +kernel)⟩
theorem lw_p43 : lw_okq (⟨"TokenBusModel", "readsItem", "()Z"⟩, 10) := ⟨⟨by decide +kernel, by decide +kernel⟩, List.mem_of_getElem? (i := 943) (by decide +kernel), List.mem_of_getElem? (i := 1217) (by decide +kernel), List.mem_of_getElem? (i := 1218) (by decide +kernel)⟩
theorem lw_p44 : lw_okq (⟨"TokenBusModel", "passesByte", "(I)Z"⟩, 10) := ⟨⟨by decide +kernel, by decide +kernel⟩, List.mem_of_getElem? (i := 943) (by decide +kernel), List.mem_of_getElem? (i := 1221) (by decide +kernel), List.mem_of_getElem? (i := 1222) (by decide +kernel)⟩
theorem lw_p45 : lw_okq (⟨"TokenBusModel", "readsNumber", "()Z"⟩, 10) := ⟨⟨by decide +kernel, by decide +kernel⟩, List.mem_of_getElem? (i := 943) (by decide +kernel), List.mem_of_getElem? (i := 1225) (by decide +kernel), List.mem_of_getElem? (i := 1226) (by decide +kernel)⟩
theorem lw_p46 : lw_okq (⟨"TokenBusModel", "isFigure", "()Z"⟩, 10) := ⟨⟨by decide +kernel, by decide +kernel⟩, List.mem_of_getElem? (i := 943) (by decide +kernel), List.mem_of_getElem? (i := 1229) (by decide +kernel), List.mem_of_getElem? (i := 1230) (by decide +kernel)⟩
theorem lw_p47 : lw_okq (⟨"TokenBusModel", "withStation", "(JI)J"⟩, 10) := ⟨⟨by decide +kernel, by decide +kernel⟩, List.mem_of_getElem? (i := 943) (by decide +kernel), List.mem_of_getElem? (i := 1247) (by decide +kernel), List.mem_of_getElem? (i := 1248) (by decide +kernel)⟩
def lw_privs_3 : List (MethodName × Nat) := [(⟨"TokenBusModel", "logs", "(IIII)V"⟩, 10), (⟨"TokenBusModel", "polls", "(I)V"⟩, 10), (⟨"TokenBusModel", "passes", "(I)V"⟩, 10), (⟨"TokenBusModel", "settingOf", "(I)I"⟩, 10), (⟨"TokenBusModel", "inRing", "()I"⟩, 10), (⟨"TokenBusModel", "stationOf", "(II)I"⟩, 10), (⟨"TokenBusModel", "queueOf", "(I)I"⟩, 10), (⟨"TokenBusModel", "lays", "()V"⟩, 10), (⟨"TokenBusModel", "takesBack", "()V"⟩, 10), (⟨"TokenBusModel", "isComplete", "()Z"⟩, 10), (⟨"TokenBusModel", "waiting", "()I"⟩, 10), (⟨"TokenBusModel", "readsItem", "()Z"⟩, 10), (⟨"TokenBusModel", "passesByte", "(I)Z"⟩, 10), (⟨"TokenBusModel", "readsNumber", "()Z"⟩, 10), (⟨"TokenBusModel", "isFigure", "()Z"⟩, 10), (⟨"TokenBusModel", "withStation", "(JI)J"⟩, 10)]
theorem lw_r3 : ∀ q ∈ lw_privs_3, lw_okq q := List.forall_mem_cons.mpr ⟨lw_p32, List.forall_mem_cons.mpr ⟨lw_p33, List.forall_mem_cons.mpr ⟨lw_p34, List.forall_mem_cons.mpr ⟨lw_p35, List.forall_mem_cons.mpr ⟨lw_p36, List.forall_mem_cons.mpr ⟨lw_p37, List.forall_mem_cons.mpr ⟨lw_p38, List.forall_mem_cons.mpr ⟨lw_p39, List.forall_mem_cons.mpr ⟨lw_p40, List.forall_mem_cons.mpr ⟨lw_p41, List.forall_mem_cons.mpr ⟨lw_p42, List.forall_mem_cons.mpr ⟨lw_p43, List.forall_mem_cons.mpr ⟨lw_p44, List.forall_mem_cons.mpr ⟨lw_p45, List.forall_mem_cons.mpr ⟨lw_p46, List.forall_mem_cons.mpr ⟨lw_p47, fun _ h => absurd h List.not_mem_nil⟩⟩⟩⟩⟩⟩⟩⟩⟩⟩⟩⟩⟩⟩⟩⟩
def lw_privs : List (MethodName × Nat) := lw_privs_1 ++ (lw_privs_2 ++ (lw_privs_3))
def lw_tbl : List Cond := k2_sels lw_privs ++ tables_1
theorem lw_privs_ok : ∀ q ∈ lw_privs, lw_okq q := by
  show ∀ q ∈ lw_privs_1 ++ (lw_privs_2 ++ (lw_privs_3)), lw_okq q
  exact List.forall_mem_append.mpr ⟨lw_r1, List.forall_mem_append.mpr ⟨lw_r2, lw_r3⟩⟩
/-- the streams that the claim lets the run draw from -/
abbrev lw_cs : List Choice := [Jvm.Choice.named "NaN.bits"]
theorem lw_bits : nanBits ∈ lw_cs := by first | decide | exact List.mem_cons_self | simp [lw_cs, nanBits]
-- ===== end of PART A; then your names; then what follows =====
end
section
/-! ===== BEGIN words of one list among another's, by their places ===== -/
theorem goodIn_r {big : List Cond} (ws : List Cond) (ps : List Nat) (hp : ws = ps.filterMap (fun i => big[i]?)) (h : ws.all goodWord = true) : GoodIn big ws := by
  intro w hw
  have h1 := List.all_eq_true.mp h w hw
  rw [hp] at hw
  obtain ⟨i, -, hi⟩ := List.mem_filterMap.mp hw
  have hm : w ∈ big := by first | exact List.mem_of_getElem? hi | exact List.getElem?_mem hi
  exact ⟨hm, good_of_word h1⟩
theorem goodIn_app {big a b : List Cond} (ha : GoodIn big a) (hb : GoodIn big b) : GoodIn big (a ++ b) := fun w h => (List.mem_append.mp h).elim (ha w) (hb w)
theorem goodIn_ca {big a b : List Cond} {c : Cond} (ha : GoodIn big (c :: a)) (hb : GoodIn big b) : GoodIn big (c :: (a ++ b)) := fun w h => (List.mem_cons.mp h).elim (fun e => ha w (List.mem_cons.mpr (Or.inl e))) (fun h => (List.mem_append.mp h).elim (fun h => ha w (List.mem_cons.mpr (Or.inr h))) (hb w))
theorem goodIn_sub {big ws : List Cond} (hm : ∀ w ∈ ws, w ∈ big) (h : ws.all goodWord = true) : GoodIn big ws := fun w hw => ⟨hm w hw, good_of_word (List.all_eq_true.mp h w hw)⟩
/-! ===== END ===== -/

/-! ===== BEGIN exceptions that leave a method, and their catching by the caller (launches without stack traces) ===== -/
section VXA
/-! The laws vx_back, vx_callV, vx_callS, vx_callSW, vx_throw0, vx_throwS follow proofs of the library, with one case more: JvmDerived/Free/Laws.lean (Back.of_free), Shelf42/LK1.lean (callV, callS), Shelf/KitTraced.lean (throwNew0V, throwNewS). -/
/-- where a method has thrown q: the class by its name, the cell, what was written, the world -/
def vx_T (XC : String → State → State → Prop) (st : State) (q : Addr) (t : State) (mc ms : Nat) (free : Addr → Prop) : Prop :=
  ∃ (E : String) (ce : Cell) (L : List Loc), XC E st t ∧ t.heap[q]? = some ce ∧ ce.vm = .none ∧ st.vm.findClass E = some ce.cls ∧ st.WarmedH t.vm ∧ st.sameButNew ({ t with vm := st.vm } : State) L mc ms ∧ ∀ z ∈ L, free z.base
def vx_Q (Qc : Array Value → State → Outcome → State → Prop) (XC : String → State → State → Prop) (mc ms : Nat) (free : Addr → Prop) : Array Value → State → Outcome → State → Prop := fun a st o t =>
  (Qc a st o t ∧ ∃ L, FrameEnd st o t L mc ms ∧ ∀ q ∈ L, free q.base) ∨ ∃ q, o = .threw q ∧ vx_T XC st q t mc ms free
/-- a callee that returns or throws -/
def vx_Met (l : Launch) (y : MethodName) (ws : List Cond) (rm : Room) (Pc : Array Value → State → Prop) (Qc : Array Value → State → Outcome → State → Prop) (XC : String → State → State → Prop) (mc ms : Nat) (free : Addr → Prop) : Prop :=
  MetFree l y (headSpec ws rm) Pc (fun _ _ _ _ _ => True) (vx_Q Qc XC mc ms free)
def vx_Post (XC : String → State → State → Prop) (mc ms : Nat) (free : Addr → Prop) : Pt → Array Value → Addr → Pt → Prop := fun A a q B =>
  ∃ (g : JFrame) (mk : MethodId) (t : State) (L : List Loc) (E : String) (ce : Cell), B.U.heap = t.heap ∧ B.U.vm = t.vm ∧ XC E (A.U.calling g mk a) t ∧ t.heap[q]? = some ce ∧ ce.vm = .none ∧ A.U.vm.findClass E = some ce.cls ∧ B.locs = A.locs ++ L ∧ (∀ z ∈ L, free z.base) ∧ B.cells = A.cells + mc ∧ B.slots = A.slots + ms
def vx_Back (l : Launch) (R : Room) (p : Program) (e : Env) (below : List Frame) (s : State) (sargs : Array Value) (y : MethodName) (len W9 : Nat)
    (Pre : Pt → Array Value → Prop) (Post : Pt → Array Value → Option Value → Pt → Prop) (PostX : Pt → Array Value → Addr → Pt → Prop) : Prop :=
  ∀ (m : MethodId) (meth : Method) (c : Code) (A : Pt) (g : JFrame) (ig : Instr) (mk : MethodId) (a : Array Value),
    Stand p l e R s m sargs below meth c A.U A.locs A.cells A.slots → g.method = m → g.locals.size = c.maxLocals → decode c.code g.pc = .ok (ig, len) →
    2 * g.monitorRoom + (g.stack.map fun v => v.category).sum ≤ W9 → A.U.methodNamed? y = some mk → Pre A a →
    (∃ (v : Option Value) (B : Pt), Stand p l e R s m sargs below meth c B.U B.locs B.cells B.slots ∧ Post A a v B ∧
      Steps p.tables e below (doInvoke e (A.U.setTop g) [] mk a).1 (B.U.setTop { g with pc := g.pc + len, stack := v.toList ++ g.stack })) ∨
    (∃ (q : Addr) (B : Pt), Stand p l e R s m sargs below meth c B.U B.locs B.cells B.slots ∧ PostX A a q B ∧
      Steps p.tables e below (doInvoke e (A.U.setTop g) [] mk a).1 ((B.U.setTop g).pushFrame (.throwing q)))
section Payer
variable {l : Launch} {R : Room} {p : Program} {e : Env} {below : List Frame} {s : State} {sargs : Array Value} {y : MethodName} {len W9 : Nat}
theorem vx_back {ws : List Cond} {rm : Room} {Pc : Array Value → State → Prop} {Qc : Array Value → State → Outcome → State → Prop} {XC : String → State → State → Prop} {mc ms : Nat} {free : Addr → Prop} {bytes : ByteArray} {maxL : Nat} {ret : Option FieldType}
    (hM : vx_Met l y ws rm Pc Qc XC mc ms free) (hblind : FrameBlind Pc) (hrc : rm.cells = mc) (hrs : rm.slots = ms)
    (hframes : rm.frames + 1 ≤ R.frames) (hlocals : W9 + (maxL + 11) + rm.locals ≤ R.locals)
    (hws : ∀ w ∈ ws, ∀ a' U, s.WarmedH U.vm → w.before a' U = true) (hcode : Cond.code y bytes maxL ret ∈ ws) (hinit : ∀ a' U, s.WarmedH U.vm → (Cond.initialized y.cls).before a' U = true) :
    vx_Back l R p e below s sargs y len W9 (PreOf R mc ms Pc) (PostOf Qc mc ms free) (vx_Post XC mc ms free) := by
  intro m meth c A g ig mk a X hg hsize hdg hW hn hp
  have h1 : (headSpec ws rm).pre.before a A.U = true := atoms_intro fun w hw => hws w hw _ _ X.warmed
  have h2 : (Cond.code y bytes maxL ret).before a A.U = true := hws _ hcode _ _ X.warmed
  have h3 : (Cond.initialized y.cls).before a A.U = true := hinit _ _ X.warmed
  have h4 : A.cells + (headSpec ws rm).room.cells ≤ R.cells := by rw [show (headSpec ws rm).room.cells = mc from hrc]; exact hp.1
  have h5 : A.slots + (headSpec ws rm).room.slots ≤ R.slots := by rw [show (headSpec ws rm).room.slots = ms from hrs]; exact hp.2.1
  have hPc : Pc a (A.U.calling g mk a) := hblind _ _ _ _ hp.2.2
  obtain ⟨U, Ls, c0, s0⟩ := A
  dsimp only [Pt.U, Pt.locs, Pt.cells, Pt.slots] at h1 h2 h3 h4 h5 X hn hPc ⊢
  obtain ⟨methY, cY, hmY, hcY, -, hlY, -, -, -, -⟩ := Cond.code_spec hn h2
  obtain ⟨kY, hkY, -⟩ := className_of_methodNamed hn
  have hinitY : kY.init = .initialized := Cond.initialized_spec (findClass_of_methodNamed hn) hkY h3
  have h : At U g.method c below := by rw [hg]; exact X.here
  have hlocals9 : W9 + (maxL + 11) + (headSpec ws rm).room.locals ≤ R.locals := hlocals
  have happ : (headSpec ws rm).appliesLoose y e.platform (U.calling g mk a) = true :=
    Spec.appliesLoose_calling (g := g) h hdg hn hkY hinitY
      (X.room_calling (g := g) (R' := (headSpec ws rm).room) hsize hmY hcY hframes (by rw [hlY]; omega) h4 h5) h1
  obtain ⟨mid, hmid⟩ := h.above
  have hfr : (U.setTop g).frames = (.java g :: mid) ++ below := by rw [State.frames_setTop' g h.top, hmid]; rfl
  obtain ⟨o, s₂, hsteps, -, hend, hq⟩ := Steps.callFree hM p X.admits X.cas X.clock (acts := []) hfr happ hPc trivial
  have hq' : vx_Q Qc XC mc ms free a (U.calling g mk a) o s₂ := hq
  rw [State.frames_setTop' g h.top] at hend
  obtain ⟨g₀, hg0⟩ := Option.isSome_iff_exists.mp h.top
  obtain ⟨r, hr⟩ := State.topJava?_eq_some.mp hg0
  have hr' : (({ U with heap := s₂.heap, slotsUsed := s₂.slotsUsed } : State).setVm s₂.vm).frames = .java g₀ :: r := hr
  rcases hq' with ⟨hqc, L, hfe, hL⟩ | ⟨q, rfl, E, ce, L, hx, hce, hcv, hcl, hW₂, hsm, hL⟩
  · obtain ⟨⟨v, rfl⟩, hW₂, e2, q2, q3, q4, q5, q6⟩ := id hfe
    have e3 : s₂ = ({ (U.calling g mk a).setFrames s₂.frames with heap := s₂.heap, slotsUsed := s₂.slotsUsed } : State).setVm s₂.vm := by
      have : s₂ = ({ s₂ with vm := (U.calling g mk a).vm } : State).setVm s₂.vm := rfl
      rw [e2] at this
      exact this
    obtain ⟨c₂, i₂, len₂, hc₂, hd₂, hf₂⟩ := hend
    have hW' : U.WarmedH s₂.vm := hW₂
    have hcc : c₂ = c := by
      have h1 : s₂.code? g.method = U.code? g.method := by
        rw [State.code?_eq, State.code?_eq, hW'.alike.method?]
      exact Option.some.inj (hc₂.symm.trans (h1.trans h.code))
    subst hcc
    have hlen : len₂ = len := by rw [hdg] at hd₂; cases hd₂; rfl
    subst hlen
    have hs₂ : s₂ = (({ U with heap := s₂.heap, slotsUsed := s₂.slotsUsed } : State).setVm s₂.vm).setTop { g with pc := g.pc + len₂, stack := v.toList ++ g.stack } := by
      refine e3.trans ?_
      rw [hf₂, State.calling_eq h.top, State.setFrames_setFrames, State.setTop_of_frames _ hr', hr]
      rfl
    have hsame : U.sameButNew ({ U with heap := s₂.heap, slotsUsed := s₂.slotsUsed } : State) L mc ms := by
      refine ⟨?_, q2, q3, q4, q5, q6⟩
      obtain ⟨t, ht, -⟩ := State.frames_cons hr
      show ({ U with heap := s₂.heap, slotsUsed := s₂.slotsUsed } : State) = { U.setFrames U.frames with heap := s₂.heap, slotsUsed := s₂.slotsUsed }
      rw [State.setFrames_self ht]
    subst hg
    refine Or.inl ⟨v, ⟨(({ U with heap := s₂.heap, slotsUsed := s₂.slotsUsed } : State).setVm s₂.vm), Ls ++ L, c0 + mc, s0 + ms⟩,
      ⟨X.admits, X.cas, X.clock, X.frames, X.room, X.hears, X.method, X.code, (X.here.setHeapUsed s₂.heap s₂.slotsUsed).setVm hW'.alike, X.tail, State.WarmedH.trans X.warmed hW', X.limits, X.bytes, X.same.trans (hsame.setVm s.vm)⟩,
      ⟨g, mk, s₂, L, rfl, rfl, hqc, rfl, hL, rfl, rfl⟩, ?_⟩
    show Steps p.tables e below _ ((({ U with heap := s₂.heap, slotsUsed := s₂.slotsUsed } : State).setVm s₂.vm).setTop { g with pc := g.pc + len₂, stack := v.toList ++ g.stack })
    rw [← hs₂]
    exact hsteps
  · obtain ⟨e2, q2, q3, q4, q5, q6⟩ := id hsm
    have e3 : s₂ = ({ (U.calling g mk a).setFrames s₂.frames with heap := s₂.heap, slotsUsed := s₂.slotsUsed } : State).setVm s₂.vm := by
      have : s₂ = ({ s₂ with vm := (U.calling g mk a).vm } : State).setVm s₂.vm := rfl
      rw [e2] at this
      exact this
    have hf₂ : s₂.frames = .throwing q :: .java g :: U.frames.tail := hend
    have hW' : U.WarmedH s₂.vm := hW₂
    have hs₂ : s₂ = ((({ U with heap := s₂.heap, slotsUsed := s₂.slotsUsed } : State).setVm s₂.vm).setTop g).pushFrame (.throwing q) := by
      refine e3.trans ?_
      rw [hf₂, State.calling_eq h.top, State.setFrames_setFrames, State.pushFrame, State.frames_setTop _ hr', State.setTop_of_frames _ hr', State.setFrames_setFrames, hr]
      rfl
    have hsame : U.sameButNew ({ U with heap := s₂.heap, slotsUsed := s₂.slotsUsed } : State) L mc ms := by
      refine ⟨?_, q2, q3, q4, q5, q6⟩
      obtain ⟨t, ht, -⟩ := State.frames_cons hr
      show ({ U with heap := s₂.heap, slotsUsed := s₂.slotsUsed } : State) = { U.setFrames U.frames with heap := s₂.heap, slotsUsed := s₂.slotsUsed }
      rw [State.setFrames_self ht]
    subst hg
    refine Or.inr ⟨q, ⟨(({ U with heap := s₂.heap, slotsUsed := s₂.slotsUsed } : State).setVm s₂.vm), Ls ++ L, c0 + mc, s0 + ms⟩,
      ⟨X.admits, X.cas, X.clock, X.frames, X.room, X.hears, X.method, X.code, (X.here.setHeapUsed s₂.heap s₂.slotsUsed).setVm hW'.alike, X.tail, State.WarmedH.trans X.warmed hW', X.limits, X.bytes, X.same.trans (hsame.setVm s.vm)⟩,
      ⟨g, mk, s₂, L, E, ce, rfl, rfl, hx, hce, hcv, hcl, rfl, hL, rfl, rfl⟩, ?_⟩
    show Steps p.tables e below _ (((({ U with heap := s₂.heap, slotsUsed := s₂.slotsUsed } : State).setVm s₂.vm).setTop g).pushFrame (.throwing q))
    rw [← hs₂]
    exact hsteps
end Payer
section Calls
variable {p : Program} {l : Launch} {e : Env} {R : Room} {s : State} {m : MethodId} {args : Array Value} {below : List Frame} {meth : Method} {c : Code} {T : State} {locs : List Loc} {cells slots : Nat}
theorem vx_callV (X : Stand p l e R s m args below meth c T locs cells slots) (hexec : p.tables.exec = Jvm.exec) {own C : String} {index : Nat} {y : MethodName} {bytes : ByteArray} {maxL : Nat} {ret : Option FieldType}
    (hown : s.vm.findClass own = some m.cls) (hlink : (Cond.methodLink own index y).before args s = true) (hinst : (Cond.instanceMethod y).before args s = true) (hsel : (Cond.selects C y y).before args s = true)
    (hcode : (Cond.code y bytes maxL ret).before args s = true) (hy : y.cls ≠ "java/lang/invoke/MethodHandle" ∧ y.cls ≠ "java/lang/invoke/VarHandle")
    {W9 : Nat} {Pre : Pt → Array Value → Prop} {Post : Pt → Array Value → Option Value → Pt → Prop} {PostX : Pt → Array Value → Addr → Pt → Prop} (hK : vx_Back l R p e below s args y 3 W9 Pre Post PostX)
    {b : Addr} {cellB : Cell} (hcell : T.heap[b]? = some cellB) (hobj : cellB.vm.isStatics = false) (hcls : s.vm.findClass C = some cellB.cls)
    {g : JFrame} (hg : g.method = m) (hsize : g.locals.size = c.maxLocals) {argsL rest : List Value} (hlen : ∀ sig, parseMethodDescriptor y.desc = some sig → argsL.length = sig.parameters.length)
    (hstack : g.stack = argsL.reverse ++ .ref b :: rest) (hW : 2 * g.monitorRoom + (rest.map fun v => v.category).sum ≤ W9) (hdg : decode c.code g.pc = .ok (.invokevirtual index, 3))
    (hpre : ∀ vm₁, s.WarmedH vm₁ → Pre ⟨T.setVm vm₁, locs, cells, slots⟩ (Value.ref b :: argsL).toArray) :
    (∃ (v : Option Value) (vm₁ : Vm) (B : Pt), s.WarmedH vm₁ ∧ Stand p l e R s m args below meth c B.U B.locs B.cells B.slots ∧ Post ⟨T.setVm vm₁, locs, cells, slots⟩ (Value.ref b :: argsL).toArray v B ∧
      ∀ target, Steps p.tables e below (B.U.setTop { g with pc := g.pc + 3, stack := v.toList ++ rest }) target → Steps p.tables e below (T.setTop g) target) ∨
    (∃ (q : Addr) (vm₁ : Vm) (B : Pt), s.WarmedH vm₁ ∧ Stand p l e R s m args below meth c B.U B.locs B.cells B.slots ∧ PostX ⟨T.setVm vm₁, locs, cells, slots⟩ (Value.ref b :: argsL).toArray q B ∧
      Steps p.tables e below (T.setTop g) ((B.U.setTop { g with stack := rest }).pushFrame (.throwing q))) := by
  obtain ⟨mk, methM, hnamed, hmethM, hstM, habM⟩ := Cond.instanceMethod_spec hinst
  obtain ⟨methM', cM, hmethM', -, -, -, -, -, -, hsigM⟩ := Cond.code_spec hnamed hcode
  cases hmethM.symm.trans hmethM'
  obtain ⟨c2, r2, m2, q1, q2, q3, q4, kP, hkP, hkPi⟩ := Cond.selects_spec hsel
  cases hcls.symm.trans q1
  cases (State.methodFound?_of_named hnamed hy).symm.trans q2
  cases hnamed.symm.trans q3
  have hselP : selectMethod e.platform s.vm cellB.cls mk = .method mk := by rw [Launch.admits_selectMethod X.admits]; exact q4
  obtain ⟨vm₁, X₁, hstep₁⟩ := X.invokevirtual hexec hown hlink hnamed hmethM hstM hkP hkPi hy (a := b) (cell := cellB) hcell
    (fun z h => by rw [h] at hobj; cases hobj) hselP hmethM habM hkP hkPi (g := g) hg (argsL := argsL) (rest := rest) (hlen _ hsigM) hstack hdg
  rcases hK m meth c ⟨T.setVm vm₁, locs, cells, slots⟩ { g with stack := rest } (.invokevirtual index) mk (Value.ref b :: argsL).toArray X₁ hg hsize hdg hW (X₁.named hnamed) (hpre vm₁ X₁.warmed) with ⟨v, B, X', hpost, hsteps⟩ | ⟨q, B, X', hpost, hsteps⟩
  · exact Or.inl ⟨v, vm₁, B, X₁.warmed, X', hpost, fun target h => hstep₁ _ fun acts => by rw [doInvoke_state]; exact hsteps.trans h⟩
  · exact Or.inr ⟨q, vm₁, B, X₁.warmed, X', hpost, hstep₁ _ fun acts => by rw [doInvoke_state]; exact hsteps⟩
theorem vx_callS (X : Stand p l e R s m args below meth c T locs cells slots) (hexec : p.tables.exec = Jvm.exec) {own : String} {index : Nat} {y : MethodName} {bytes : ByteArray} {maxL : Nat} {ret : Option FieldType}
    (hown : s.vm.findClass own = some m.cls) (hlink : (Cond.methodLink own index y).before args s = true) (hstat : (Cond.static y).before args s = true) (hinit : (Cond.initialized y.cls).before args s = true)
    (hcode : (Cond.code y bytes maxL ret).before args s = true) (hy : y.cls ≠ "java/lang/invoke/MethodHandle" ∧ y.cls ≠ "java/lang/invoke/VarHandle")
    {W9 : Nat} {Pre : Pt → Array Value → Prop} {Post : Pt → Array Value → Option Value → Pt → Prop} {PostX : Pt → Array Value → Addr → Pt → Prop} (hK : vx_Back l R p e below s args y 3 W9 Pre Post PostX)
    {g : JFrame} (hg : g.method = m) (hsize : g.locals.size = c.maxLocals) {argsL rest : List Value} (hlen : ∀ sig, parseMethodDescriptor y.desc = some sig → argsL.length = sig.parameters.length)
    (hstack : g.stack = argsL.reverse ++ rest) (hW : 2 * g.monitorRoom + (rest.map fun v => v.category).sum ≤ W9) (hdg : decode c.code g.pc = .ok (.invokestatic index, 3))
    (hpre : ∀ vm₁, s.WarmedH vm₁ → Pre ⟨T.setVm vm₁, locs, cells, slots⟩ argsL.toArray) :
    (∃ (v : Option Value) (vm₁ : Vm) (B : Pt), s.WarmedH vm₁ ∧ Stand p l e R s m args below meth c B.U B.locs B.cells B.slots ∧ Post ⟨T.setVm vm₁, locs, cells, slots⟩ argsL.toArray v B ∧
      ∀ target, Steps p.tables e below (B.U.setTop { g with pc := g.pc + 3, stack := v.toList ++ rest }) target → Steps p.tables e below (T.setTop g) target) ∨
    (∃ (q : Addr) (vm₁ : Vm) (B : Pt), s.WarmedH vm₁ ∧ Stand p l e R s m args below meth c B.U B.locs B.cells B.slots ∧ PostX ⟨T.setVm vm₁, locs, cells, slots⟩ argsL.toArray q B ∧
      Steps p.tables e below (T.setTop g) ((B.U.setTop { g with stack := rest }).pushFrame (.throwing q))) := by
  obtain ⟨mk, hnamed⟩ := Cond.code_named hcode
  obtain ⟨methM, cM, hmethM, -, -, -, -, -, -, hsigM⟩ := Cond.code_spec hnamed hcode
  have hstatic : methM.isStatic = true := Cond.static_spec hnamed hmethM hstat
  obtain ⟨kP, hkP, -⟩ := className_of_methodNamed hnamed
  have hinitP : kP.init = .initialized := Cond.initialized_spec (findClass_of_methodNamed hnamed) hkP hinit
  obtain ⟨vm₁, X₁, hstep₁⟩ := X.invokestatic hexec hown hlink hnamed hmethM hstatic hkP hinitP hy (g := g) hg (argsL := argsL) (rest := rest) (hlen _ hsigM) hstack hdg
  rcases hK m meth c ⟨T.setVm vm₁, locs, cells, slots⟩ { g with stack := rest } (.invokestatic index) mk argsL.toArray X₁ hg hsize hdg hW (X₁.named hnamed) (hpre vm₁ X₁.warmed) with ⟨v, B, X', hpost, hsteps⟩ | ⟨q, B, X', hpost, hsteps⟩
  · exact Or.inl ⟨v, vm₁, B, X₁.warmed, X', hpost, fun target h => hstep₁ _ fun acts => by rw [doInvoke_state]; exact hsteps.trans h⟩
  · exact Or.inr ⟨q, vm₁, B, X₁.warmed, X', hpost, hstep₁ _ fun acts => by rw [doInvoke_state]; exact hsteps⟩
end Calls
theorem vx_cls {s : State} {T : State} {vm₁ : Vm} {E : String} {k : ClassId} (hW : s.WarmedH vm₁) (h : (T.setVm vm₁).vm.findClass E = some k) : s.vm.findClass E = some k := by
  have h1 : vm₁.findClass E = some k := h
  rw [hW.alike.findClass] at h1
  exact h1
/-- the method's frame g, with q thrown over it -/
def vx_W (p : Program) (l : Launch) (e : Env) (R : Room) (s : State) (m : MethodId) (args : Array Value) (below : List Frame) (meth : Method) (c : Code) (H : Heap) (locs : List Loc) (cells slots : Nat) (Q : State → Prop) (g : JFrame) (q : Addr) : Prop :=
  ∀ T : State, T.heap = H → Stand p l e R s m args below meth c T locs cells slots → ∃ t, Steps p.tables e below ((T.setTop g).pushFrame (.throwing q)) t ∧ Q t
def vx_Run (p : Program) (l : Launch) (e : Env) (R : Room) (s : State) (m : MethodId) (args : Array Value) (below : List Frame) (meth : Method) (c : Code) (H : Heap) (locs : List Loc) (cells slots mc ms : Nat) (g : JFrame) (rest : List Value) (Qa : State → Outcome → State → Prop) (XC : String → State → State → Prop) (free : Addr → Prop) : Prop :=
  ∀ T : State, T.heap = H → Stand p l e R s m args below meth c T locs cells slots →
    (∃ (v : Option Value) (st₀ t T' : State) (L : List Loc), st₀.heap = H ∧ Stand p l e R s m args below meth c T' (locs ++ L) (cells + mc) (slots + ms) ∧ (∀ q ∈ L, free q.base) ∧ T'.heap = t.heap ∧ T'.vm = t.vm ∧ Qa st₀ (.returned v) t ∧
      Goes p e below T g T' { g with pc := g.pc + 3, stack := v.toList ++ rest }) ∨
    (∃ (q : Addr) (st₀ t T' : State) (L : List Loc) (E : String) (ce : Cell), st₀.heap = H ∧ Stand p l e R s m args below meth c T' (locs ++ L) (cells + mc) (slots + ms) ∧ (∀ z ∈ L, free z.base) ∧ T'.heap = t.heap ∧ T'.vm = t.vm ∧ XC E st₀ t ∧ t.heap[q]? = some ce ∧ ce.vm = .none ∧ s.vm.findClass E = some ce.cls ∧
      Steps p.tables e below (T.setTop g) ((T'.setTop { g with stack := rest }).pushFrame (.throwing q)))
def vx_X {S : Type} (px : S → Prop) (B : String → S → State → Prop) (A : Nat → Prop) : String → State → State → Prop := fun E st t => ∃ u : S, px u ∧ B E u t ∧ va_F A st t
section Runs
variable {p : Program} {l : Launch} {e : Env} {R : Room} {s : State} {m : MethodId} {args : Array Value} {below : List Frame} {meth : Method} {c : Code} {H : Heap} {locs : List Loc} {cells slots : Nat}
variable {y : MethodName} {bytes cc : ByteArray} {maxL nL mc ms n index : Nat} {ret : Option FieldType} {ws : List Cond} {rm : Room} {Pc : Array Value → State → Prop} {Qc : Array Value → State → Outcome → State → Prop} {XC : String → State → State → Prop} {free : Addr → Prop} {Ts : List Cond} {own C : String} {b : Addr} {As rest : List Value} {g : JFrame}
theorem vx_callBack (cb : CallB R s args own index y bytes maxL ret ws rm mc ms n) (hM : vx_Met l y ws rm Pc Qc XC mc ms free) (hbl : FrameBlind Pc) : vx_Back l R p e below s args y 3 8 (PreOf R mc ms Pc) (PostOf Qc mc ms free) (vx_Post XC mc ms free) := by
  obtain ⟨hrc, hrs, hfr, hlo, hws, hcw, -, hini, -⟩ := cb
  exact vx_back (bytes := bytes) (maxL := maxL) (ret := ret) hM hbl hrc hrs hfr hlo hws hcw (fun a' U hW => word_at hW (Or.inl (by first | rfl | simp [Cond.onTables, Cond.keeps, Cond.steady])) hini)
theorem vx_runV (S : CallFix p m c cc nL s args Ts own) (hM : vx_Met l y ws rm Pc Qc XC mc ms free) (cw : CallW R s args own C index y bytes maxL ret ws rm mc ms n) (hp : PreV s H C b Pc As)
    (hg : g.method = m) (hn : As.length = n) (hsize : g.locals.size = nL) (hstack : g.stack = As.reverse ++ .ref b :: rest) (hW : 2 * g.monitorRoom + (rest.map fun v => v.category).sum ≤ 8) (hdg : decode cc g.pc = .ok (.invokevirtual index, 3)) (hf : cells + mc ≤ R.cells ∧ slots + ms ≤ R.slots) :
    vx_Run p l e R s m args below meth c H locs cells slots mc ms g rest (Qc (Value.ref b :: As).toArray) XC free := by
  have hK : vx_Back l R p e below s args y 3 8 (PreOf R mc ms Pc) (PostOf Qc mc ms free) (vx_Post XC mc ms free) := vx_callBack cw.1 hM hp.1
  obtain ⟨⟨-, -, -, -, -, -, hcode, -, hy, hlen, hl⟩, hin, hse⟩ := cw
  obtain ⟨hx, hb, hml, ho, -⟩ := S
  obtain ⟨-, ⟨cellB, hcB, hoB, hclB⟩, hPc⟩ := hp
  intro T hT X
  rcases vx_callV X hx (C := C) (bytes := bytes) (maxL := maxL) (ret := ret) ho hl hin hse hcode hy hK (by rw [hT]; exact hcB) hoB hclB hg (hsize.trans hml.symm) (argsL := As) (rest := rest) (fun sig h => hn.trans (hlen sig h)) hstack hW (by rw [hb]; exact hdg)
    (fun vm₁ hW₁ => ⟨hf.1, hf.2, hPc (T.setVm vm₁) hT hW₁⟩) with ⟨v, vm₁, ⟨U', l2, c2, s2⟩, hW₁, X', ⟨g', mk, t, L, e1, e2, hq, h1, hL, h2, h3⟩, st⟩ | ⟨q, vm₁, ⟨U', l2, c2, s2⟩, hW₁, X', ⟨g', mk, t, L, E, ce, e1, e2, hq, hce, hcv, hcl, h1, hL, h2, h3⟩, st⟩
  · dsimp only [Pt.U, Pt.locs, Pt.cells, Pt.slots] at X' e1 e2 h1 h2 h3 st
    subst h1; subst h2; subst h3
    exact Or.inl ⟨v, (T.setVm vm₁).calling g' mk (Value.ref b :: As).toArray, t, U', L, hT, X', hL, e1, e2, hq, st⟩
  · dsimp only [Pt.U, Pt.locs, Pt.cells, Pt.slots] at X' e1 e2 h1 h2 h3 st hcl
    subst h1; subst h2; subst h3
    exact Or.inr ⟨q, (T.setVm vm₁).calling g' mk (Value.ref b :: As).toArray, t, U', L, E, ce, hT, X', hL, e1, e2, hq, hce, hcv, vx_cls hW₁ hcl, st⟩
theorem vx_runS (S : CallFix p m c cc nL s args Ts own) (hM : vx_Met l y ws rm Pc Qc XC mc ms free) (cw : CallB R s args own index y bytes maxL ret ws rm mc ms n ∧ (Cond.static y).before args s = true) (hp : PreS s H Pc As)
    (hg : g.method = m) (hn : As.length = n) (hsize : g.locals.size = nL) (hstack : g.stack = As.reverse ++ rest) (hW : 2 * g.monitorRoom + (rest.map fun v => v.category).sum ≤ 8) (hdg : decode cc g.pc = .ok (.invokestatic index, 3)) (hf : cells + mc ≤ R.cells ∧ slots + ms ≤ R.slots) :
    vx_Run p l e R s m args below meth c H locs cells slots mc ms g rest (Qc As.toArray) XC free := by
  have hK : vx_Back l R p e below s args y 3 8 (PreOf R mc ms Pc) (PostOf Qc mc ms free) (vx_Post XC mc ms free) := vx_callBack cw.1 hM hp.1
  obtain ⟨⟨-, -, -, -, -, -, hcode, hini, hy, hlen, hl⟩, hstt⟩ := cw
  obtain ⟨hx, hb, hml, ho, -⟩ := S
  intro T hT X
  rcases vx_callS X hx (bytes := bytes) (maxL := maxL) (ret := ret) ho hl hstt hini hcode hy hK hg (hsize.trans hml.symm) (argsL := As) (rest := rest) (fun sig h => hn.trans (hlen sig h)) hstack hW (by rw [hb]; exact hdg)
    (fun vm₁ hW₁ => ⟨hf.1, hf.2, hp.2 (T.setVm vm₁) hT hW₁⟩) with ⟨v, vm₁, ⟨U', l2, c2, s2⟩, hW₁, X', ⟨g', mk, t, L, e1, e2, hq, h1, hL, h2, h3⟩, st⟩ | ⟨q, vm₁, ⟨U', l2, c2, s2⟩, hW₁, X', ⟨g', mk, t, L, E, ce, e1, e2, hq, hce, hcv, hcl, h1, hL, h2, h3⟩, st⟩
  · dsimp only [Pt.U, Pt.locs, Pt.cells, Pt.slots] at X' e1 e2 h1 h2 h3 st
    subst h1; subst h2; subst h3
    exact Or.inl ⟨v, (T.setVm vm₁).calling g' mk As.toArray, t, U', L, hT, X', hL, e1, e2, hq, st⟩
  · dsimp only [Pt.U, Pt.locs, Pt.cells, Pt.slots] at X' e1 e2 h1 h2 h3 st hcl
    subst h1; subst h2; subst h3
    exact Or.inr ⟨q, (T.setVm vm₁).calling g' mk As.toArray, t, U', L, E, ce, hT, X', hL, e1, e2, hq, hce, hcv, vx_cls hW₁ hcl, st⟩
end Runs
section Rows
variable {p : Program} {l : Launch} {e : Env} {R : Room} {s : State} {m : MethodId} {args : Array Value} {below : List Frame} {meth : Method} {c : Code} {H : Heap} {locs : List Loc} {cells slots : Nat} {Q : State → Prop}
variable {mc ms : Nat} {free : Addr → Prop} {A0 A1 : Nat → Prop} {H0 : Heap} {a : Array Value} {pc : Nat} {ls : Array Slot} {st0 rest : List Value}
theorem vx_keep {st₀ t T' : State} {L : List Loc} (h0 : st₀.heap = H) (e1 : T'.heap = t.heap) (hS : va_S A0 H0 H locs) (hA : ∀ q, q < H.size → A1 q → A0 q) (hf : ∀ q, free q → A0 q) (hL : ∀ q ∈ L, free q.base) (hF : va_F A1 st₀ t) :
    H.size ≤ T'.heap.size ∧ (∀ q : Nat, q < H.size → ¬ A1 q → T'.heap[q]? = H[q]?) ∧ va_S A0 H0 T'.heap (locs ++ L) := by
  obtain ⟨hz, hk⟩ := hF
  rw [h0] at hz hk
  exact ⟨by rw [e1]; exact hz, fun q h1 h2 => by rw [e1]; exact hk q h1 h2,
    ⟨Nat.le_trans hS.1 (by rw [e1]; exact hz), fun q h1 h2 => by rw [e1, hk q (Nat.lt_of_lt_of_le h1 hS.1) (fun z => h2 (hA q (Nat.lt_of_lt_of_le h1 hS.1) z))]; exact hS.2.1 q h1 h2, fun q hq => by
      rcases List.mem_append.mp hq with h | h
      · exact hS.2.2 q h
      · exact hf _ (hL q h)⟩⟩
theorem vx_calli {S SX : Type} {post : Int32 → S → Prop} {px : SX → Prop} {B : S → State → Prop} {BX : String → SX → State → Prop} {AX : Nat → Prop} (hr : vx_Run p l e R s m args below meth c H locs cells slots mc ms (F0 m pc ls st0) rest (va_Qi post B A1 a) (vx_X px BX AX) free) (hS : va_S A0 H0 H locs) (hA : ∀ q, q < H.size → A1 q → A0 q) (hf : ∀ q, free q → A0 q) (hAX : ∀ q, q < H.size → AX q → A0 q)
    (kx : ∀ (E : String) (ce : Cell) (q9 : Addr) (u : SX) (t : State) (H1 : Heap) (locs1 : List Loc), t.heap = H1 → s.vm.Alike t.vm → px u → BX E u t → H.size ≤ H1.size → (∀ q : Nat, q < H.size → ¬ AX q → H1[q]? = H[q]?) → va_S A0 H0 H1 locs1 → H1[q9]? = some ce → ce.vm = .none → s.vm.findClass E = some ce.cls → vx_W p l e R s m args below meth c H1 locs1 (cells + mc) (slots + ms) Q (F0 m pc ls rest) q9)
    (kk : ∀ (r : Int32) (u : S) (t : State) (H1 : Heap) (locs1 : List Loc), t.heap = H1 → s.vm.Alike t.vm → post r u → B u t → H.size ≤ H1.size → (∀ q : Nat, q < H.size → ¬ A1 q → H1[q]? = H[q]?) → va_S A0 H0 H1 locs1 → W p l e R s m args below meth c H1 locs1 (cells + mc) (slots + ms) Q (F0 m (pc + 3) ls (.int r :: rest))) : W p l e R s m args below meth c H locs cells slots Q (F0 m pc ls st0) := by
  intro T hT X
  rcases hr T hT X with ⟨v, st₀, t, T', L, h0, X', hL, e1, e2, ⟨⟨r, u, hv, hp, hb⟩, hF⟩, st⟩ | ⟨q, st₀, t, T', L, E, ce, h0, X', hL, e1, e2, ⟨u, hp, hb, hF⟩, hce, hcv, hcl, st⟩
  · cases hv
    obtain ⟨k1, k2, k3⟩ := vx_keep h0 e1 hS hA hf hL hF
    obtain ⟨t2, a1, b1⟩ := kk r u t T'.heap (locs ++ L) e1.symm (by rw [← e2]; exact X'.warmed.alike) hp hb k1 k2 k3 T' rfl X'
    exact ⟨t2, st t2 a1, b1⟩
  · obtain ⟨k1, k2, k3⟩ := vx_keep h0 e1 hS hAX hf hL hF
    obtain ⟨t2, a1, b1⟩ := kx E ce q u t T'.heap (locs ++ L) e1.symm (by rw [← e2]; exact X'.warmed.alike) hp hb k1 k2 k3 (by rw [e1]; exact hce) hcv hcl T' rfl X'
    exact ⟨t2, st.trans a1, b1⟩
theorem vx_calll {S SX : Type} {post : Int64 → S → Prop} {px : SX → Prop} {B : S → State → Prop} {BX : String → SX → State → Prop} {AX : Nat → Prop} (hr : vx_Run p l e R s m args below meth c H locs cells slots mc ms (F0 m pc ls st0) rest (va_Ql post B A1 a) (vx_X px BX AX) free) (hS : va_S A0 H0 H locs) (hA : ∀ q, q < H.size → A1 q → A0 q) (hf : ∀ q, free q → A0 q) (hAX : ∀ q, q < H.size → AX q → A0 q)
    (kx : ∀ (E : String) (ce : Cell) (q9 : Addr) (u : SX) (t : State) (H1 : Heap) (locs1 : List Loc), t.heap = H1 → s.vm.Alike t.vm → px u → BX E u t → H.size ≤ H1.size → (∀ q : Nat, q < H.size → ¬ AX q → H1[q]? = H[q]?) → va_S A0 H0 H1 locs1 → H1[q9]? = some ce → ce.vm = .none → s.vm.findClass E = some ce.cls → vx_W p l e R s m args below meth c H1 locs1 (cells + mc) (slots + ms) Q (F0 m pc ls rest) q9)
    (kk : ∀ (r : Int64) (u : S) (t : State) (H1 : Heap) (locs1 : List Loc), t.heap = H1 → s.vm.Alike t.vm → post r u → B u t → H.size ≤ H1.size → (∀ q : Nat, q < H.size → ¬ A1 q → H1[q]? = H[q]?) → va_S A0 H0 H1 locs1 → W p l e R s m args below meth c H1 locs1 (cells + mc) (slots + ms) Q (F0 m (pc + 3) ls (.long r :: rest))) : W p l e R s m args below meth c H locs cells slots Q (F0 m pc ls st0) := by
  intro T hT X
  rcases hr T hT X with ⟨v, st₀, t, T', L, h0, X', hL, e1, e2, ⟨⟨r, u, hv, hp, hb⟩, hF⟩, st⟩ | ⟨q, st₀, t, T', L, E, ce, h0, X', hL, e1, e2, ⟨u, hp, hb, hF⟩, hce, hcv, hcl, st⟩
  · cases hv
    obtain ⟨k1, k2, k3⟩ := vx_keep h0 e1 hS hA hf hL hF
    obtain ⟨t2, a1, b1⟩ := kk r u t T'.heap (locs ++ L) e1.symm (by rw [← e2]; exact X'.warmed.alike) hp hb k1 k2 k3 T' rfl X'
    exact ⟨t2, st t2 a1, b1⟩
  · obtain ⟨k1, k2, k3⟩ := vx_keep h0 e1 hS hAX hf hL hF
    obtain ⟨t2, a1, b1⟩ := kx E ce q u t T'.heap (locs ++ L) e1.symm (by rw [← e2]; exact X'.warmed.alike) hp hb k1 k2 k3 (by rw [e1]; exact hce) hcv hcl T' rfl X'
    exact ⟨t2, st.trans a1, b1⟩
theorem vx_callf {S SX : Type} {post : UInt32 → S → Prop} {px : SX → Prop} {B : S → State → Prop} {BX : String → SX → State → Prop} {AX : Nat → Prop} (hr : vx_Run p l e R s m args below meth c H locs cells slots mc ms (F0 m pc ls st0) rest (va_Qf post B A1 a) (vx_X px BX AX) free) (hS : va_S A0 H0 H locs) (hA : ∀ q, q < H.size → A1 q → A0 q) (hf : ∀ q, free q → A0 q) (hAX : ∀ q, q < H.size → AX q → A0 q)
    (kx : ∀ (E : String) (ce : Cell) (q9 : Addr) (u : SX) (t : State) (H1 : Heap) (locs1 : List Loc), t.heap = H1 → s.vm.Alike t.vm → px u → BX E u t → H.size ≤ H1.size → (∀ q : Nat, q < H.size → ¬ AX q → H1[q]? = H[q]?) → va_S A0 H0 H1 locs1 → H1[q9]? = some ce → ce.vm = .none → s.vm.findClass E = some ce.cls → vx_W p l e R s m args below meth c H1 locs1 (cells + mc) (slots + ms) Q (F0 m pc ls rest) q9)
    (kk : ∀ (r : UInt32) (u : S) (t : State) (H1 : Heap) (locs1 : List Loc), t.heap = H1 → s.vm.Alike t.vm → post r u → B u t → H.size ≤ H1.size → (∀ q : Nat, q < H.size → ¬ A1 q → H1[q]? = H[q]?) → va_S A0 H0 H1 locs1 → W p l e R s m args below meth c H1 locs1 (cells + mc) (slots + ms) Q (F0 m (pc + 3) ls (.float r :: rest))) : W p l e R s m args below meth c H locs cells slots Q (F0 m pc ls st0) := by
  intro T hT X
  rcases hr T hT X with ⟨v, st₀, t, T', L, h0, X', hL, e1, e2, ⟨⟨r, u, hv, hp, hb⟩, hF⟩, st⟩ | ⟨q, st₀, t, T', L, E, ce, h0, X', hL, e1, e2, ⟨u, hp, hb, hF⟩, hce, hcv, hcl, st⟩
  · cases hv
    obtain ⟨k1, k2, k3⟩ := vx_keep h0 e1 hS hA hf hL hF
    obtain ⟨t2, a1, b1⟩ := kk r u t T'.heap (locs ++ L) e1.symm (by rw [← e2]; exact X'.warmed.alike) hp hb k1 k2 k3 T' rfl X'
    exact ⟨t2, st t2 a1, b1⟩
  · obtain ⟨k1, k2, k3⟩ := vx_keep h0 e1 hS hAX hf hL hF
    obtain ⟨t2, a1, b1⟩ := kx E ce q u t T'.heap (locs ++ L) e1.symm (by rw [← e2]; exact X'.warmed.alike) hp hb k1 k2 k3 (by rw [e1]; exact hce) hcv hcl T' rfl X'
    exact ⟨t2, st.trans a1, b1⟩
theorem vx_calld {S SX : Type} {post : UInt64 → S → Prop} {px : SX → Prop} {B : S → State → Prop} {BX : String → SX → State → Prop} {AX : Nat → Prop} (hr : vx_Run p l e R s m args below meth c H locs cells slots mc ms (F0 m pc ls st0) rest (va_Qd post B A1 a) (vx_X px BX AX) free) (hS : va_S A0 H0 H locs) (hA : ∀ q, q < H.size → A1 q → A0 q) (hf : ∀ q, free q → A0 q) (hAX : ∀ q, q < H.size → AX q → A0 q)
    (kx : ∀ (E : String) (ce : Cell) (q9 : Addr) (u : SX) (t : State) (H1 : Heap) (locs1 : List Loc), t.heap = H1 → s.vm.Alike t.vm → px u → BX E u t → H.size ≤ H1.size → (∀ q : Nat, q < H.size → ¬ AX q → H1[q]? = H[q]?) → va_S A0 H0 H1 locs1 → H1[q9]? = some ce → ce.vm = .none → s.vm.findClass E = some ce.cls → vx_W p l e R s m args below meth c H1 locs1 (cells + mc) (slots + ms) Q (F0 m pc ls rest) q9)
    (kk : ∀ (r : UInt64) (u : S) (t : State) (H1 : Heap) (locs1 : List Loc), t.heap = H1 → s.vm.Alike t.vm → post r u → B u t → H.size ≤ H1.size → (∀ q : Nat, q < H.size → ¬ A1 q → H1[q]? = H[q]?) → va_S A0 H0 H1 locs1 → W p l e R s m args below meth c H1 locs1 (cells + mc) (slots + ms) Q (F0 m (pc + 3) ls (.double r :: rest))) : W p l e R s m args below meth c H locs cells slots Q (F0 m pc ls st0) := by
  intro T hT X
  rcases hr T hT X with ⟨v, st₀, t, T', L, h0, X', hL, e1, e2, ⟨⟨r, u, hv, hp, hb⟩, hF⟩, st⟩ | ⟨q, st₀, t, T', L, E, ce, h0, X', hL, e1, e2, ⟨u, hp, hb, hF⟩, hce, hcv, hcl, st⟩
  · cases hv
    obtain ⟨k1, k2, k3⟩ := vx_keep h0 e1 hS hA hf hL hF
    obtain ⟨t2, a1, b1⟩ := kk r u t T'.heap (locs ++ L) e1.symm (by rw [← e2]; exact X'.warmed.alike) hp hb k1 k2 k3 T' rfl X'
    exact ⟨t2, st t2 a1, b1⟩
  · obtain ⟨k1, k2, k3⟩ := vx_keep h0 e1 hS hAX hf hL hF
    obtain ⟨t2, a1, b1⟩ := kx E ce q u t T'.heap (locs ++ L) e1.symm (by rw [← e2]; exact X'.warmed.alike) hp hb k1 k2 k3 (by rw [e1]; exact hce) hcv hcl T' rfl X'
    exact ⟨t2, st.trans a1, b1⟩
theorem vx_callv {S SX : Type} {post : S → Prop} {px : SX → Prop} {B : S → State → Prop} {BX : String → SX → State → Prop} {AX : Nat → Prop} (hr : vx_Run p l e R s m args below meth c H locs cells slots mc ms (F0 m pc ls st0) rest (va_Qv post B A1 a) (vx_X px BX AX) free) (hS : va_S A0 H0 H locs) (hA : ∀ q, q < H.size → A1 q → A0 q) (hf : ∀ q, free q → A0 q) (hAX : ∀ q, q < H.size → AX q → A0 q)
    (kx : ∀ (E : String) (ce : Cell) (q9 : Addr) (u : SX) (t : State) (H1 : Heap) (locs1 : List Loc), t.heap = H1 → s.vm.Alike t.vm → px u → BX E u t → H.size ≤ H1.size → (∀ q : Nat, q < H.size → ¬ AX q → H1[q]? = H[q]?) → va_S A0 H0 H1 locs1 → H1[q9]? = some ce → ce.vm = .none → s.vm.findClass E = some ce.cls → vx_W p l e R s m args below meth c H1 locs1 (cells + mc) (slots + ms) Q (F0 m pc ls rest) q9)
    (kk : ∀ (u : S) (t : State) (H1 : Heap) (locs1 : List Loc), t.heap = H1 → s.vm.Alike t.vm → post u → B u t → H.size ≤ H1.size → (∀ q : Nat, q < H.size → ¬ A1 q → H1[q]? = H[q]?) → va_S A0 H0 H1 locs1 → W p l e R s m args below meth c H1 locs1 (cells + mc) (slots + ms) Q (F0 m (pc + 3) ls (rest))) : W p l e R s m args below meth c H locs cells slots Q (F0 m pc ls st0) := by
  intro T hT X
  rcases hr T hT X with ⟨v, st₀, t, T', L, h0, X', hL, e1, e2, ⟨⟨u, hv, hp, hb⟩, hF⟩, st⟩ | ⟨q, st₀, t, T', L, E, ce, h0, X', hL, e1, e2, ⟨u, hp, hb, hF⟩, hce, hcv, hcl, st⟩
  · cases hv
    obtain ⟨k1, k2, k3⟩ := vx_keep h0 e1 hS hA hf hL hF
    obtain ⟨t2, a1, b1⟩ := kk u t T'.heap (locs ++ L) e1.symm (by rw [← e2]; exact X'.warmed.alike) hp hb k1 k2 k3 T' rfl X'
    exact ⟨t2, st t2 a1, b1⟩
  · obtain ⟨k1, k2, k3⟩ := vx_keep h0 e1 hS hAX hf hL hF
    obtain ⟨t2, a1, b1⟩ := kx E ce q u t T'.heap (locs ++ L) e1.symm (by rw [← e2]; exact X'.warmed.alike) hp hb k1 k2 k3 (by rw [e1]; exact hce) hcv hcl T' rfl X'
    exact ⟨t2, st.trans a1, b1⟩
/-- caught by the row x of this method's table; the rows ahead don't take it -/
theorem vx_catch {own name : String} {E : String} {ce : Cell} {q : Addr} (hown : s.vm.findClass own = some m.cls) (pre : List ExceptionTableEntry) (x : ExceptionTableEntry) (suf : List ExceptionTableEntry) (hsplit : c.exceptionTable.toList = pre ++ x :: suf)
    (hpass : ∀ z ∈ pre, covers z pc = false ∨ (z.catchType ≠ 0 ∧ ∃ nm : String, (Cond.classLink own z.catchType nm).before args s = true ∧ va_Nc E nm s)) (hx : covers x pc = true) (h0 : x.catchType ≠ 0)
    (hlink : (Cond.classLink own x.catchType name).before args s = true) (hcast : (Cond.castable E name).before args s = true) (hcell : H[q]? = some ce) (hv : ce.vm = .none) (hcl : s.vm.findClass E = some ce.cls)
    (kk : W p l e R s m args below meth c H locs cells slots Q (F0 m x.handlerPc ls [.ref q])) : vx_W p l e R s m args below meth c H locs cells slots Q (F0 m pc ls rest) q := by
  intro T hT X
  have hpl : e.platform.magicAccessors = ({} : Platform).magicAccessors := by rw [X.admits.platform]
  obtain ⟨c3, c4, hc3, hc4, hasg⟩ := Cond.castable_spec hcast
  cases Option.some.inj (hc3.symm.trans hcl)
  obtain ⟨c5, hc5, hcl5⟩ := Cond.classLink_spec hown hlink e.platform hpl
  cases Option.some.inj (hc4.symm.trans hc5)
  obtain ⟨vm', X', st⟩ := X.thenCaughtThrough q (g := F0 m pc ls rest) rfl (Steps.refl _) (by rw [hT]; exact hcell) (by rw [hv]; rfl) (by obtain ⟨k9, h9, -⟩ := Vm.findClass_spec hcl; exact ⟨k9, h9⟩) pre x suf hsplit
    (fun z hz => by
      rcases hpass z hz with h | ⟨hz0, nm, hl1, hn1⟩
      · exact Or.inl h
      · obtain ⟨c6, hc6, hcl6⟩ := Cond.classLink_spec hown hl1 e.platform hpl
        obtain ⟨a8, b8, h1, h2, h3⟩ := hn1
        cases Option.some.inj (h1.symm.trans hcl)
        cases Option.some.inj (h2.symm.trans hc6)
        exact Or.inr ⟨hz0, _, hcl6, h3⟩) hx (Or.inr ⟨h0, c4, hcl5, hasg⟩)
  obtain ⟨t, a1, b1⟩ := kk (T.setVm vm') hT X'
  exact ⟨t, st.trans a1, b1⟩
end Rows
section Ends
variable {p : Program} {l : Launch} {e : Env} {R : Room} {s : State} {m : MethodId} {args : Array Value} {below : List Frame} {meth : Method} {c : Code} {H : Heap} {locs : List Loc} {cells slots : Nat} {Q : State → Prop}
variable {mc ms : Nat} {free : Addr → Prop} {A0 A1 : Nat → Prop} {H0 : Heap} {a : Array Value} {ls : Array Slot} {st0 rest : List Value}
variable {Qc : Array Value → State → Outcome → State → Prop} {XC : String → State → State → Prop}
/-- what a body that may throw owes at its end -/
def vx_MQ (below : List Frame) (Qc : Array Value → State → Outcome → State → Prop) (XC : String → State → State → Prop) (a : Array Value) (s : State) (mc ms : Nat) (free : Addr → Prop) : State → Prop := fun t =>
  ∃ o, t.status = .running ∧ Ended t below o ∧ vx_Q Qc XC mc ms free a s o t
theorem vx_ret {g : JFrame} {mc ms : Nat} (k : W p l e R s m args below meth c H locs cells slots (MQ below Qc args s mc ms free) g) : W p l e R s m args below meth c H locs cells slots (vx_MQ below Qc XC args s mc ms free) g := by
  intro T hT X
  obtain ⟨t, a1, o, b1, b2, b3, b4⟩ := k T hT X
  exact ⟨t, a1, o, b1, b2, Or.inl ⟨b3, b4⟩⟩
/-- not caught here: it goes on to the caller -/
theorem vx_widen {g : JFrame} {q : Addr} {k n : Nat} (h1 : cells ≤ k) (h2 : slots ≤ n) (kk : vx_W p l e R s m args below meth c H locs k n Q g q) : vx_W p l e R s m args below meth c H locs cells slots Q g q := fun T hT X => kk T hT (stand_widen X h1 h2)
theorem vx_out {pc : Nat} {E : String} {ce : Cell} {q : Addr} {mc ms : Nat} (hout : ∀ x ∈ c.exceptionTable.toList, covers x pc = false) (hlocks : meth.locks = false) (hcell : H[q]? = some ce) (hv : ce.vm = .none) (hcl : s.vm.findClass E = some ce.cls)
    (hx : ∀ t : State, t.heap = H → s.vm.Alike t.vm → XC E s t) (hf : ∀ z ∈ locs, free z.base) (hc : cells ≤ mc) (hs : slots ≤ ms) :
    vx_W p l e R s m args below meth c H locs cells slots (vx_MQ below Qc XC args s mc ms free) (F0 m pc ls rest) q := by
  intro T hT X
  obtain ⟨st1, hrun, hend, hW, hsm⟩ := X.leaveThrown q (g := F0 m pc ls rest) rfl rfl rfl hout hlocks
  have hcell9 : (T.setFrames (.throwing q :: below)).heap[q]? = some ce := by
    show T.heap[q]? = some ce
    rw [hT]; exact hcell
  exact ⟨_, st1, .threw q, hrun, hend, Or.inr ⟨q, rfl, E, ce, locs, hx _ hT hW.alike, hcell9, hv, hcl, hW, hsm.mono hc hs, hf⟩⟩
theorem vx_frame {U : State} {k n : Nat} (h : s.sameButNew ({ U with vm := s.vm } : State) locs k n) : s.heap.size ≤ U.heap.size ∧ ∀ q : Nat, q < s.heap.size → (∀ z ∈ locs, z.base ≠ q) → U.heap[q]? = s.heap[q]? := by
  obtain ⟨-, h2, -, -, -, h6⟩ := h
  refine ⟨h2, fun q hq hz => ?_⟩
  obtain ⟨c9, e1, e2, e3, e4⟩ := h6 q _ (Array.getElem?_eq_getElem hq)
  have hs : c9.slots = (s.heap[q]).slots := Array.ext_getElem? fun i => e4 i fun hm => hz _ hm rfl
  have h9 : c9 = s.heap[q] := by
    rw [hs] at e2
    exact e2
  have e5 : U.heap[q]? = some c9 := e1
  rw [e5, h9, Array.getElem?_eq_getElem hq]
/-- the words of a throw but the four that speak of the heap -/
def vx_no (w : Cond) : Bool := decide (w ≠ .isRef (.static Bundle.tN "UNASSIGNED_STACK" Bundle.steD)) && decide (w ≠ .isRef (.static Bundle.tN "SUPPRESSED_SENTINEL" Bundle.listD)) && decide (w ≠ .laysStatic Bundle.tN "UNASSIGNED_STACK" Bundle.steD) && decide (w ≠ .laysStatic Bundle.tN "SUPPRESSED_SENTINEL" Bundle.listD)
def vx_at0 (own : String) (ic : Nat) (X : String) (names : List String) : List Cond := (Bundle.ownAtoms0 own ic X names).filter vx_no
def vx_atS (own : String) (ic : Nat) (X : String) (names : List String) : List Cond := (Bundle.ownAtoms own ic X names).filter vx_no
/-- a word that the tables alone decide, or a good one -/
def vx_ot (w : Cond) : Bool := w.onTables || goodWord w
theorem vx_ot_at {args a' : Array Value} {s U : State} {w : Cond} (hW : s.WarmedH U.vm) (hvm : s.vm = U.vm) (hg : vx_ot w = true) (h : w.before args s = true) : w.before a' U = true := by
  simp only [vx_ot, Bool.or_eq_true] at hg
  rcases hg with hg | hg
  · exact va_tabs hg hvm h
  · exact word_at hW (good_of_word hg) h
/-- a list's words: the good ones out of the method's own list, the others by premises of their own -/
theorem vx_hat {args : Array Value} {s : State} {L B : List Cond} (h1 : ∀ w ∈ L.filter goodWord, w.before args s = true) (h2 : ∀ w ∈ L.filter (fun w => !goodWord w), w ∈ B) (h3 : ∀ w ∈ B, w.before args s = true) : ∀ w ∈ L, w.before args s = true := by
  intro w hw
  by_cases g : goodWord w = true
  · exact h1 w (List.mem_filter.mpr ⟨hw, g⟩)
  · refine h3 w (h2 w (List.mem_filter.mpr ⟨hw, ?_⟩))
    show (!goodWord w) = true
    cases hgw : goodWord w
    · rfl
    · exact absurd hgw g
theorem vx_c {args : Array Value} {s : State} {w : Cond} {B : List Cond} (h : w.before args s = true) (t : ∀ w ∈ B, w.before args s = true) : ∀ w' ∈ w :: B, w'.before args s = true := fun w' h' => (List.mem_cons.mp h').elim (fun e => by rw [e]; exact h) (t w')
theorem vx_n {args : Array Value} {s : State} : ∀ w ∈ ([] : List Cond), w.before args s = true := fun _ h => nomatch h
theorem vx_own {args : Array Value} {s : State} {L : List Cond} (h1 : ∀ w ∈ L.filter vx_no, w.before args s = true)
    (hU : (Cond.isRef (.static Bundle.tN "UNASSIGNED_STACK" Bundle.steD)).before args s = true) (hN : (Cond.isRef (.static Bundle.tN "SUPPRESSED_SENTINEL" Bundle.listD)).before args s = true)
    (lU : (Cond.laysStatic Bundle.tN "UNASSIGNED_STACK" Bundle.steD).before args s = true) (lN : (Cond.laysStatic Bundle.tN "SUPPRESSED_SENTINEL" Bundle.listD).before args s = true) : ∀ w ∈ L, w.before args s = true := by
  intro w hw
  by_cases e1 : w = .isRef (.static Bundle.tN "UNASSIGNED_STACK" Bundle.steD)
  · rw [e1]; exact hU
  · by_cases e2 : w = .isRef (.static Bundle.tN "SUPPRESSED_SENTINEL" Bundle.listD)
    · rw [e2]; exact hN
    · by_cases e3 : w = .laysStatic Bundle.tN "UNASSIGNED_STACK" Bundle.steD
      · rw [e3]; exact lU
      · by_cases e4 : w = .laysStatic Bundle.tN "SUPPRESSED_SENTINEL" Bundle.listD
        · rw [e4]; exact lN
        · exact h1 w (List.mem_filter.mpr ⟨hw, by unfold vx_no; rw [decide_eq_true e1, decide_eq_true e2, decide_eq_true e3, decide_eq_true e4]; rfl⟩)
/-- where a static field lies, its class's statics cell in H -/
def vx_L (C n d : String) (A : Nat → Prop) (U : State) (H : Heap) : Prop := ∃ (c : ClassId) (k : Class) (i : Nat) (f : Field) (a : Nat) (cell : Cell), U.vm.findClass C = some c ∧ U.fieldFound? C n d = some (c, k, i, f) ∧ f.isStatic = true ∧ k.statics = some a ∧ H[a]? = some cell ∧ cell.vm.isStatics = true ∧ cell.cls = c ∧ f.slot < cell.slots.size ∧ k.staticTypes[f.slot]? = some f.type ∧ ¬ A a
theorem vx_L.moved {C n d : String} {A : Nat → Prop} {u U : State} {H : Heap} (hvm : u.vm.Alike U.vm) (h : vx_L C n d A u H) : vx_L C n d A U H := by
  obtain ⟨c, k, i, f, a, cell, h1, h2, h3, h4, h5, h6, h7, h8, h9, h10⟩ := h
  obtain ⟨k', hi', he⟩ := State.fieldFound?_setVm hvm h2
  exact ⟨c, k', i, f, a, cell, by rw [hvm.findClass]; exact h1, hi', h3, by rw [he]; exact h4, h5, h6, h7, h8, by rw [he]; exact h9, h10⟩
theorem vx_L.kept {C n d : String} {A : Nat → Prop} {U : State} {H H1 : Heap} (h : vx_L C n d A U H) (hq : ∀ a : Nat, a < H.size → ¬ A a → H1[a]? = H[a]?) : vx_L C n d A U H1 := by
  obtain ⟨c, k, i, f, a, cell, h1, h2, h3, h4, h5, h6, h7, h8, h9, h10⟩ := h
  exact ⟨c, k, i, f, a, cell, h1, h2, h3, h4, by rw [hq a (Array.getElem?_eq_some_iff.mp h5).1 h10]; exact h5, h6, h7, h8, h9, h10⟩
theorem vx_L.narrow {C n d : String} {A B : Nat → Prop} {U : State} {H : Heap} (h : vx_L C n d A U H) (hAB : ∀ q, B q → A q) : vx_L C n d B U H := by
  obtain ⟨c, k, i, f, a, cell, h1, h2, h3, h4, h5, h6, h7, h8, h9, h10⟩ := h
  exact ⟨c, k, i, f, a, cell, h1, h2, h3, h4, h5, h6, h7, h8, h9, fun z => h10 (hAB _ z)⟩
theorem vx_L.word {C n d : String} {A : Nat → Prop} {s : State} {args : Array Value} (h : vx_L C n d A s s.heap) : (Cond.laysStatic C n d).before args s = true := by
  obtain ⟨c, k, i, f, a, cell, h1, h2, h3, h4, h5, h6, h7, h8, h9, -⟩ := h
  show (Cond.laysStatic C n d).holds args s none s [] = true
  exact Cond.laysStatic_of h1 h2 h3 h4 h5 h6 h7 h8 h9
/-- .. and what it holds: null or some reference -/
def vx_Zq (C n d : String) (A : Nat → Prop) (U : State) (H : Heap) : Prop := va_Zq C n d A U H ∧ vx_L C n d A U H
theorem vx_Zq.moved {C n d : String} {A : Nat → Prop} {u U : State} {H : Heap} (hvm : u.vm.Alike U.vm) (h : vx_Zq C n d A u H) : vx_Zq C n d A U H := ⟨va_Zq.moved hvm h.1, vx_L.moved hvm h.2⟩
theorem vx_Zq.kept {C n d : String} {A : Nat → Prop} {U : State} {H H1 : Heap} (h : vx_Zq C n d A U H) (hq : ∀ a : Nat, a < H.size → ¬ A a → H1[a]? = H[a]?) : vx_Zq C n d A U H1 := ⟨va_Zq.kept h.1 hq, vx_L.kept h.2 hq⟩
theorem vx_Zq.narrow {C n d : String} {A B : Nat → Prop} {U : State} {H : Heap} (h : vx_Zq C n d A U H) (hAB : ∀ q, B q → A q) : vx_Zq C n d B U H := ⟨va_Zq.narrow h.1 hAB, vx_L.narrow h.2 hAB⟩
theorem vx_Zqof {args : Array Value} {s : State} {C n d : String} {A : Nat → Prop} (hl : (Cond.laysStatic C n d).before args s = true) (hini : (Cond.initialized C).before args s = true) (h : (Cond.isRef (.static C n d)).before args s = true) (hA : ∀ a : Nat, a < s.heap.size → ¬ A a) : vx_Zq C n d A s s.heap := by
  refine ⟨va_Zqof hl hini h hA, ?_⟩
  obtain ⟨c, k, i, f, a, cell, h1, h2, h3, h4, h5, h6, h7, h8, h9⟩ := Cond.laysStatic_spec hl
  exact ⟨c, k, i, f, a, cell, h1, h2, h3, h4, h5, h6, h7, h8, h9, hA a (Array.getElem?_eq_some_iff.mp h5).1⟩
theorem vx_isRef {C n d : String} {v : Value} {A : Nat → Prop} {s : State} {args : Array Value} (h : va_Z C n d v A s s.heap) (hv : v.isRef = true) : (Cond.isRef (.static C n d)).before args s = true := by
  obtain ⟨cf, kf, fi, f, a, cell, h1, h2, h3, h4, h5, h6, h7, -⟩ := h
  have he : (Term.static C n d).eval args s none [] s = some v := by
    simp [Term.eval, State.fieldNamed?, h1, h2, h4, h5, h6, h7]
  simp only [Cond.before, Cond.holds, Cond.value, he]
  cases v <;> simp_all [Value.isRef]
theorem vx_isRefq {C n d : String} {A : Nat → Prop} {s : State} {args : Array Value} (h : va_Zq C n d A s s.heap) : (Cond.isRef (.static C n d)).before args s = true := by
  rcases h with h | ⟨t, h⟩
  · exact vx_isRef h rfl
  · exact vx_isRef h rfl
/-- the same frame, seen from here: as if the method were called anew in this heap -/
theorem vx_rebase {T : State} (X : Stand p l e R s m args below meth c T locs cells slots) {R' : Room} (hf : R'.frames ≤ R.frames) (hl : R'.locals ≤ R.locals) (hc : cells + R'.cells ≤ R.cells) (hs : slots + R'.slots ≤ R.slots) :
    Stand p l e R' ((T.setVm s.vm).setFrames (.invoking m args :: below)) m args below meth c T [] 0 0 := by
  have htop : (T.setVm s.vm).topJava?.isSome := X.here.top
  have hF : ((T.setVm s.vm).setFrames (.invoking m args :: below)).frames = .invoking m args :: below := State.frames_setFrames _ (State.cur_lt_of_top htop)
  obtain ⟨g₀, hg0⟩ := Option.isSome_iff_exists.mp htop
  obtain ⟨r, hr⟩ := State.topJava?_eq_some.mp hg0
  have hl9 : e.platform.stackLimits (T.setVm s.vm).me = e.platform.stackLimits s.me := X.limits
  have hb9 : (T.setVm s.vm).me.stackBytes = s.me.stackBytes := X.bytes
  refine ⟨X.admits, X.cas, X.clock, hF, ?_, X.hears, X.method, X.code, X.here, X.tail, X.warmed, ?_, ?_, ?_⟩
  · have h := X.room
    have hU : ((T.setVm s.vm).setFrames (.invoking m args :: below)).localsInUse = s.localsInUse := by
      rw [State.localsInUse_invoking hF (meth := meth) (c := c) X.method X.code, State.localsInUse_invoking X.frames X.method X.code]
    simp only [State.hasRoom, Bool.and_eq_true, decide_eq_true_eq] at h ⊢
    obtain ⟨⟨⟨⟨h1, h2, h3, h4, h5, h6⟩, h7⟩, h8⟩, h9⟩ := h
    rw [X.frames, List.length_cons] at h2 h3
    have q1 := X.heapSize
    have q2 := X.used
    simp only [hF, hU, List.length_cons, State.stackLimits_setFrames, State.stackBytes_setFrames, hl9, hb9]
    refine ⟨⟨⟨⟨by omega, by omega, by omega, by omega, by omega, h6⟩, ?_⟩, ?_⟩, X.book⟩
    · show T.heap.size + R'.cells ≤ e.platform.maxCells
      omega
    · show T.slotsUsed + R'.slots ≤ e.platform.maxSlots
      omega
  · rw [State.stackLimits_setFrames]; rfl
  · rw [State.stackBytes_setFrames]; rfl
  · refine ⟨?_, Nat.le_refl _, Nat.le_refl _, ?_, ?_, fun a c9 h9 => ⟨c9, h9, rfl, rfl, fun _ _ => rfl⟩⟩
    · obtain ⟨t, ht, -⟩ := State.frames_cons hr
      show T.setVm s.vm = { ((T.setVm s.vm).setFrames (.invoking m args :: below)).setFrames (T.setVm s.vm).frames with heap := T.heap, slotsUsed := T.slotsUsed }
      rw [State.setFrames_setFrames, State.setFrames_self ht]
      rfl
    · show T.slotsUsed = T.slotsUsed + ((T.heap.toList.drop T.heap.size).map (·.slots.size)).sum
      rw [List.drop_eq_nil_of_le (Nat.le_of_eq Array.length_toList)]
      rfl
    · show ((T.heap.toList.drop T.heap.size).map (·.slots.size)).sum ≤ 0
      rw [List.drop_eq_nil_of_le (Nat.le_of_eq Array.length_toList)]
      exact Nat.le_refl _
/-- 'throw new E()': new; dup; invokespecial; athrow -/
theorem vx_throw0 {cc : ByteArray} {pc : Nat} (hexec : p.tables.exec = Jvm.exec) (hb : c.code = cc) (hl : l.stackTraces = false) {own cls : String} {names : List String} {ik ic mc ms : Nat} {A : Nat → Prop}
    (hown : s.vm.findClass own = some m.cls) (hcls : Bundle.fit cls = true) (hnames : ∀ n ∈ names, Bundle.fit n = true)
    (hk : (Cond.classLink own ik cls).before args s = true) (hini : (Cond.initialized cls).before args s = true) (hat : ∀ w ∈ vx_at0 own ic cls names, w.before args s = true)
    (hgood : ∀ w ∈ Cond.classLink own ik cls :: Cond.initialized cls :: vx_at0 own ic cls names, vx_ot w = true)
    (hU : vx_Zq Bundle.tN "UNASSIGNED_STACK" Bundle.steD A s s.heap) (hN : vx_Zq Bundle.tN "SUPPRESSED_SENTINEL" Bundle.listD A s s.heap) (hS : va_S A s.heap H locs) (hsize : ls.size = c.maxLocals)
    (d0 : decode cc pc = .ok (.new ik, 3)) (d3 : decode cc (pc + 3) = .ok (.dup, 1)) (d4 : decode cc (pc + 4) = .ok (.invokespecial ic, 3)) (d7 : decode cc (pc + 7) = .ok (.athrow, 1))
    (hout : ∀ x ∈ c.exceptionTable.toList, covers x (pc + 7) = false)
    (hRframes : names.length + 3 < R.frames) (hRlocals : (rest.map fun v => v.category).sum + (13 * (names.length + 1) + 42) ≤ R.locals) (hRcells : cells + 1 ≤ R.cells) (hRslots : slots + 6 ≤ R.slots) (hlocks : meth.locks = false)
    (hx : ∀ t : State, s.vm.Alike t.vm → H.size ≤ t.heap.size → (∀ q : Nat, q < H.size → t.heap[q]? = H[q]?) → XC cls s t)
    (hf : ∀ z ∈ locs, free z.base) (hc : cells + 1 ≤ mc) (hs : slots + 6 ≤ ms) :
    W p l e R s m args below meth c H locs cells slots (vx_MQ below Qc XC args s mc ms free) (F0 m pc ls rest) := by
  intro T hT X
  have htr : e.platform.stackTraces = false := (show e.platform.stackTraces = l.stackTraces by rw [X.admits.platform]).trans hl
  have Y := vx_rebase X (R' := { frames := R.frames, locals := R.locals, cells := 1, slots := 6 }) (Nat.le_refl _) (Nat.le_refl _) hRcells hRslots
  obtain ⟨s', hA⟩ : ∃ z, z = (T.setVm s.vm).setFrames (.invoking m args :: below) := ⟨_, rfl⟩
  rw [← hA] at Y
  have hvm : s'.vm = s.vm := by rw [hA]; rfl
  have hhp : s'.heap = H := by rw [hA]; exact hT
  have hW0 : s.WarmedH s'.vm := by rw [hvm]; exact State.WarmedH.refl s
  have hat' : ∀ w ∈ vx_at0 own ic cls names, w.before args s' = true := fun w hw => vx_ot_at hW0 hvm.symm (hgood w (List.mem_cons_of_mem _ (List.mem_cons_of_mem _ hw))) (hat w hw)
  have hk' : (Cond.classLink own ik cls).before args s' = true := vx_ot_at hW0 hvm.symm (hgood _ List.mem_cons_self) hk
  have hini' : (Cond.initialized cls).before args s' = true := vx_ot_at hW0 hvm.symm (hgood _ (List.mem_cons_of_mem _ List.mem_cons_self)) hini
  have hU' : vx_Zq Bundle.tN "UNASSIGNED_STACK" Bundle.steD A s' s'.heap := by rw [hhp]; exact vx_Zq.moved hW0.alike (hU.kept hS.2.1)
  have hN' : vx_Zq Bundle.tN "SUPPRESSED_SENTINEL" Bundle.listD A s' s'.heap := by rw [hhp]; exact vx_Zq.moved hW0.alike (hN.kept hS.2.1)
  have h : ∀ w ∈ Bundle.ownAtoms0 own ic cls names, w.before args s' = true := vx_own hat' (vx_isRefq hU'.1) (vx_isRefq hN'.1) hU'.2.word hN'.2.word
  have hown' : s'.vm.findClass own = some m.cls := by rw [hvm]; exact hown
  have hins : (Cond.instantiable cls 6).before args s' = true := h _ (by simp [Bundle.ownAtoms0])
  obtain ⟨vm₁, cX, kX, hfX, hkX, -, -, X₁, st1⟩ := Y.newCold hexec (own := own) (C := cls) (index := ik) (n := 6) hown' hk' hins hini'
    (g := F0 m pc ls rest) rfl (by rw [hb]; exact d0) (Nat.le_refl _) (Nat.le_refl _)
  generalize hT1 : (T.setVm vm₁).pushCell { cls := cX, slots := kX.instanceTypes.map defaultValue, vm := .none } = T1 at X₁ st1
  have hcat : (Value.ref T.heap.size).category = 1 := rfl
  have hcellA : T1.heap[T.heap.size]? = some (freshCell cX kX) := by rw [← hT1]; exact State.heap_pushCell_size _ _
  have d3' : decode c.code (pc + 3) = .ok (.dup, 1) := by rw [hb]; exact d3
  obtain ⟨U, hsteps, hrun, hend, hW, hsame, ce, hce, hO⟩ := X₁.ctorThrow0 hexec htr (own := own) (cls := cls) (names := names) (ic := ic) hown' hcls hnames h (fun x hx => nomatch hx) hfX hkX hcellA (by rw [hhp, hT]; exact Nat.le_refl _)
    (g := { method := m, pc := pc + 4, locals := ls, stack := .ref T.heap.size :: .ref T.heap.size :: rest, locked := none }) rfl hsize rfl rfl (rest := rest) rfl
    (by rw [hb]; exact d4) (by rw [hb]; exact d7) hout hRframes (by simp only [List.map_cons, List.sum_cons, hcat]; omega) hlocks
  obtain ⟨f1, f2⟩ := vx_frame hsame
  rw [hhp] at f1 f2
  have hWs : s.WarmedH U.vm := State.WarmedH.trans hW0 hW
  have hcl : s.vm.findClass cls = some ce.cls := by
    have h9 := hO.cls
    rw [hvm] at h9
    exact h9
  have hall : s.sameButNew ({ U with vm := s.vm } : State) locs mc ms := by
    subst hA
    obtain ⟨e1, e2⟩ := hsame
    rw [State.setFrames_setFrames] at e1
    have h2 : (T.setVm s.vm).sameButNew ({ U with vm := s.vm } : State) [] (0 + 1) (0 + 6) := ⟨e1, e2⟩
    have h3 := X.same.trans h2
    rw [List.append_nil] at h3
    exact h3.mono hc hs
  refine ⟨U, ?_, .threw T.heap.size, hrun, hend, Or.inr ⟨T.heap.size, rfl, cls, ce, locs, hx U hWs.alike f1 (fun q hq => f2 q hq (fun z hz => nomatch hz)), hce, hO.vm, hcl, hWs, hall, hf⟩⟩
  refine st1 _ ?_
  show Steps p.tables e below (T1.setTop { method := m, pc := pc + 3, locals := ls, stack := .ref T.heap.size :: rest, locked := none }) _
  jvm_step X₁.here [X₁.here.top, hexec, d3', Value.category]
  exact hsteps
/-- 'throw new E("text")': new; dup; ldc; invokespecial; athrow -/
theorem vx_throwS {cc : ByteArray} {pc : Nat} (hexec : p.tables.exec = Jvm.exec) (hb : c.code = cc) (hl : l.stackTraces = false) {own cls text : String} {names : List String} {ik is ic mc ms sa : Nat} {A : Nat → Prop}
    (hown : s.vm.findClass own = some m.cls) (hcls : Bundle.fit cls = true) (hnames : ∀ n ∈ names, Bundle.fit n = true)
    (hk : (Cond.classLink own ik cls).before args s = true) (hini : (Cond.initialized cls).before args s = true) (hstr : vk_R own is text sa s) (hat : ∀ w ∈ vx_atS own ic cls names, w.before args s = true)
    (hgood : ∀ w ∈ Cond.classLink own ik cls :: Cond.initialized cls :: vx_atS own ic cls names, vx_ot w = true)
    (hU : vx_Zq Bundle.tN "UNASSIGNED_STACK" Bundle.steD A s s.heap) (hN : vx_Zq Bundle.tN "SUPPRESSED_SENTINEL" Bundle.listD A s s.heap) (hS : va_S A s.heap H locs) (hsize : ls.size = c.maxLocals)
    (d0 : decode cc pc = .ok (.new ik, 3)) (d3 : decode cc (pc + 3) = .ok (.dup, 1)) (d4 : decode cc (pc + 4) = .ok (.ldc is, 2)) (d6 : decode cc (pc + 6) = .ok (.invokespecial ic, 3)) (d9 : decode cc (pc + 9) = .ok (.athrow, 1))
    (hout : ∀ x ∈ c.exceptionTable.toList, covers x (pc + 9) = false)
    (hRframes : names.length + 3 < R.frames) (hRlocals : (rest.map fun v => v.category).sum + (13 * (names.length + 1) + 43) ≤ R.locals) (hRcells : cells + 1 ≤ R.cells) (hRslots : slots + 6 ≤ R.slots) (hlocks : meth.locks = false)
    (hx : ∀ t : State, s.vm.Alike t.vm → H.size ≤ t.heap.size → (∀ q : Nat, q < H.size → t.heap[q]? = H[q]?) → XC cls s t)
    (hf : ∀ z ∈ locs, free z.base) (hc : cells + 1 ≤ mc) (hs : slots + 6 ≤ ms) :
    W p l e R s m args below meth c H locs cells slots (vx_MQ below Qc XC args s mc ms free) (F0 m pc ls rest) := by
  intro T hT X
  have htr : e.platform.stackTraces = false := (show e.platform.stackTraces = l.stackTraces by rw [X.admits.platform]).trans hl
  have Y := vx_rebase X (R' := { frames := R.frames, locals := R.locals, cells := 1, slots := 6 }) (Nat.le_refl _) (Nat.le_refl _) hRcells hRslots
  obtain ⟨s', hA⟩ : ∃ z, z = (T.setVm s.vm).setFrames (.invoking m args :: below) := ⟨_, rfl⟩
  rw [← hA] at Y
  have hvm : s'.vm = s.vm := by rw [hA]; rfl
  have hhp : s'.heap = H := by rw [hA]; exact hT
  have hW0 : s.WarmedH s'.vm := by rw [hvm]; exact State.WarmedH.refl s
  have hat' : ∀ w ∈ vx_atS own ic cls names, w.before args s' = true := fun w hw => vx_ot_at hW0 hvm.symm (hgood w (List.mem_cons_of_mem _ (List.mem_cons_of_mem _ hw))) (hat w hw)
  have hk' : (Cond.classLink own ik cls).before args s' = true := vx_ot_at hW0 hvm.symm (hgood _ List.mem_cons_self) hk
  have hini' : (Cond.initialized cls).before args s' = true := vx_ot_at hW0 hvm.symm (hgood _ (List.mem_cons_of_mem _ List.mem_cons_self)) hini
  have hU' : vx_Zq Bundle.tN "UNASSIGNED_STACK" Bundle.steD A s' s'.heap := by rw [hhp]; exact vx_Zq.moved hW0.alike (hU.kept hS.2.1)
  have hN' : vx_Zq Bundle.tN "SUPPRESSED_SENTINEL" Bundle.listD A s' s'.heap := by rw [hhp]; exact vx_Zq.moved hW0.alike (hN.kept hS.2.1)
  have h : ∀ w ∈ Bundle.ownAtoms own ic cls names, w.before args s' = true := vx_own hat' (vx_isRefq hU'.1) (vx_isRefq hN'.1) hU'.2.word hN'.2.word
  have hown' : s'.vm.findClass own = some m.cls := by rw [hvm]; exact hown
  have hins : (Cond.instantiable cls 6).before args s' = true := h _ (by simp [Bundle.ownAtoms])
  obtain ⟨vm₁, cX, kX, hfX, hkX, -, -, X₁, st1⟩ := Y.newCold hexec (own := own) (C := cls) (index := ik) (n := 6) hown' hk' hins hini'
    (g := F0 m pc ls rest) rfl (by rw [hb]; exact d0) (Nat.le_refl _) (Nat.le_refl _)
  generalize hT1 : (T.setVm vm₁).pushCell { cls := cX, slots := kX.instanceTypes.map defaultValue, vm := .none } = T1 at X₁ st1
  have hcat : (Value.ref T.heap.size).category = 1 := rfl
  have hcellA : T1.heap[T.heap.size]? = some (freshCell cX kX) := by rw [← hT1]; exact State.heap_pushCell_size _ _
  have d3' : decode c.code (pc + 3) = .ok (.dup, 1) := by rw [hb]; exact d3
  have d4' : decode c.code (pc + 4) = .ok (.ldc is, 2) := by rw [hb]; exact d4
  have hstr' : vk_R own is text sa s' := vk_R.warm hW0 hstr
  obtain ⟨U, hsteps, hrun, hend, hW, hsame, ce, hce, hO⟩ := X₁.ctorThrowS hexec htr (own := own) (cls := cls) (names := names) (ic := ic) hown' hcls hnames h (fun x hx => nomatch hx) hfX hkX hcellA (by rw [hhp, hT]; exact Nat.le_refl _) (msg := .ref sa) rfl
    (g := { method := m, pc := pc + 6, locals := ls, stack := .ref sa :: .ref T.heap.size :: .ref T.heap.size :: rest, locked := none }) rfl hsize rfl rfl (rest := rest) rfl
    (by rw [hb]; exact d6) (by rw [hb]; exact d9) hout hRframes (by simp only [List.map_cons, List.sum_cons, hcat]; omega) hlocks
  obtain ⟨f1, f2⟩ := vx_frame hsame
  rw [hhp] at f1 f2
  have hWs : s.WarmedH U.vm := State.WarmedH.trans hW0 hW
  have hcl : s.vm.findClass cls = some ce.cls := by
    have h9 := hO.cls
    rw [hvm] at h9
    exact h9
  have hall : s.sameButNew ({ U with vm := s.vm } : State) locs mc ms := by
    subst hA
    obtain ⟨e1, e2⟩ := hsame
    rw [State.setFrames_setFrames] at e1
    have h2 : (T.setVm s.vm).sameButNew ({ U with vm := s.vm } : State) [] (0 + 1) (0 + 6) := ⟨e1, e2⟩
    have h3 := X.same.trans h2
    rw [List.append_nil] at h3
    exact h3.mono hc hs
  refine ⟨U, ?_, .threw T.heap.size, hrun, hend, Or.inr ⟨T.heap.size, rfl, cls, ce, locs, hx U hWs.alike f1 (fun q hq => f2 q hq (fun z hz => nomatch hz)), hce, hO.vm, hcl, hWs, hall, hf⟩⟩
  refine st1 _ ?_
  show Steps p.tables e below (T1.setTop { method := m, pc := pc + 3, locals := ls, stack := .ref T.heap.size :: rest, locked := none }) _
  jvm_step X₁.here [X₁.here.top, hexec, d3', Value.category]
  exact X₁.ldcString hexec (own := own) (text := text) (index := is) (a := sa) hown' hstr'.1 hstr'.2
    (g := { method := m, pc := pc + 4, locals := ls, stack := .ref T.heap.size :: .ref T.heap.size :: rest, locked := none }) rfl d4' _ hsteps
/-- 'throw new E("text")', the text by a wide index -/
theorem vx_throwSW {cc : ByteArray} {pc : Nat} (hexec : p.tables.exec = Jvm.exec) (hb : c.code = cc) (hl : l.stackTraces = false) {own cls text : String} {names : List String} {ik is ic mc ms sa : Nat} {A : Nat → Prop}
    (hown : s.vm.findClass own = some m.cls) (hcls : Bundle.fit cls = true) (hnames : ∀ n ∈ names, Bundle.fit n = true)
    (hk : (Cond.classLink own ik cls).before args s = true) (hini : (Cond.initialized cls).before args s = true) (hstr : vk_R own is text sa s) (hat : ∀ w ∈ vx_atS own ic cls names, w.before args s = true)
    (hgood : ∀ w ∈ Cond.classLink own ik cls :: Cond.initialized cls :: vx_atS own ic cls names, vx_ot w = true)
    (hU : vx_Zq Bundle.tN "UNASSIGNED_STACK" Bundle.steD A s s.heap) (hN : vx_Zq Bundle.tN "SUPPRESSED_SENTINEL" Bundle.listD A s s.heap) (hS : va_S A s.heap H locs) (hsize : ls.size = c.maxLocals)
    (d0 : decode cc pc = .ok (.new ik, 3)) (d3 : decode cc (pc + 3) = .ok (.dup, 1)) (d4 : decode cc (pc + 4) = .ok (.ldc_w is, 3)) (d7 : decode cc (pc + 7) = .ok (.invokespecial ic, 3)) (d10 : decode cc (pc + 10) = .ok (.athrow, 1))
    (hout : ∀ x ∈ c.exceptionTable.toList, covers x (pc + 10) = false)
    (hRframes : names.length + 3 < R.frames) (hRlocals : (rest.map fun v => v.category).sum + (13 * (names.length + 1) + 43) ≤ R.locals) (hRcells : cells + 1 ≤ R.cells) (hRslots : slots + 6 ≤ R.slots) (hlocks : meth.locks = false)
    (hx : ∀ t : State, s.vm.Alike t.vm → H.size ≤ t.heap.size → (∀ q : Nat, q < H.size → t.heap[q]? = H[q]?) → XC cls s t)
    (hf : ∀ z ∈ locs, free z.base) (hc : cells + 1 ≤ mc) (hs : slots + 6 ≤ ms) :
    W p l e R s m args below meth c H locs cells slots (vx_MQ below Qc XC args s mc ms free) (F0 m pc ls rest) := by
  intro T hT X
  have htr : e.platform.stackTraces = false := (show e.platform.stackTraces = l.stackTraces by rw [X.admits.platform]).trans hl
  have Y := vx_rebase X (R' := { frames := R.frames, locals := R.locals, cells := 1, slots := 6 }) (Nat.le_refl _) (Nat.le_refl _) hRcells hRslots
  obtain ⟨s', hA⟩ : ∃ z, z = (T.setVm s.vm).setFrames (.invoking m args :: below) := ⟨_, rfl⟩
  rw [← hA] at Y
  have hvm : s'.vm = s.vm := by rw [hA]; rfl
  have hhp : s'.heap = H := by rw [hA]; exact hT
  have hW0 : s.WarmedH s'.vm := by rw [hvm]; exact State.WarmedH.refl s
  have hat' : ∀ w ∈ vx_atS own ic cls names, w.before args s' = true := fun w hw => vx_ot_at hW0 hvm.symm (hgood w (List.mem_cons_of_mem _ (List.mem_cons_of_mem _ hw))) (hat w hw)
  have hk' : (Cond.classLink own ik cls).before args s' = true := vx_ot_at hW0 hvm.symm (hgood _ List.mem_cons_self) hk
  have hini' : (Cond.initialized cls).before args s' = true := vx_ot_at hW0 hvm.symm (hgood _ (List.mem_cons_of_mem _ List.mem_cons_self)) hini
  have hU' : vx_Zq Bundle.tN "UNASSIGNED_STACK" Bundle.steD A s' s'.heap := by rw [hhp]; exact vx_Zq.moved hW0.alike (hU.kept hS.2.1)
  have hN' : vx_Zq Bundle.tN "SUPPRESSED_SENTINEL" Bundle.listD A s' s'.heap := by rw [hhp]; exact vx_Zq.moved hW0.alike (hN.kept hS.2.1)
  have h : ∀ w ∈ Bundle.ownAtoms own ic cls names, w.before args s' = true := vx_own hat' (vx_isRefq hU'.1) (vx_isRefq hN'.1) hU'.2.word hN'.2.word
  have hown' : s'.vm.findClass own = some m.cls := by rw [hvm]; exact hown
  have hins : (Cond.instantiable cls 6).before args s' = true := h _ (by simp [Bundle.ownAtoms])
  obtain ⟨vm₁, cX, kX, hfX, hkX, -, -, X₁, st1⟩ := Y.newCold hexec (own := own) (C := cls) (index := ik) (n := 6) hown' hk' hins hini'
    (g := F0 m pc ls rest) rfl (by rw [hb]; exact d0) (Nat.le_refl _) (Nat.le_refl _)
  generalize hT1 : (T.setVm vm₁).pushCell { cls := cX, slots := kX.instanceTypes.map defaultValue, vm := .none } = T1 at X₁ st1
  have hcat : (Value.ref T.heap.size).category = 1 := rfl
  have hcellA : T1.heap[T.heap.size]? = some (freshCell cX kX) := by rw [← hT1]; exact State.heap_pushCell_size _ _
  have d3' : decode c.code (pc + 3) = .ok (.dup, 1) := by rw [hb]; exact d3
  have d4' : decode c.code (pc + 4) = .ok (.ldc_w is, 3) := by rw [hb]; exact d4
  have hstr' : vk_R own is text sa s' := vk_R.warm hW0 hstr
  obtain ⟨U, hsteps, hrun, hend, hW, hsame, ce, hce, hO⟩ := X₁.ctorThrowS hexec htr (own := own) (cls := cls) (names := names) (ic := ic) hown' hcls hnames h (fun x hx => nomatch hx) hfX hkX hcellA (by rw [hhp, hT]; exact Nat.le_refl _) (msg := .ref sa) rfl
    (g := { method := m, pc := pc + 7, locals := ls, stack := .ref sa :: .ref T.heap.size :: .ref T.heap.size :: rest, locked := none }) rfl hsize rfl rfl (rest := rest) rfl
    (by rw [hb]; exact d7) (by rw [hb]; exact d10) hout hRframes (by simp only [List.map_cons, List.sum_cons, hcat]; omega) hlocks
  obtain ⟨f1, f2⟩ := vx_frame hsame
  rw [hhp] at f1 f2
  have hWs : s.WarmedH U.vm := State.WarmedH.trans hW0 hW
  have hcl : s.vm.findClass cls = some ce.cls := by
    have h9 := hO.cls
    rw [hvm] at h9
    exact h9
  have hall : s.sameButNew ({ U with vm := s.vm } : State) locs mc ms := by
    subst hA
    obtain ⟨e1, e2⟩ := hsame
    rw [State.setFrames_setFrames] at e1
    have h2 : (T.setVm s.vm).sameButNew ({ U with vm := s.vm } : State) [] (0 + 1) (0 + 6) := ⟨e1, e2⟩
    have h3 := X.same.trans h2
    rw [List.append_nil] at h3
    exact h3.mono hc hs
  refine ⟨U, ?_, .threw T.heap.size, hrun, hend, Or.inr ⟨T.heap.size, rfl, cls, ce, locs, hx U hWs.alike f1 (fun q hq => f2 q hq (fun z hz => nomatch hz)), hce, hO.vm, hcl, hWs, hall, hf⟩⟩
  refine st1 _ ?_
  show Steps p.tables e below (T1.setTop { method := m, pc := pc + 3, locals := ls, stack := .ref T.heap.size :: rest, locked := none }) _
  jvm_step X₁.here [X₁.here.top, hexec, d3', Value.category]
  exact X₁.ldcStringW hexec (own := own) (text := text) (index := is) (a := sa) hown' hstr'.1 hstr'.2
    (g := { method := m, pc := pc + 4, locals := ls, stack := .ref T.heap.size :: .ref T.heap.size :: rest, locked := none }) rfl d4' _ hsteps
end Ends
section Bodies
variable {l : Launch}
theorem vx_ofW {y : MethodName} {ws ws' : List Cond} {rm : Room} {Pc : Array Value → State → Prop} {Qc : Array Value → State → Outcome → State → Prop} {XC : String → State → State → Prop} {mc ms : Nat} {free : Addr → Prop} {cc : ByteArray} {maxL : Nat} {ret : Option FieldType}
    (hy : plainName y.cls = true) (hw : ws = Cond.code y cc maxL ret :: ws')
    (body : ∀ p e s m args below meth c s₁, BodyLoose p l y (headSpec ws rm) cc maxL ret e s m args below meth c s₁ → c.maxLocals = maxL → (∀ x ∈ c.exceptionTable.toList, False) → Pc args s →
      W p l e (headSpec ws rm).room s m args below meth c s.heap [] 0 0 (vx_MQ below Qc XC args s mc ms free) (entryFrame m args maxL)) : vx_Met l y ws rm Pc Qc XC mc ms free := by
  refine MetFree.of_bodyS (code := cc) (maxLocals := maxL) (ret := ret) hy ?_ ?_
  · intro args s m h hn
    obtain ⟨meth, c, h1, h2, h3, h4, h5, h6, -, -⟩ := Cond.code_spec hn (atoms_spec (ws := ws) h _ (by rw [hw]; exact List.mem_cons_self))
    exact ⟨meth, c, h1, h2, h3, h4, h5, h6⟩
  · intro p e s m args below meth c s₁ B hml hP _
    have hh0 : s₁.heap = s.heap := by rw [B.state]; rfl
    have ht : ∀ x ∈ c.exceptionTable.toList, False := by
      obtain ⟨meth9, c9, h1, h2, -, -, -, -, h7, -⟩ := Cond.code_spec B.named (atoms_spec (ws := ws) B.pre _ (by rw [hw]; exact List.mem_cons_self))
      cases Option.some.inj (h1.symm.trans B.method)
      cases Option.some.inj (h2.symm.trans (Stand.of_body B).code)
      intro x hx
      rw [Array.isEmpty_iff.mp h7] at hx
      cases hx
    obtain ⟨t, a1, o, b1, b2, b3⟩ := body p e s m args below meth c s₁ B hml ht hP s₁ hh0 (Stand.of_body B)
    exact ⟨t, o, a1, b1, b2, b3⟩
/-- the table of a body with handlers -/
theorem vx_table {p : Program} {x y : MethodName} {S : Spec} {cc bytes : ByteArray} {maxL maxL' : Nat} {ret ret' : Option FieldType} {e : Env} {s s₁ : State} {m : MethodId} {args : Array Value} {below : List Frame} {meth : Method} {c : Code} {hh : List (Nat × Nat × Nat × Nat)}
    (B : BodyLoose p l y S cc maxL ret e s m args below meth c s₁) (h : (Cond.codeWith y bytes maxL' ret' hh).before args s = true) : c.exceptionTable.toList = tableOf hh := by
  obtain ⟨m9, meth9, c9, hn9, h1, h2, -, -, h6, -⟩ := Cond.codeWith_spec h
  cases Option.some.inj (hn9.symm.trans B.named)
  cases Option.some.inj (h1.symm.trans B.method)
  cases Option.some.inj (h2.symm.trans (Stand.of_body B).code)
  rw [← h6, table_eq]
end Bodies
end VXA
/-! ===== END ===== -/
/-! ===== BEGIN a static call of a method with an exception table ===== -/
section VXS
variable {p : Program} {l : Launch} {e : Env} {R : Room} {s : State} {m : MethodId} {args : Array Value} {below : List Frame} {meth : Method} {c : Code} {T : State} {H : Heap} {locs : List Loc} {cells slots : Nat}
abbrev vx_CSW (R : Room) (s : State) (args : Array Value) (own : String) (index : Nat) (y : MethodName) (bytes : ByteArray) (maxL : Nat) (ret : Option FieldType) (hh : List (Nat × Nat × Nat × Nat)) (ws : List Cond) (rm : Room) (mc ms n : Nat) : Prop :=
  (rm.cells = mc ∧ rm.slots = ms ∧ rm.frames + 1 ≤ R.frames ∧ 8 + (maxL + 11) + rm.locals ≤ R.locals ∧ (∀ w ∈ ws, ∀ (a' : Array Value) (U : State), s.WarmedH U.vm → w.before a' U = true) ∧ Cond.codeWith y bytes maxL ret hh ∈ ws) ∧
  (Cond.codeWith y bytes maxL ret hh).before args s = true ∧ (Cond.initialized y.cls).before args s = true ∧ (y.cls ≠ "java/lang/invoke/MethodHandle" ∧ y.cls ≠ "java/lang/invoke/VarHandle") ∧
  (∀ sig, parseMethodDescriptor y.desc = some sig → n = sig.parameters.length) ∧ (Cond.methodLink own index y).before args s = true ∧ (Cond.static y).before args s = true
theorem vx_cwSW {own : String} {index maxL mc ms : Nat} {y : MethodName} {bytes : ByteArray} {ret : Option FieldType} {hh : List (Nat × Nat × Nat × Nat)} {Ts ws ws' : List Cond} {rm : Room} (n : Nat) (ht : ∀ w ∈ Ts, w.before args s = true) (hT : GoodIn Ts (va_wsS own index y ws)) (hw : ws = Cond.codeWith y bytes maxL ret hh :: ws') (hrc : rm.cells = mc) (hrs : rm.slots = ms)
    (hd : y.cls ≠ "java/lang/invoke/MethodHandle" ∧ y.cls ≠ "java/lang/invoke/VarHandle" ∧ (parseMethodDescriptor y.desc).map (fun d => d.parameters.length) = some n) (hR : rm.frames + 1 ≤ R.frames ∧ 8 + (maxL + 11) + rm.locals ≤ R.locals) :
    vx_CSW R s args own index y bytes maxL ret hh ws rm mc ms n := by
  have ok : ∀ w ∈ va_wsS own index y ws, w.before args s = true := fun w h => ht w (hT w h).1
  have hG : GoodIn Ts ws := fun w h => hT w (by unfold va_wsS; exact List.mem_append_right _ h)
  have hc : Cond.codeWith y bytes maxL ret hh ∈ ws := by rw [hw]; exact List.mem_cons_self
  refine ⟨⟨hrc, hrs, hR.1, hR.2, pay_in ht hG, hc⟩, ht _ (hG _ hc).1, ok _ (by simp [va_wsS]), ⟨hd.1, hd.2.1⟩, fun sig h => ?_, ok _ (by simp [va_wsS]), ok _ (by simp [va_wsS])⟩
  have h2 := hd.2.2
  rw [h] at h2
  exact (Option.some.inj h2).symm
theorem vx_callSW (X : Stand p l e R s m args below meth c T locs cells slots) (hexec : p.tables.exec = Jvm.exec) {own : String} {index : Nat} {y : MethodName} {bytes : ByteArray} {maxL : Nat} {ret : Option FieldType} {hh : List (Nat × Nat × Nat × Nat)}
    (hown : s.vm.findClass own = some m.cls) (hlink : (Cond.methodLink own index y).before args s = true) (hstat : (Cond.static y).before args s = true) (hinit : (Cond.initialized y.cls).before args s = true)
    (hcode : (Cond.codeWith y bytes maxL ret hh).before args s = true) (hy : y.cls ≠ "java/lang/invoke/MethodHandle" ∧ y.cls ≠ "java/lang/invoke/VarHandle")
    {W9 : Nat} {Pre : Pt → Array Value → Prop} {Post : Pt → Array Value → Option Value → Pt → Prop} (hK : Back l R p e below s args y 3 W9 Pre Post)
    {g : JFrame} (hg : g.method = m) (hsize : g.locals.size = c.maxLocals) {argsL rest : List Value} (hlen : ∀ sig, parseMethodDescriptor y.desc = some sig → argsL.length = sig.parameters.length)
    (hstack : g.stack = argsL.reverse ++ rest) (hW : 2 * g.monitorRoom + (rest.map fun v => v.category).sum ≤ W9) (hdg : decode c.code g.pc = .ok (.invokestatic index, 3))
    (hpre : ∀ vm₁, s.WarmedH vm₁ → Pre ⟨T.setVm vm₁, locs, cells, slots⟩ argsL.toArray) :
    ∃ (v : Option Value) (vm₁ : Vm) (B : Pt), s.WarmedH vm₁ ∧ Stand p l e R s m args below meth c B.U B.locs B.cells B.slots ∧ Post ⟨T.setVm vm₁, locs, cells, slots⟩ argsL.toArray v B ∧
      ∀ target, Steps p.tables e below (B.U.setTop { g with pc := g.pc + 3, stack := v.toList ++ rest }) target → Steps p.tables e below (T.setTop g) target := by
  obtain ⟨mk, methM, cM, hnamed, hmethM, -, -, -, -, -, -, hsigM⟩ := Cond.codeWith_spec hcode
  have hstatic : methM.isStatic = true := Cond.static_spec hnamed hmethM hstat
  obtain ⟨kP, hkP, -⟩ := className_of_methodNamed hnamed
  have hinitP : kP.init = .initialized := Cond.initialized_spec (findClass_of_methodNamed hnamed) hkP hinit
  obtain ⟨vm₁, X₁, hstep₁⟩ := X.invokestatic hexec hown hlink hnamed hmethM hstatic hkP hinitP hy (g := g) hg (argsL := argsL) (rest := rest) (hlen _ hsigM) hstack hdg
  obtain ⟨v, B, X', hpost, hsteps⟩ := hK m meth c ⟨T.setVm vm₁, locs, cells, slots⟩ { g with stack := rest } (.invokestatic index) mk argsL.toArray X₁ hg hsize hdg hW (X₁.named hnamed) (hpre vm₁ X₁.warmed)
  exact ⟨v, vm₁, B, X₁.warmed, X', hpost, fun target h => hstep₁ _ fun acts => by rw [doInvoke_state]; exact hsteps.trans h⟩
theorem vx_runSW {y : MethodName} {bytes cc : ByteArray} {maxL nL mc ms n index : Nat} {ret : Option FieldType} {hh : List (Nat × Nat × Nat × Nat)} {ws : List Cond} {rm : Room} {Pc : Array Value → State → Prop} {Qc : Array Value → State → Outcome → State → Prop} {free : Addr → Prop} {Ts : List Cond} {own : String} {As rest : List Value} {g : JFrame}
    (S : CallFix p m c cc nL s args Ts own) (hM : Met l y ws rm Pc Qc mc ms free) (cw : vx_CSW R s args own index y bytes maxL ret hh ws rm mc ms n) (hp : PreS s H Pc As)
    (hg : g.method = m) (hn : As.length = n) (hsize : g.locals.size = nL) (hstack : g.stack = As.reverse ++ rest) (hW : 2 * g.monitorRoom + (rest.map fun v => v.category).sum ≤ 8) (hdg : decode cc g.pc = .ok (.invokestatic index, 3)) (hf : cells + mc ≤ R.cells ∧ slots + ms ≤ R.slots) :
    va_Run p l e R s m args below meth c H locs cells slots mc ms g rest (Qc As.toArray) (free) := by
  obtain ⟨⟨hrc, hrs, hfr, hlo, hws, hcw⟩, hcode, hini, hy, hlen, hl, hstt⟩ := cw
  have hK : Back l R p e below s args y 3 8 (PreOf R mc ms Pc) (PostOf Qc mc ms free) := va_backW (hh := hh) (bytes := bytes) (maxL := maxL) (ret := ret) hM hp.1 hrc hrs hfr hlo hws hcw (fun a' U hW => word_at hW (Or.inl (by first | rfl | simp [Cond.onTables, Cond.keeps, Cond.steady])) hini)
  obtain ⟨hx, hb, hml, ho, -⟩ := S
  intro T hT X
  obtain ⟨v, vm₁, ⟨U', l2, c2, s2⟩, hW₁, X', ⟨g', mk, t, L, e1, e2, hq, h1, hL, h2, h3⟩, st⟩ := vx_callSW X hx (hh := hh) (bytes := bytes) (maxL := maxL) (ret := ret) ho hl hstt hini hcode hy hK hg (hsize.trans hml.symm) (argsL := As) (rest := rest) (fun sig h => hn.trans (hlen sig h)) hstack hW (by rw [hb]; exact hdg)
    (fun vm₁ hW₁ => ⟨hf.1, hf.2, hp.2 (T.setVm vm₁) hT hW₁⟩)
  dsimp only [Pt.U, Pt.locs, Pt.cells, Pt.slots] at X' e1 e2 h1 h2 h3 st
  subst h1; subst h2; subst h3
  exact ⟨v, (T.setVm vm₁).calling g' mk As.toArray, t, U', L, hT, X', hL, e1, e2, hq, st⟩
/-- not caught here, past rows that name other classes: it goes on to the caller -/
theorem vx_outP {p : Program} {l : Launch} {e : Env} {R : Room} {s : State} {m : MethodId} {args : Array Value} {below : List Frame} {meth : Method} {c : Code} {H : Heap} {locs : List Loc} {cells slots : Nat} {free : Addr → Prop} {ls : Array Slot} {rest : List Value} {Qc : Array Value → State → Outcome → State → Prop} {XC : String → State → State → Prop}
    {pc : Nat} {own E : String} {ce : Cell} {q : Addr} {mc ms : Nat} (hown : s.vm.findClass own = some m.cls) (hlocks : meth.locks = false)
    (hpass : ∀ z ∈ c.exceptionTable.toList, covers z pc = false ∨ (z.catchType ≠ 0 ∧ ∃ nm : String, (Cond.classLink own z.catchType nm).before args s = true ∧ va_Nc E nm s)) (hcell : H[q]? = some ce) (hv : ce.vm = .none) (hcl : s.vm.findClass E = some ce.cls)
    (hx : ∀ t : State, t.heap = H → s.vm.Alike t.vm → XC E s t) (hf : ∀ z ∈ locs, free z.base) (hc : cells ≤ mc) (hs : slots ≤ ms) :
    vx_W p l e R s m args below meth c H locs cells slots (vx_MQ below Qc XC args s mc ms free) (F0 m pc ls rest) q := by
  intro T hT X
  have hpl : e.platform.magicAccessors = ({} : Platform).magicAccessors := by rw [X.admits.platform]
  obtain ⟨vm', hW', X', st⟩ := X.outThrough hlocks q (g := F0 m pc ls rest) rfl rfl rfl (cell := ce) (by rw [hT]; exact hcell) (by rw [hv]; rfl)
    (by obtain ⟨k9, h9, -⟩ := Vm.findClass_spec hcl; exact ⟨k9, h9⟩) (fun z hz => by
      rcases hpass z hz with h | ⟨hz0, nm, hl1, hn1⟩
      · exact Or.inl h
      · obtain ⟨c6, hc6, hcl6⟩ := Cond.classLink_spec hown hl1 e.platform hpl
        obtain ⟨a8, b8, h1, h2, h3⟩ := hn1
        cases Option.some.inj (h1.symm.trans hcl)
        cases Option.some.inj (h2.symm.trans hc6)
        exact Or.inr ⟨hz0, _, hcl6, h3⟩)
  obtain ⟨g₀, hfr⟩ := X'.frames_eq
  have hcell9 : ((T.setVm vm').setFrames (.throwing q :: below)).heap[q]? = some ce := by
    show T.heap[q]? = some ce
    rw [hT]; exact hcell
  have hend : Ended ((T.setVm vm').setFrames (.throwing q :: below)) below (.threw q) := State.frames_setFrames _ (State.cur_lt_of_frames hfr)
  refine ⟨(T.setVm vm').setFrames (.throwing q :: below), ?_, .threw q, X'.here.running, hend, Or.inr ⟨q, rfl, E, ce, locs, hx _ hT (X'.ends _).1.alike, hcell9, hv, hcl, (X'.ends _).1, (X'.ends _).2.mono hc hs, hf⟩⟩
  rw [X.pushThrowing_eq]
  exact st
/-- a thing of a world lies in the heap -/
theorem vx_lt {D : va_G} {cl : List vw_C} {ws : va_W} {H1 : Heap} (h : va_P D cl ws H1) {k : Nat} {q : Nat × va_E} (hk : ws[k]? = some q) : q.1 < H1.size := (h k q hk).lt
end VXS
/-! ===== END ===== -/
/-! ===== BEGIN methods with a table of their own: called by a name, returning or throwing ===== -/
section VXH
/-! vx_backW, vx_callVX, vx_callSX, vx_callVW, vx_runVW, vx_runVX, vx_runSX, vx_ofWH follow the same proofs as their sisters above (Free/Laws.lean, Shelf42/LK1.lean); vx_outP calls Shelf42/NT130.lean (outThrough). -/
section
variable {l : Launch} {R : Room} {p : Program} {e : Env} {below : List Frame} {s : State} {sargs : Array Value} {y : MethodName} {len W9 : Nat}
theorem vx_backW {ws : List Cond} {rm : Room} {Pc : Array Value → State → Prop} {Qc : Array Value → State → Outcome → State → Prop} {XC : String → State → State → Prop} {mc ms : Nat} {free : Addr → Prop} {bytes : ByteArray} {maxL : Nat} {ret : Option FieldType} {hh : List (Nat × Nat × Nat × Nat)}
    (hM : vx_Met l y ws rm Pc Qc XC mc ms free) (hblind : FrameBlind Pc) (hrc : rm.cells = mc) (hrs : rm.slots = ms)
    (hframes : rm.frames + 1 ≤ R.frames) (hlocals : W9 + (maxL + 11) + rm.locals ≤ R.locals)
    (hws : ∀ w ∈ ws, ∀ a' U, s.WarmedH U.vm → w.before a' U = true) (hcode : Cond.codeWith y bytes maxL ret hh ∈ ws) (hinit : ∀ a' U, s.WarmedH U.vm → (Cond.initialized y.cls).before a' U = true) :
    vx_Back l R p e below s sargs y len W9 (PreOf R mc ms Pc) (PostOf Qc mc ms free) (vx_Post XC mc ms free) := by
  intro m meth c A g ig mk a X hg hsize hdg hW hn hp
  have h1 : (headSpec ws rm).pre.before a A.U = true := atoms_intro fun w hw => hws w hw _ _ X.warmed
  have h2 : (Cond.codeWith y bytes maxL ret hh).before a A.U = true := hws _ hcode _ _ X.warmed
  have h3 : (Cond.initialized y.cls).before a A.U = true := hinit _ _ X.warmed
  have h4 : A.cells + (headSpec ws rm).room.cells ≤ R.cells := by rw [show (headSpec ws rm).room.cells = mc from hrc]; exact hp.1
  have h5 : A.slots + (headSpec ws rm).room.slots ≤ R.slots := by rw [show (headSpec ws rm).room.slots = ms from hrs]; exact hp.2.1
  have hPc : Pc a (A.U.calling g mk a) := hblind _ _ _ _ hp.2.2
  obtain ⟨U, Ls, c0, s0⟩ := A
  dsimp only [Pt.U, Pt.locs, Pt.cells, Pt.slots] at h1 h2 h3 h4 h5 X hn hPc ⊢
  obtain ⟨m9, methY, cY, hn9, hmY, hcY, -, hlY, -⟩ := Cond.codeWith_spec h2
  cases Option.some.inj (hn9.symm.trans hn)
  obtain ⟨kY, hkY, -⟩ := className_of_methodNamed hn
  have hinitY : kY.init = .initialized := Cond.initialized_spec (findClass_of_methodNamed hn) hkY h3
  have h : At U g.method c below := by rw [hg]; exact X.here
  have hlocals9 : W9 + (maxL + 11) + (headSpec ws rm).room.locals ≤ R.locals := hlocals
  have happ : (headSpec ws rm).appliesLoose y e.platform (U.calling g mk a) = true :=
    Spec.appliesLoose_calling (g := g) h hdg hn hkY hinitY
      (X.room_calling (g := g) (R' := (headSpec ws rm).room) hsize hmY hcY hframes (by rw [hlY]; omega) h4 h5) h1
  obtain ⟨mid, hmid⟩ := h.above
  have hfr : (U.setTop g).frames = (.java g :: mid) ++ below := by rw [State.frames_setTop' g h.top, hmid]; rfl
  obtain ⟨o, s₂, hsteps, -, hend, hq⟩ := Steps.callFree hM p X.admits X.cas X.clock (acts := []) hfr happ hPc trivial
  have hq' : vx_Q Qc XC mc ms free a (U.calling g mk a) o s₂ := hq
  rw [State.frames_setTop' g h.top] at hend
  obtain ⟨g₀, hg0⟩ := Option.isSome_iff_exists.mp h.top
  obtain ⟨r, hr⟩ := State.topJava?_eq_some.mp hg0
  have hr' : (({ U with heap := s₂.heap, slotsUsed := s₂.slotsUsed } : State).setVm s₂.vm).frames = .java g₀ :: r := hr
  rcases hq' with ⟨hqc, L, hfe, hL⟩ | ⟨q, rfl, E, ce, L, hx, hce, hcv, hcl, hW₂, hsm, hL⟩
  · obtain ⟨⟨v, rfl⟩, hW₂, e2, q2, q3, q4, q5, q6⟩ := id hfe
    have e3 : s₂ = ({ (U.calling g mk a).setFrames s₂.frames with heap := s₂.heap, slotsUsed := s₂.slotsUsed } : State).setVm s₂.vm := by
      have : s₂ = ({ s₂ with vm := (U.calling g mk a).vm } : State).setVm s₂.vm := rfl
      rw [e2] at this
      exact this
    obtain ⟨c₂, i₂, len₂, hc₂, hd₂, hf₂⟩ := hend
    have hW' : U.WarmedH s₂.vm := hW₂
    have hcc : c₂ = c := by
      have h1 : s₂.code? g.method = U.code? g.method := by
        rw [State.code?_eq, State.code?_eq, hW'.alike.method?]
      exact Option.some.inj (hc₂.symm.trans (h1.trans h.code))
    subst hcc
    have hlen : len₂ = len := by rw [hdg] at hd₂; cases hd₂; rfl
    subst hlen
    have hs₂ : s₂ = (({ U with heap := s₂.heap, slotsUsed := s₂.slotsUsed } : State).setVm s₂.vm).setTop { g with pc := g.pc + len₂, stack := v.toList ++ g.stack } := by
      refine e3.trans ?_
      rw [hf₂, State.calling_eq h.top, State.setFrames_setFrames, State.setTop_of_frames _ hr', hr]
      rfl
    have hsame : U.sameButNew ({ U with heap := s₂.heap, slotsUsed := s₂.slotsUsed } : State) L mc ms := by
      refine ⟨?_, q2, q3, q4, q5, q6⟩
      obtain ⟨t, ht, -⟩ := State.frames_cons hr
      show ({ U with heap := s₂.heap, slotsUsed := s₂.slotsUsed } : State) = { U.setFrames U.frames with heap := s₂.heap, slotsUsed := s₂.slotsUsed }
      rw [State.setFrames_self ht]
    subst hg
    refine Or.inl ⟨v, ⟨(({ U with heap := s₂.heap, slotsUsed := s₂.slotsUsed } : State).setVm s₂.vm), Ls ++ L, c0 + mc, s0 + ms⟩,
      ⟨X.admits, X.cas, X.clock, X.frames, X.room, X.hears, X.method, X.code, (X.here.setHeapUsed s₂.heap s₂.slotsUsed).setVm hW'.alike, X.tail, State.WarmedH.trans X.warmed hW', X.limits, X.bytes, X.same.trans (hsame.setVm s.vm)⟩,
      ⟨g, mk, s₂, L, rfl, rfl, hqc, rfl, hL, rfl, rfl⟩, ?_⟩
    show Steps p.tables e below _ ((({ U with heap := s₂.heap, slotsUsed := s₂.slotsUsed } : State).setVm s₂.vm).setTop { g with pc := g.pc + len₂, stack := v.toList ++ g.stack })
    rw [← hs₂]
    exact hsteps
  · obtain ⟨e2, q2, q3, q4, q5, q6⟩ := id hsm
    have e3 : s₂ = ({ (U.calling g mk a).setFrames s₂.frames with heap := s₂.heap, slotsUsed := s₂.slotsUsed } : State).setVm s₂.vm := by
      have : s₂ = ({ s₂ with vm := (U.calling g mk a).vm } : State).setVm s₂.vm := rfl
      rw [e2] at this
      exact this
    have hf₂ : s₂.frames = .throwing q :: .java g :: U.frames.tail := hend
    have hW' : U.WarmedH s₂.vm := hW₂
    have hs₂ : s₂ = ((({ U with heap := s₂.heap, slotsUsed := s₂.slotsUsed } : State).setVm s₂.vm).setTop g).pushFrame (.throwing q) := by
      refine e3.trans ?_
      rw [hf₂, State.calling_eq h.top, State.setFrames_setFrames, State.pushFrame, State.frames_setTop _ hr', State.setTop_of_frames _ hr', State.setFrames_setFrames, hr]
      rfl
    have hsame : U.sameButNew ({ U with heap := s₂.heap, slotsUsed := s₂.slotsUsed } : State) L mc ms := by
      refine ⟨?_, q2, q3, q4, q5, q6⟩
      obtain ⟨t, ht, -⟩ := State.frames_cons hr
      show ({ U with heap := s₂.heap, slotsUsed := s₂.slotsUsed } : State) = { U.setFrames U.frames with heap := s₂.heap, slotsUsed := s₂.slotsUsed }
      rw [State.setFrames_self ht]
    subst hg
    refine Or.inr ⟨q, ⟨(({ U with heap := s₂.heap, slotsUsed := s₂.slotsUsed } : State).setVm s₂.vm), Ls ++ L, c0 + mc, s0 + ms⟩,
      ⟨X.admits, X.cas, X.clock, X.frames, X.room, X.hears, X.method, X.code, (X.here.setHeapUsed s₂.heap s₂.slotsUsed).setVm hW'.alike, X.tail, State.WarmedH.trans X.warmed hW', X.limits, X.bytes, X.same.trans (hsame.setVm s.vm)⟩,
      ⟨g, mk, s₂, L, E, ce, rfl, rfl, hx, hce, hcv, hcl, rfl, hL, rfl, rfl⟩, ?_⟩
    show Steps p.tables e below _ (((({ U with heap := s₂.heap, slotsUsed := s₂.slotsUsed } : State).setVm s₂.vm).setTop g).pushFrame (.throwing q))
    rw [← hs₂]
    exact hsteps
end
variable {p : Program} {l : Launch} {e : Env} {R : Room} {s : State} {m : MethodId} {args : Array Value} {below : List Frame} {meth : Method} {c : Code} {T : State} {H : Heap} {locs : List Loc} {cells slots : Nat}
theorem vx_callVX (X : Stand p l e R s m args below meth c T locs cells slots) (hexec : p.tables.exec = Jvm.exec) {own C : String} {index : Nat} {y : MethodName} {bytes : ByteArray} {maxL : Nat} {ret : Option FieldType} {hh : List (Nat × Nat × Nat × Nat)}
    (hown : s.vm.findClass own = some m.cls) (hlink : (Cond.methodLink own index y).before args s = true) (hinst : (Cond.instanceMethod y).before args s = true) (hsel : (Cond.selects C y y).before args s = true)
    (hcode : (Cond.codeWith y bytes maxL ret hh).before args s = true) (hy : y.cls ≠ "java/lang/invoke/MethodHandle" ∧ y.cls ≠ "java/lang/invoke/VarHandle")
    {W9 : Nat} {Pre : Pt → Array Value → Prop} {Post : Pt → Array Value → Option Value → Pt → Prop} {PostX : Pt → Array Value → Addr → Pt → Prop} (hK : vx_Back l R p e below s args y 3 W9 Pre Post PostX)
    {b : Addr} {cellB : Cell} (hcell : T.heap[b]? = some cellB) (hobj : cellB.vm.isStatics = false) (hcls : s.vm.findClass C = some cellB.cls)
    {g : JFrame} (hg : g.method = m) (hsize : g.locals.size = c.maxLocals) {argsL rest : List Value} (hlen : ∀ sig, parseMethodDescriptor y.desc = some sig → argsL.length = sig.parameters.length)
    (hstack : g.stack = argsL.reverse ++ .ref b :: rest) (hW : 2 * g.monitorRoom + (rest.map fun v => v.category).sum ≤ W9) (hdg : decode c.code g.pc = .ok (.invokevirtual index, 3))
    (hpre : ∀ vm₁, s.WarmedH vm₁ → Pre ⟨T.setVm vm₁, locs, cells, slots⟩ (Value.ref b :: argsL).toArray) :
    (∃ (v : Option Value) (vm₁ : Vm) (B : Pt), s.WarmedH vm₁ ∧ Stand p l e R s m args below meth c B.U B.locs B.cells B.slots ∧ Post ⟨T.setVm vm₁, locs, cells, slots⟩ (Value.ref b :: argsL).toArray v B ∧
      ∀ target, Steps p.tables e below (B.U.setTop { g with pc := g.pc + 3, stack := v.toList ++ rest }) target → Steps p.tables e below (T.setTop g) target) ∨
    (∃ (q : Addr) (vm₁ : Vm) (B : Pt), s.WarmedH vm₁ ∧ Stand p l e R s m args below meth c B.U B.locs B.cells B.slots ∧ PostX ⟨T.setVm vm₁, locs, cells, slots⟩ (Value.ref b :: argsL).toArray q B ∧
      Steps p.tables e below (T.setTop g) ((B.U.setTop { g with stack := rest }).pushFrame (.throwing q))) := by
  obtain ⟨mk, methM, hnamed, hmethM, hstM, habM⟩ := Cond.instanceMethod_spec hinst
  obtain ⟨m8, methM', cM, hn8, hmethM', -, -, -, -, -, -, hsigM⟩ := Cond.codeWith_spec hcode
  cases Option.some.inj (hn8.symm.trans hnamed)
  cases hmethM.symm.trans hmethM'
  obtain ⟨c2, r2, m2, q1, q2, q3, q4, kP, hkP, hkPi⟩ := Cond.selects_spec hsel
  cases hcls.symm.trans q1
  cases (State.methodFound?_of_named hnamed hy).symm.trans q2
  cases hnamed.symm.trans q3
  have hselP : selectMethod e.platform s.vm cellB.cls mk = .method mk := by rw [Launch.admits_selectMethod X.admits]; exact q4
  obtain ⟨vm₁, X₁, hstep₁⟩ := X.invokevirtual hexec hown hlink hnamed hmethM hstM hkP hkPi hy (a := b) (cell := cellB) hcell
    (fun z h => by rw [h] at hobj; cases hobj) hselP hmethM habM hkP hkPi (g := g) hg (argsL := argsL) (rest := rest) (hlen _ hsigM) hstack hdg
  rcases hK m meth c ⟨T.setVm vm₁, locs, cells, slots⟩ { g with stack := rest } (.invokevirtual index) mk (Value.ref b :: argsL).toArray X₁ hg hsize hdg hW (X₁.named hnamed) (hpre vm₁ X₁.warmed) with ⟨v, B, X', hpost, hsteps⟩ | ⟨q, B, X', hpost, hsteps⟩
  · exact Or.inl ⟨v, vm₁, B, X₁.warmed, X', hpost, fun target h => hstep₁ _ fun acts => by rw [doInvoke_state]; exact hsteps.trans h⟩
  · exact Or.inr ⟨q, vm₁, B, X₁.warmed, X', hpost, hstep₁ _ fun acts => by rw [doInvoke_state]; exact hsteps⟩
theorem vx_callSX (X : Stand p l e R s m args below meth c T locs cells slots) (hexec : p.tables.exec = Jvm.exec) {own : String} {index : Nat} {y : MethodName} {bytes : ByteArray} {maxL : Nat} {ret : Option FieldType} {hh : List (Nat × Nat × Nat × Nat)}
    (hown : s.vm.findClass own = some m.cls) (hlink : (Cond.methodLink own index y).before args s = true) (hstat : (Cond.static y).before args s = true) (hinit : (Cond.initialized y.cls).before args s = true)
    (hcode : (Cond.codeWith y bytes maxL ret hh).before args s = true) (hy : y.cls ≠ "java/lang/invoke/MethodHandle" ∧ y.cls ≠ "java/lang/invoke/VarHandle")
    {W9 : Nat} {Pre : Pt → Array Value → Prop} {Post : Pt → Array Value → Option Value → Pt → Prop} {PostX : Pt → Array Value → Addr → Pt → Prop} (hK : vx_Back l R p e below s args y 3 W9 Pre Post PostX)
    {g : JFrame} (hg : g.method = m) (hsize : g.locals.size = c.maxLocals) {argsL rest : List Value} (hlen : ∀ sig, parseMethodDescriptor y.desc = some sig → argsL.length = sig.parameters.length)
    (hstack : g.stack = argsL.reverse ++ rest) (hW : 2 * g.monitorRoom + (rest.map fun v => v.category).sum ≤ W9) (hdg : decode c.code g.pc = .ok (.invokestatic index, 3))
    (hpre : ∀ vm₁, s.WarmedH vm₁ → Pre ⟨T.setVm vm₁, locs, cells, slots⟩ argsL.toArray) :
    (∃ (v : Option Value) (vm₁ : Vm) (B : Pt), s.WarmedH vm₁ ∧ Stand p l e R s m args below meth c B.U B.locs B.cells B.slots ∧ Post ⟨T.setVm vm₁, locs, cells, slots⟩ argsL.toArray v B ∧
      ∀ target, Steps p.tables e below (B.U.setTop { g with pc := g.pc + 3, stack := v.toList ++ rest }) target → Steps p.tables e below (T.setTop g) target) ∨
    (∃ (q : Addr) (vm₁ : Vm) (B : Pt), s.WarmedH vm₁ ∧ Stand p l e R s m args below meth c B.U B.locs B.cells B.slots ∧ PostX ⟨T.setVm vm₁, locs, cells, slots⟩ argsL.toArray q B ∧
      Steps p.tables e below (T.setTop g) ((B.U.setTop { g with stack := rest }).pushFrame (.throwing q))) := by
  obtain ⟨mk, methM, cM, hnamed, hmethM, -, -, -, -, -, -, hsigM⟩ := Cond.codeWith_spec hcode
  have hstatic : methM.isStatic = true := Cond.static_spec hnamed hmethM hstat
  obtain ⟨kP, hkP, -⟩ := className_of_methodNamed hnamed
  have hinitP : kP.init = .initialized := Cond.initialized_spec (findClass_of_methodNamed hnamed) hkP hinit
  obtain ⟨vm₁, X₁, hstep₁⟩ := X.invokestatic hexec hown hlink hnamed hmethM hstatic hkP hinitP hy (g := g) hg (argsL := argsL) (rest := rest) (hlen _ hsigM) hstack hdg
  rcases hK m meth c ⟨T.setVm vm₁, locs, cells, slots⟩ { g with stack := rest } (.invokestatic index) mk argsL.toArray X₁ hg hsize hdg hW (X₁.named hnamed) (hpre vm₁ X₁.warmed) with ⟨v, B, X', hpost, hsteps⟩ | ⟨q, B, X', hpost, hsteps⟩
  · exact Or.inl ⟨v, vm₁, B, X₁.warmed, X', hpost, fun target h => hstep₁ _ fun acts => by rw [doInvoke_state]; exact hsteps.trans h⟩
  · exact Or.inr ⟨q, vm₁, B, X₁.warmed, X', hpost, hstep₁ _ fun acts => by rw [doInvoke_state]; exact hsteps⟩
theorem vx_callVW (X : Stand p l e R s m args below meth c T locs cells slots) (hexec : p.tables.exec = Jvm.exec) {own C : String} {index : Nat} {y : MethodName} {bytes : ByteArray} {maxL : Nat} {ret : Option FieldType} {hh : List (Nat × Nat × Nat × Nat)}
    (hown : s.vm.findClass own = some m.cls) (hlink : (Cond.methodLink own index y).before args s = true) (hinst : (Cond.instanceMethod y).before args s = true) (hsel : (Cond.selects C y y).before args s = true)
    (hcode : (Cond.codeWith y bytes maxL ret hh).before args s = true) (hy : y.cls ≠ "java/lang/invoke/MethodHandle" ∧ y.cls ≠ "java/lang/invoke/VarHandle")
    {W9 : Nat} {Pre : Pt → Array Value → Prop} {Post : Pt → Array Value → Option Value → Pt → Prop} (hK : Back l R p e below s args y 3 W9 Pre Post)
    {b : Addr} {cellB : Cell} (hcell : T.heap[b]? = some cellB) (hobj : cellB.vm.isStatics = false) (hcls : s.vm.findClass C = some cellB.cls)
    {g : JFrame} (hg : g.method = m) (hsize : g.locals.size = c.maxLocals) {argsL rest : List Value} (hlen : ∀ sig, parseMethodDescriptor y.desc = some sig → argsL.length = sig.parameters.length)
    (hstack : g.stack = argsL.reverse ++ .ref b :: rest) (hW : 2 * g.monitorRoom + (rest.map fun v => v.category).sum ≤ W9) (hdg : decode c.code g.pc = .ok (.invokevirtual index, 3))
    (hpre : ∀ vm₁, s.WarmedH vm₁ → Pre ⟨T.setVm vm₁, locs, cells, slots⟩ (Value.ref b :: argsL).toArray) :
    ∃ (v : Option Value) (vm₁ : Vm) (B : Pt), s.WarmedH vm₁ ∧ Stand p l e R s m args below meth c B.U B.locs B.cells B.slots ∧ Post ⟨T.setVm vm₁, locs, cells, slots⟩ (Value.ref b :: argsL).toArray v B ∧
      ∀ target, Steps p.tables e below (B.U.setTop { g with pc := g.pc + 3, stack := v.toList ++ rest }) target → Steps p.tables e below (T.setTop g) target := by
  obtain ⟨mk, methM, hnamed, hmethM, hstM, habM⟩ := Cond.instanceMethod_spec hinst
  obtain ⟨m8, methM', cM, hn8, hmethM', -, -, -, -, -, -, hsigM⟩ := Cond.codeWith_spec hcode
  cases Option.some.inj (hn8.symm.trans hnamed)
  cases hmethM.symm.trans hmethM'
  obtain ⟨c2, r2, m2, q1, q2, q3, q4, kP, hkP, hkPi⟩ := Cond.selects_spec hsel
  cases hcls.symm.trans q1
  cases (State.methodFound?_of_named hnamed hy).symm.trans q2
  cases hnamed.symm.trans q3
  have hselP : selectMethod e.platform s.vm cellB.cls mk = .method mk := by rw [Launch.admits_selectMethod X.admits]; exact q4
  obtain ⟨vm₁, X₁, hstep₁⟩ := X.invokevirtual hexec hown hlink hnamed hmethM hstM hkP hkPi hy (a := b) (cell := cellB) hcell
    (fun z h => by rw [h] at hobj; cases hobj) hselP hmethM habM hkP hkPi (g := g) hg (argsL := argsL) (rest := rest) (hlen _ hsigM) hstack hdg
  obtain ⟨v, B, X', hpost, hsteps⟩ := hK m meth c ⟨T.setVm vm₁, locs, cells, slots⟩ { g with stack := rest } (.invokevirtual index) mk (Value.ref b :: argsL).toArray X₁ hg hsize hdg hW (X₁.named hnamed) (hpre vm₁ X₁.warmed)
  exact ⟨v, vm₁, B, X₁.warmed, X', hpost, fun target h => hstep₁ _ fun acts => by rw [doInvoke_state]; exact hsteps.trans h⟩
abbrev vx_CVW (R : Room) (s : State) (args : Array Value) (own C : String) (index : Nat) (y : MethodName) (bytes : ByteArray) (maxL : Nat) (ret : Option FieldType) (hh : List (Nat × Nat × Nat × Nat)) (ws : List Cond) (rm : Room) (mc ms n : Nat) : Prop :=
  (rm.cells = mc ∧ rm.slots = ms ∧ rm.frames + 1 ≤ R.frames ∧ 8 + (maxL + 11) + rm.locals ≤ R.locals ∧ (∀ w ∈ ws, ∀ (a' : Array Value) (U : State), s.WarmedH U.vm → w.before a' U = true) ∧ Cond.codeWith y bytes maxL ret hh ∈ ws) ∧
  (Cond.codeWith y bytes maxL ret hh).before args s = true ∧ (Cond.initialized y.cls).before args s = true ∧ (y.cls ≠ "java/lang/invoke/MethodHandle" ∧ y.cls ≠ "java/lang/invoke/VarHandle") ∧
  (∀ sig, parseMethodDescriptor y.desc = some sig → n = sig.parameters.length) ∧ (Cond.methodLink own index y).before args s = true ∧ (Cond.instanceMethod y).before args s = true ∧ (Cond.selects C y y).before args s = true
theorem vx_cwVW {own C : String} {index maxL mc ms : Nat} {y : MethodName} {bytes : ByteArray} {ret : Option FieldType} {hh : List (Nat × Nat × Nat × Nat)} {Ts ws ws' : List Cond} {rm : Room} (n : Nat) (ht : ∀ w ∈ Ts, w.before args s = true) (hT : GoodIn Ts (wsV own index C y ws)) (hw : ws = Cond.codeWith y bytes maxL ret hh :: ws') (hrc : rm.cells = mc) (hrs : rm.slots = ms)
    (hd : y.cls = C ∧ y.cls ≠ "java/lang/invoke/MethodHandle" ∧ y.cls ≠ "java/lang/invoke/VarHandle" ∧ (parseMethodDescriptor y.desc).map (fun d => d.parameters.length) = some n) (hR : rm.frames + 1 ≤ R.frames ∧ 8 + (maxL + 11) + rm.locals ≤ R.locals) :
    vx_CVW R s args own C index y bytes maxL ret hh ws rm mc ms n := by
  obtain ⟨hC, hd⟩ := hd
  subst hC
  have ok : ∀ w ∈ wsV own index y.cls y ws, w.before args s = true := fun w h => ht w (hT w h).1
  have hG : GoodIn Ts ws := fun w h => hT w (by unfold wsV; exact List.mem_append_right _ h)
  have hc : Cond.codeWith y bytes maxL ret hh ∈ ws := by rw [hw]; exact List.mem_cons_self
  refine ⟨⟨hrc, hrs, hR.1, hR.2, pay_in ht hG, hc⟩, ht _ (hG _ hc).1, ok _ (by simp [wsV]), ⟨hd.1, hd.2.1⟩, fun sig h => ?_, ok _ (by simp [wsV]), ok _ (by simp [wsV]), ok _ (by simp [wsV])⟩
  have h2 := hd.2.2
  rw [h] at h2
  exact (Option.some.inj h2).symm
theorem vx_runVW {y : MethodName} {bytes cc : ByteArray} {maxL nL mc ms n index : Nat} {ret : Option FieldType} {hh : List (Nat × Nat × Nat × Nat)} {ws : List Cond} {rm : Room} {Pc : Array Value → State → Prop} {Qc : Array Value → State → Outcome → State → Prop} {free : Addr → Prop} {Ts : List Cond} {own C : String} {b : Addr} {As rest : List Value} {g : JFrame}
    (S : CallFix p m c cc nL s args Ts own) (hM : Met l y ws rm Pc Qc mc ms free) (cw : vx_CVW R s args own C index y bytes maxL ret hh ws rm mc ms n) (hp : PreV s H C b Pc As)
    (hg : g.method = m) (hn : As.length = n) (hsize : g.locals.size = nL) (hstack : g.stack = As.reverse ++ .ref b :: rest) (hW : 2 * g.monitorRoom + (rest.map fun v => v.category).sum ≤ 8) (hdg : decode cc g.pc = .ok (.invokevirtual index, 3)) (hf : cells + mc ≤ R.cells ∧ slots + ms ≤ R.slots) :
    va_Run p l e R s m args below meth c H locs cells slots mc ms g rest (Qc (Value.ref b :: As).toArray) free := by
  obtain ⟨⟨hrc, hrs, hfr, hlo, hws, hcw⟩, hcode, hini, hy, hlen, hl, hin, hse⟩ := cw
  have hK : Back l R p e below s args y 3 8 (PreOf R mc ms Pc) (PostOf Qc mc ms free) := va_backW (hh := hh) (bytes := bytes) (maxL := maxL) (ret := ret) hM hp.1 hrc hrs hfr hlo hws hcw (fun a' U hW => word_at hW (Or.inl (by first | rfl | simp [Cond.onTables, Cond.keeps, Cond.steady])) hini)
  obtain ⟨hx, hb, hml, ho, -⟩ := S
  obtain ⟨-, ⟨cellB, hcB, hoB, hclB⟩, hPc⟩ := hp
  intro T hT X
  obtain ⟨v, vm₁, ⟨U', l2, c2, s2⟩, hW₁, X', ⟨g', mk, t, L, e1, e2, hq, h1, hL, h2, h3⟩, st⟩ := vx_callVW X hx (C := C) (hh := hh) (bytes := bytes) (maxL := maxL) (ret := ret) ho hl hin hse hcode hy hK (by rw [hT]; exact hcB) hoB hclB hg (hsize.trans hml.symm) (argsL := As) (rest := rest) (fun sig h => hn.trans (hlen sig h)) hstack hW (by rw [hb]; exact hdg)
    (fun vm₁ hW₁ => ⟨hf.1, hf.2, hPc (T.setVm vm₁) hT hW₁⟩)
  dsimp only [Pt.U, Pt.locs, Pt.cells, Pt.slots] at X' e1 e2 h1 h2 h3 st
  subst h1; subst h2; subst h3
  exact ⟨v, (T.setVm vm₁).calling g' mk (Value.ref b :: As).toArray, t, U', L, hT, X', hL, e1, e2, hq, st⟩
section
variable {y : MethodName} {bytes cc : ByteArray} {maxL nL mc ms n index : Nat} {ret : Option FieldType} {ws : List Cond} {rm : Room} {Pc : Array Value → State → Prop} {Qc : Array Value → State → Outcome → State → Prop} {XC : String → State → State → Prop} {free : Addr → Prop} {Ts : List Cond} {own C : String} {b : Addr} {As rest : List Value} {g : JFrame}
theorem vx_runVX {hh : List (Nat × Nat × Nat × Nat)} (S : CallFix p m c cc nL s args Ts own) (hM : vx_Met l y ws rm Pc Qc XC mc ms free) (cw : vx_CVW R s args own C index y bytes maxL ret hh ws rm mc ms n) (hp : PreV s H C b Pc As)
    (hg : g.method = m) (hn : As.length = n) (hsize : g.locals.size = nL) (hstack : g.stack = As.reverse ++ .ref b :: rest) (hW : 2 * g.monitorRoom + (rest.map fun v => v.category).sum ≤ 8) (hdg : decode cc g.pc = .ok (.invokevirtual index, 3)) (hf : cells + mc ≤ R.cells ∧ slots + ms ≤ R.slots) :
    vx_Run p l e R s m args below meth c H locs cells slots mc ms g rest (Qc (Value.ref b :: As).toArray) XC free := by
  obtain ⟨⟨hrc, hrs, hfr, hlo, hws, hcw⟩, hcode, hini, hy, hlen, hl, hin, hse⟩ := cw
  have hK : vx_Back l R p e below s args y 3 8 (PreOf R mc ms Pc) (PostOf Qc mc ms free) (vx_Post XC mc ms free) := vx_backW (hh := hh) (bytes := bytes) (maxL := maxL) (ret := ret) hM hp.1 hrc hrs hfr hlo hws hcw (fun a' U hW => word_at hW (Or.inl (by first | rfl | simp [Cond.onTables, Cond.keeps, Cond.steady])) hini)
  obtain ⟨hx, hb, hml, ho, -⟩ := S
  obtain ⟨-, ⟨cellB, hcB, hoB, hclB⟩, hPc⟩ := hp
  intro T hT X
  rcases vx_callVX X hx (C := C) (hh := hh) (bytes := bytes) (maxL := maxL) (ret := ret) ho hl hin hse hcode hy hK (by rw [hT]; exact hcB) hoB hclB hg (hsize.trans hml.symm) (argsL := As) (rest := rest) (fun sig h => hn.trans (hlen sig h)) hstack hW (by rw [hb]; exact hdg)
    (fun vm₁ hW₁ => ⟨hf.1, hf.2, hPc (T.setVm vm₁) hT hW₁⟩) with ⟨v, vm₁, ⟨U', l2, c2, s2⟩, hW₁, X', ⟨g', mk, t, L, e1, e2, hq, h1, hL, h2, h3⟩, st⟩ | ⟨q, vm₁, ⟨U', l2, c2, s2⟩, hW₁, X', ⟨g', mk, t, L, E, ce, e1, e2, hq, hce, hcv, hcl, h1, hL, h2, h3⟩, st⟩
  · dsimp only [Pt.U, Pt.locs, Pt.cells, Pt.slots] at X' e1 e2 h1 h2 h3 st
    subst h1; subst h2; subst h3
    exact Or.inl ⟨v, (T.setVm vm₁).calling g' mk (Value.ref b :: As).toArray, t, U', L, hT, X', hL, e1, e2, hq, st⟩
  · dsimp only [Pt.U, Pt.locs, Pt.cells, Pt.slots] at X' e1 e2 h1 h2 h3 st hcl
    subst h1; subst h2; subst h3
    exact Or.inr ⟨q, (T.setVm vm₁).calling g' mk (Value.ref b :: As).toArray, t, U', L, E, ce, hT, X', hL, e1, e2, hq, hce, hcv, vx_cls hW₁ hcl, st⟩
theorem vx_runSX {hh : List (Nat × Nat × Nat × Nat)} (S : CallFix p m c cc nL s args Ts own) (hM : vx_Met l y ws rm Pc Qc XC mc ms free) (cw : vx_CSW R s args own index y bytes maxL ret hh ws rm mc ms n) (hp : PreS s H Pc As)
    (hg : g.method = m) (hn : As.length = n) (hsize : g.locals.size = nL) (hstack : g.stack = As.reverse ++ rest) (hW : 2 * g.monitorRoom + (rest.map fun v => v.category).sum ≤ 8) (hdg : decode cc g.pc = .ok (.invokestatic index, 3)) (hf : cells + mc ≤ R.cells ∧ slots + ms ≤ R.slots) :
    vx_Run p l e R s m args below meth c H locs cells slots mc ms g rest (Qc As.toArray) XC free := by
  obtain ⟨⟨hrc, hrs, hfr, hlo, hws, hcw⟩, hcode, hini, hy, hlen, hl, hstt⟩ := cw
  have hK : vx_Back l R p e below s args y 3 8 (PreOf R mc ms Pc) (PostOf Qc mc ms free) (vx_Post XC mc ms free) := vx_backW (hh := hh) (bytes := bytes) (maxL := maxL) (ret := ret) hM hp.1 hrc hrs hfr hlo hws hcw (fun a' U hW => word_at hW (Or.inl (by first | rfl | simp [Cond.onTables, Cond.keeps, Cond.steady])) hini)
  obtain ⟨hx, hb, hml, ho, -⟩ := S
  intro T hT X
  rcases vx_callSX X hx (hh := hh) (bytes := bytes) (maxL := maxL) (ret := ret) ho hl hstt hini hcode hy hK hg (hsize.trans hml.symm) (argsL := As) (rest := rest) (fun sig h => hn.trans (hlen sig h)) hstack hW (by rw [hb]; exact hdg)
    (fun vm₁ hW₁ => ⟨hf.1, hf.2, hp.2 (T.setVm vm₁) hT hW₁⟩) with ⟨v, vm₁, ⟨U', l2, c2, s2⟩, hW₁, X', ⟨g', mk, t, L, e1, e2, hq, h1, hL, h2, h3⟩, st⟩ | ⟨q, vm₁, ⟨U', l2, c2, s2⟩, hW₁, X', ⟨g', mk, t, L, E, ce, e1, e2, hq, hce, hcv, hcl, h1, hL, h2, h3⟩, st⟩
  · dsimp only [Pt.U, Pt.locs, Pt.cells, Pt.slots] at X' e1 e2 h1 h2 h3 st
    subst h1; subst h2; subst h3
    exact Or.inl ⟨v, (T.setVm vm₁).calling g' mk As.toArray, t, U', L, hT, X', hL, e1, e2, hq, st⟩
  · dsimp only [Pt.U, Pt.locs, Pt.cells, Pt.slots] at X' e1 e2 h1 h2 h3 st hcl
    subst h1; subst h2; subst h3
    exact Or.inr ⟨q, (T.setVm vm₁).calling g' mk As.toArray, t, U', L, E, ce, hT, X', hL, e1, e2, hq, hce, hcv, vx_cls hW₁ hcl, st⟩
end
end VXH
theorem vx_ofWH {l : Launch} {y : MethodName} {ws ws' : List Cond} {rm : Room} {Pc : Array Value → State → Prop} {Qc : Array Value → State → Outcome → State → Prop} {XC : String → State → State → Prop} {mc ms : Nat} {free : Addr → Prop} {cc : ByteArray} {maxL : Nat} {ret : Option FieldType} {hh : List (Nat × Nat × Nat × Nat)}
    (hy : plainName y.cls = true) (hw : ws = Cond.codeWith y cc maxL ret hh :: ws')
    (body : ∀ p e s m args below meth c s₁, BodyLoose p l y (headSpec ws rm) cc maxL ret e s m args below meth c s₁ → c.maxLocals = maxL → Pc args s →
      W p l e (headSpec ws rm).room s m args below meth c s.heap [] 0 0 (vx_MQ below Qc XC args s mc ms free) (entryFrame m args maxL)) : vx_Met l y ws rm Pc Qc XC mc ms free := by
  refine MetFree.of_bodyS (code := cc) (maxLocals := maxL) (ret := ret) hy ?_ ?_
  · intro args s m h hn
    obtain ⟨m9, meth, c, hn9, h1, h2, h3, h4, -, h5, h6, -⟩ := Cond.codeWith_spec (atoms_spec (ws := ws) h _ (by rw [hw]; exact List.mem_cons_self))
    cases hn.symm.trans hn9
    exact ⟨meth, c, h1, h2, h3, h4, h5, h6⟩
  · intro p e s m args below meth c s₁ B hml hP _
    have hh0 : s₁.heap = s.heap := by rw [B.state]; rfl
    obtain ⟨t, a1, o, b1, b2, b3⟩ := body p e s m args below meth c s₁ B hml hP s₁ hh0 (Stand.of_body B)
    exact ⟨t, o, a1, b1, b2, b3⟩
/-! ===== END ===== -/
end
section
def RX0 : String := "TokenBus$Counts"
def TX0 : u_T := fun k => match k with
  | 0 => ("TokenBus$Counts", "visits", "I", false)
  | 1 => ("TokenBus$Counts", "sent", "I", false)
  | 2 => ("TokenBus$Counts", "spoilt", "I", false)
  | 3 => ("TokenBus$Counts", "lost", "I", false)
  | 4 => ("TokenBus$Counts", "polledIn", "I", false)
  | 5 => ("TokenBus$Counts", "silenced", "I", false)
  | 6 => ("TokenBus$Counts", "sentTicks", "I", false)
  | 7 => ("TokenBus$Counts", "greatestTurn", "I", false)
  | 8 => ("TokenBus$Counts", "greatestWait", "I", false)
  | _ => ("TokenBus$Counts", "sumOfWaits", "J", false)
def tyX0 : Nat → FieldType := fun k => match k with
  | 0 => .int
  | 1 => .int
  | 2 => .int
  | 3 => .int
  | 4 => .int
  | 5 => .int
  | 6 => .int
  | 7 => .int
  | 8 => .int
  | _ => .long
theorem nmX0 : ∀ a, a < 10 → ∀ b, b < 10 → a ≠ b → (TX0 a).2.1 ≠ (TX0 b).2.1 := by decide +kernel
theorem tyX0_ok : ∀ k, k < 10 → parseFieldDescriptor (TX0 k).2.2.1 = some (tyX0 k) := by decide +kernel
abbrev cX0_init : ByteArray := prog_2_method_1_code
def yX0_init : MethodName := ⟨RX0, "<init>", "()V"⟩
abbrev cX0_clear : ByteArray := prog_2_method_2_code
def yX0_clear : MethodName := ⟨RX0, "clear", "()V"⟩
abbrev cX0_copyFrom : ByteArray := prog_2_method_3_code
def yX0_copyFrom : MethodName := ⟨RX0, "copyFrom", "(LTokenBus$Counts;)V"⟩
abbrev cX0_addSent : ByteArray := prog_2_method_4_code
def yX0_addSent : MethodName := ⟨RX0, "addSent", "(II)V"⟩
abbrev cX0_value : ByteArray := prog_2_method_5_code
def yX0_value : MethodName := ⟨RX0, "value", "(I)I"⟩
def RX1 : String := "TokenBus$History"
def TX1 : u_T := fun k => match k with
  | 0 => ("TokenBus$History", "states", "[LTokenBus$Line;", true)
  | _ => ("TokenBus$History", "held", "I", false)
def tyX1 : Nat → FieldType := fun k => match k with
  | 0 => .array (.object "TokenBus$Line")
  | _ => .int
theorem nmX1 : ∀ a, a < 2 → ∀ b, b < 2 → a ≠ b → (TX1 a).2.1 ≠ (TX1 b).2.1 := by decide +kernel
theorem tyX1_ok : ∀ k, k < 2 → parseFieldDescriptor (TX1 k).2.2.1 = some (tyX1 k) := by decide +kernel
abbrev cX1_init : ByteArray := prog_3_method_1_code
def yX1_init : MethodName := ⟨RX1, "<init>", "()V"⟩
abbrev cX1_save : ByteArray := prog_3_method_2_code
def yX1_save : MethodName := ⟨RX1, "save", "(LTokenBus$Line;)V"⟩
abbrev cX1_dropOldest : ByteArray := prog_3_method_3_code
def yX1_dropOldest : MethodName := ⟨RX1, "dropOldest", "()V"⟩
abbrev cX1_restore : ByteArray := prog_3_method_4_code
def yX1_restore : MethodName := ⟨RX1, "restore", "(LTokenBus$Line;)V"⟩
abbrev cX1_stateAt : ByteArray := prog_3_method_5_code
def yX1_stateAt : MethodName := ⟨RX1, "stateAt", "(I)LTokenBus$Line;"⟩
def RX2 : String := "TokenBus$Line"
def TX2 : u_T := fun k => match k with
  | 0 => ("TokenBus$Line", "stations", "[LTokenBus$Station;", true)
  | 1 => ("TokenBus$Line", "messages", "LTokenBus$Messages;", true)
  | 2 => ("TokenBus$Line", "noises", "LTokenBus$Noises;", true)
  | 3 => ("TokenBus$Line", "counts", "LTokenBus$Counts;", true)
  | 4 => ("TokenBus$Line", "log", "LTokenBus$Table;", true)
  | 5 => ("TokenBus$Line", "stationCount", "I", false)
  | 6 => ("TokenBus$Line", "target", "I", false)
  | 7 => ("TokenBus$Line", "slot", "I", false)
  | 8 => ("TokenBus$Line", "gapCount", "I", false)
  | 9 => ("TokenBus$Line", "time", "I", false)
  | _ => ("TokenBus$Line", "holder", "I", false)
def tyX2 : Nat → FieldType := fun k => match k with
  | 0 => .array (.object "TokenBus$Station")
  | 1 => .object "TokenBus$Messages"
  | 2 => .object "TokenBus$Noises"
  | 3 => .object "TokenBus$Counts"
  | 4 => .object "TokenBus$Table"
  | 5 => .int
  | 6 => .int
  | 7 => .int
  | 8 => .int
  | 9 => .int
  | _ => .int
theorem nmX2 : ∀ a, a < 11 → ∀ b, b < 11 → a ≠ b → (TX2 a).2.1 ≠ (TX2 b).2.1 := by decide +kernel
theorem tyX2_ok : ∀ k, k < 11 → parseFieldDescriptor (TX2 k).2.2.1 = some (tyX2 k) := by decide +kernel
abbrev cX2_init : ByteArray := prog_4_method_1_code
def yX2_init : MethodName := ⟨RX2, "<init>", "()V"⟩
abbrev cX2_clear : ByteArray := prog_4_method_2_code
def yX2_clear : MethodName := ⟨RX2, "clear", "()V"⟩
abbrev cX2_takeTimes : ByteArray := prog_4_method_3_code
def yX2_takeTimes : MethodName := ⟨RX2, "takeTimes", "(LTokenBus$Line;)V"⟩
abbrev cX2_copyFrom : ByteArray := prog_4_method_4_code
def yX2_copyFrom : MethodName := ⟨RX2, "copyFrom", "(LTokenBus$Line;)V"⟩
abbrev cX2_copyStations : ByteArray := prog_4_method_5_code
def yX2_copyStations : MethodName := ⟨RX2, "copyStations", "(LTokenBus$Line;)V"⟩
abbrev cX2_isFull : ByteArray := prog_4_method_6_code
def yX2_isFull : MethodName := ⟨RX2, "isFull", "()Z"⟩
abbrev cX2_isTooLate : ByteArray := prog_4_method_7_code
def yX2_isTooLate : MethodName := ⟨RX2, "isTooLate", "()Z"⟩
abbrev cX2_stationIn : ByteArray := prog_4_method_8_code
def yX2_stationIn : MethodName := ⟨RX2, "stationIn", "(I)LTokenBus$Station;"⟩
abbrev cX2_stationWith : ByteArray := prog_4_method_9_code
def yX2_stationWith : MethodName := ⟨RX2, "stationWith", "(I)LTokenBus$Station;"⟩
abbrev cX2_placeStation : ByteArray := prog_4_method_10_code
def yX2_placeStation : MethodName := ⟨RX2, "placeStation", "(I)LTokenBus$Station;"⟩
abbrev cX2_switchStation : ByteArray := prog_4_method_11_code
def yX2_switchStation : MethodName := ⟨RX2, "switchStation", "(LTokenBus$Station;Z)V"⟩
abbrev cX2_ringSize : ByteArray := prog_4_method_12_code
def yX2_ringSize : MethodName := ⟨RX2, "ringSize", "()I"⟩
abbrev cX2_isComplete : ByteArray := prog_4_method_13_code
def yX2_isComplete : MethodName := ⟨RX2, "isComplete", "()Z"⟩
abbrev cX2_isWaitedAt : ByteArray := prog_4_method_14_code
def yX2_isWaitedAt : MethodName := ⟨RX2, "isWaitedAt", "()Z"⟩
abbrev cX2_transmit : ByteArray := prog_4_method_15_code
def yX2_transmit : MethodName := ⟨RX2, "transmit", "(I)Z"⟩
abbrev cX2_logVisit : ByteArray := prog_4_method_16_code
def yX2_logVisit : MethodName := ⟨RX2, "logVisit", "(IIII)V"⟩
abbrev cX2_logLength : ByteArray := prog_4_method_17_code
def yX2_logLength : MethodName := ⟨RX2, "logLength", "()I"⟩
abbrev cX2_logValue : ByteArray := prog_4_method_18_code
def yX2_logValue : MethodName := ⟨RX2, "logValue", "(II)I"⟩
abbrev cX2_settingValue : ByteArray := prog_4_method_19_code
def yX2_settingValue : MethodName := ⟨RX2, "settingValue", "(I)I"⟩
abbrev cX2_hashed : ByteArray := prog_4_method_20_code
def yX2_hashed : MethodName := ⟨RX2, "hashed", "(J)J"⟩
abbrev cX2_withStation : ByteArray := prog_4_method_21_code
def yX2_withStation : MethodName := ⟨RX2, "withStation", "(JLTokenBus$Station;)J"⟩
abbrev cX2_withLog : ByteArray := prog_4_method_22_code
def yX2_withLog : MethodName := ⟨RX2, "withLog", "(J)J"⟩
def RX3 : String := "TokenBus$Messages"
def TX3 : u_T := fun k => match k with
  | 0 => ("TokenBus$Messages", "table", "LTokenBus$Table;", true)
  | _ => ("TokenBus$Messages", "number", "I", false)
def tyX3 : Nat → FieldType := fun k => match k with
  | 0 => .object "TokenBus$Table"
  | _ => .int
theorem nmX3 : ∀ a, a < 2 → ∀ b, b < 2 → a ≠ b → (TX3 a).2.1 ≠ (TX3 b).2.1 := by decide +kernel
theorem tyX3_ok : ∀ k, k < 2 → parseFieldDescriptor (TX3 k).2.2.1 = some (tyX3 k) := by decide +kernel
abbrev cX3_init : ByteArray := prog_5_method_1_code
def yX3_init : MethodName := ⟨RX3, "<init>", "()V"⟩
abbrev cX3_number : ByteArray := prog_5_method_2_code
def yX3_number : MethodName := ⟨RX3, "number", "()I"⟩
abbrev cX3_isFull : ByteArray := prog_5_method_3_code
def yX3_isFull : MethodName := ⟨RX3, "isFull", "()Z"⟩
abbrev cX3_has : ByteArray := prog_5_method_4_code
def yX3_has : MethodName := ⟨RX3, "has", "(I)Z"⟩
abbrev cX3_value : ByteArray := prog_5_method_5_code
def yX3_value : MethodName := ⟨RX3, "value", "(II)I"⟩
abbrev cX3_follower : ByteArray := prog_5_method_6_code
def yX3_follower : MethodName := ⟨RX3, "follower", "(I)I"⟩
abbrev cX3_isUrgent : ByteArray := prog_5_method_7_code
def yX3_isUrgent : MethodName := ⟨RX3, "isUrgent", "(I)Z"⟩
abbrev cX3_clear : ByteArray := prog_5_method_8_code
def yX3_clear : MethodName := ⟨RX3, "clear", "()V"⟩
abbrev cX3_copyFrom : ByteArray := prog_5_method_9_code
def yX3_copyFrom : MethodName := ⟨RX3, "copyFrom", "(LTokenBus$Messages;)V"⟩
abbrev cX3_add : ByteArray := prog_5_method_10_code
def yX3_add : MethodName := ⟨RX3, "add", "(LTokenBus$Station;III)I"⟩
abbrev cX3_enqueue : ByteArray := prog_5_method_11_code
def yX3_enqueue : MethodName := ⟨RX3, "enqueue", "(LTokenBus$Station;II)V"⟩
abbrev cX3_inQueue : ByteArray := prog_5_method_12_code
def yX3_inQueue : MethodName := ⟨RX3, "inQueue", "(LTokenBus$Station;I)I"⟩
abbrev cX3_takeFirst : ByteArray := prog_5_method_13_code
def yX3_takeFirst : MethodName := ⟨RX3, "takeFirst", "(LTokenBus$Station;I)I"⟩
def RX4 : String := "TokenBus$Noises"
def TX4 : u_T := fun k => match k with
  | 0 => ("TokenBus$Noises", "firsts", "[I", true)
  | 1 => ("TokenBus$Noises", "lasts", "[I", true)
  | _ => ("TokenBus$Noises", "number", "I", false)
def tyX4 : Nat → FieldType := fun k => match k with
  | 0 => .array .int
  | 1 => .array .int
  | _ => .int
theorem nmX4 : ∀ a, a < 3 → ∀ b, b < 3 → a ≠ b → (TX4 a).2.1 ≠ (TX4 b).2.1 := by decide +kernel
theorem tyX4_ok : ∀ k, k < 3 → parseFieldDescriptor (TX4 k).2.2.1 = some (tyX4 k) := by decide +kernel
abbrev cX4_init : ByteArray := prog_6_method_1_code
def yX4_init : MethodName := ⟨RX4, "<init>", "()V"⟩
abbrev cX4_isFull : ByteArray := prog_6_method_2_code
def yX4_isFull : MethodName := ⟨RX4, "isFull", "()Z"⟩
abbrev cX4_clear : ByteArray := prog_6_method_3_code
def yX4_clear : MethodName := ⟨RX4, "clear", "()V"⟩
abbrev cX4_copyFrom : ByteArray := prog_6_method_4_code
def yX4_copyFrom : MethodName := ⟨RX4, "copyFrom", "(LTokenBus$Noises;)V"⟩
abbrev cX4_add : ByteArray := prog_6_method_5_code
def yX4_add : MethodName := ⟨RX4, "add", "(II)V"⟩
abbrev cX4_touch : ByteArray := prog_6_method_6_code
def yX4_touch : MethodName := ⟨RX4, "touch", "(II)Z"⟩
def RX5 : String := "TokenBus$Reader"
def TX5 : u_T := fun k => match k with
  | 0 => ("TokenBus$Reader", "bytes", "[B", true)
  | 1 => ("TokenBus$Reader", "length", "I", true)
  | 2 => ("TokenBus$Reader", "line", "LTokenBus$Line;", true)
  | 3 => ("TokenBus$Reader", "place", "I", false)
  | 4 => ("TokenBus$Reader", "told", "LTokenBus$Station;", false)
  | _ => ("TokenBus$Reader", "errorPosition", "I", false)
def tyX5 : Nat → FieldType := fun k => match k with
  | 0 => .array .byte
  | 1 => .int
  | 2 => .object "TokenBus$Line"
  | 3 => .int
  | 4 => .object "TokenBus$Station"
  | _ => .int
theorem nmX5 : ∀ a, a < 6 → ∀ b, b < 6 → a ≠ b → (TX5 a).2.1 ≠ (TX5 b).2.1 := by decide +kernel
theorem tyX5_ok : ∀ k, k < 6 → parseFieldDescriptor (TX5 k).2.2.1 = some (tyX5 k) := by decide +kernel
abbrev cX5_init : ByteArray := prog_7_method_1_code
def yX5_init : MethodName := ⟨RX5, "<init>", "([BILTokenBus$Line;)V"⟩
abbrev cX5_readItems : ByteArray := prog_7_method_2_code
def yX5_readItems : MethodName := ⟨RX5, "readItems", "()I"⟩
abbrev cX5_readItem : ByteArray := prog_7_method_3_code
def yX5_readItem : MethodName := ⟨RX5, "readItem", "()Z"⟩
abbrev cX5_readStation : ByteArray := prog_7_method_4_code
def yX5_readStation : MethodName := ⟨RX5, "readStation", "()Z"⟩
abbrev cX5_readMessage : ByteArray := prog_7_method_5_code
def yX5_readMessage : MethodName := ⟨RX5, "readMessage", "()Z"⟩
abbrev cX5_readNumber : ByteArray := prog_7_method_6_code
def yX5_readNumber : MethodName := ⟨RX5, "readNumber", "()I"⟩
abbrev cX5_skips : ByteArray := prog_7_method_7_code
def yX5_skips : MethodName := ⟨RX5, "skips", "(I)Z"⟩
abbrev cX5_sign : ByteArray := prog_7_method_8_code
def yX5_sign : MethodName := ⟨RX5, "sign", "()I"⟩
abbrev cX5_digit : ByteArray := prog_7_method_9_code
def yX5_digit : MethodName := ⟨RX5, "digit", "()I"⟩
abbrev cX5_failsAt : ByteArray := prog_7_method_10_code
def yX5_failsAt : MethodName := ⟨RX5, "failsAt", "(I)Z"⟩
def RX6 : String := "TokenBus$Station"
def TX6 : u_T := fun k => match k with
  | 0 => ("TokenBus$Station", "address", "I", false)
  | 1 => ("TokenBus$Station", "on", "Z", false)
  | 2 => ("TokenBus$Station", "inRing", "Z", false)
  | 3 => ("TokenBus$Station", "next", "I", false)
  | 4 => ("TokenBus$Station", "gap", "I", false)
  | 5 => ("TokenBus$Station", "first", "I", false)
  | 6 => ("TokenBus$Station", "waiting", "I", false)
  | 7 => ("TokenBus$Station", "visits", "I", false)
  | _ => ("TokenBus$Station", "latest", "I", false)
def tyX6 : Nat → FieldType := fun k => match k with
  | 0 => .int
  | 1 => .boolean
  | 2 => .boolean
  | 3 => .int
  | 4 => .int
  | 5 => .int
  | 6 => .int
  | 7 => .int
  | _ => .int
theorem nmX6 : ∀ a, a < 9 → ∀ b, b < 9 → a ≠ b → (TX6 a).2.1 ≠ (TX6 b).2.1 := by decide +kernel
theorem tyX6_ok : ∀ k, k < 9 → parseFieldDescriptor (TX6 k).2.2.1 = some (tyX6 k) := by decide +kernel
abbrev cX6_init : ByteArray := prog_8_method_1_code
def yX6_init : MethodName := ⟨RX6, "<init>", "()V"⟩
abbrev cX6_reset : ByteArray := prog_8_method_2_code
def yX6_reset : MethodName := ⟨RX6, "reset", "(I)V"⟩
abbrev cX6_copyFrom : ByteArray := prog_8_method_3_code
def yX6_copyFrom : MethodName := ⟨RX6, "copyFrom", "(LTokenBus$Station;)V"⟩
abbrev cX6_value : ByteArray := prog_8_method_4_code
def yX6_value : MethodName := ⟨RX6, "value", "(I)I"⟩
def RX7 : String := "TokenBus$Table"
def TX7 : u_T := fun k => match k with
  | 0 => ("TokenBus$Table", "width", "I", true)
  | _ => ("TokenBus$Table", "cells", "[I", true)
def tyX7 : Nat → FieldType := fun k => match k with
  | 0 => .int
  | _ => .array .int
theorem nmX7 : ∀ a, a < 2 → ∀ b, b < 2 → a ≠ b → (TX7 a).2.1 ≠ (TX7 b).2.1 := by decide +kernel
theorem tyX7_ok : ∀ k, k < 2 → parseFieldDescriptor (TX7 k).2.2.1 = some (tyX7 k) := by decide +kernel
abbrev cX7_init : ByteArray := prog_9_method_1_code
def yX7_init : MethodName := ⟨RX7, "<init>", "(II)V"⟩
abbrev cX7_at : ByteArray := prog_9_method_2_code
def yX7_at : MethodName := ⟨RX7, "at", "(II)I"⟩
abbrev cX7_put : ByteArray := prog_9_method_3_code
def yX7_put : MethodName := ⟨RX7, "put", "(III)V"⟩
abbrev cX7_copyFrom : ByteArray := prog_9_method_4_code
def yX7_copyFrom : MethodName := ⟨RX7, "copyFrom", "(LTokenBus$Table;I)V"⟩
def RX8 : String := "TokenBus$Token"
def TX8 : u_T := fun k => match k with
  | _ => ("", "", "", false)
def tyX8 : Nat → FieldType := fun k => match k with
  | _ => .int
theorem nmX8 : ∀ a, a < 0 → ∀ b, b < 0 → a ≠ b → (TX8 a).2.1 ≠ (TX8 b).2.1 := by decide +kernel
theorem tyX8_ok : ∀ k, k < 0 → parseFieldDescriptor (TX8 k).2.2.1 = some (tyX8 k) := by decide +kernel
abbrev cX8_makeVisit : ByteArray := prog_10_method_2_code
def yX8_makeVisit : MethodName := ⟨RX8, "makeVisit", "(LTokenBus$Line;)V"⟩
abbrev cX8_makeAnew : ByteArray := prog_10_method_3_code
def yX8_makeAnew : MethodName := ⟨RX8, "makeAnew", "(LTokenBus$Line;)LTokenBus$Station;"⟩
abbrev cX8_lowest : ByteArray := prog_10_method_4_code
def yX8_lowest : MethodName := ⟨RX8, "lowest", "(LTokenBus$Line;Z)LTokenBus$Station;"⟩
abbrev cX8_beginVisit : ByteArray := prog_10_method_5_code
def yX8_beginVisit : MethodName := ⟨RX8, "beginVisit", "(LTokenBus$Line;LTokenBus$Station;)I"⟩
abbrev cX8_sendMessages : ByteArray := prog_10_method_6_code
def yX8_sendMessages : MethodName := ⟨RX8, "sendMessages", "(LTokenBus$Line;LTokenBus$Station;I)I"⟩
abbrev cX8_sendFirst : ByteArray := prog_10_method_7_code
def yX8_sendFirst : MethodName := ⟨RX8, "sendFirst", "(LTokenBus$Line;LTokenBus$Station;)Z"⟩
abbrev cX8_pollGap : ByteArray := prog_10_method_8_code
def yX8_pollGap : MethodName := ⟨RX8, "pollGap", "(LTokenBus$Line;LTokenBus$Station;)V"⟩
abbrev cX8_comesIn : ByteArray := prog_10_method_9_code
def yX8_comesIn : MethodName := ⟨RX8, "comesIn", "(LTokenBus$Line;LTokenBus$Station;)Z"⟩
abbrev cX8_passToNext : ByteArray := prog_10_method_10_code
def yX8_passToNext : MethodName := ⟨RX8, "passToNext", "(LTokenBus$Line;LTokenBus$Station;)Z"⟩
abbrev cX8_reaches : ByteArray := prog_10_method_11_code
def yX8_reaches : MethodName := ⟨RX8, "reaches", "(LTokenBus$Line;I)Z"⟩
abbrev cX8_dropSilent : ByteArray := prog_10_method_12_code
def yX8_dropSilent : MethodName := ⟨RX8, "dropSilent", "(LTokenBus$Line;LTokenBus$Station;)V"⟩
abbrev cX8_askOthers : ByteArray := prog_10_method_13_code
def yX8_askOthers : MethodName := ⟨RX8, "askOthers", "(LTokenBus$Line;LTokenBus$Station;)V"⟩
def RX9 : String := "TokenBus"
def TX9 : u_T := fun k => match k with
  | 0 => ("TokenBus", "line", "LTokenBus$Line;", true)
  | 1 => ("TokenBus", "trial", "LTokenBus$Line;", true)
  | 2 => ("TokenBus", "history", "LTokenBus$History;", true)
  | 3 => ("TokenBus", "text", "[B", true)
  | _ => ("TokenBus", "textLength", "I", false)
def tyX9 : Nat → FieldType := fun k => match k with
  | 0 => .object "TokenBus$Line"
  | 1 => .object "TokenBus$Line"
  | 2 => .object "TokenBus$History"
  | 3 => .array .byte
  | _ => .int
theorem nmX9 : ∀ a, a < 5 → ∀ b, b < 5 → a ≠ b → (TX9 a).2.1 ≠ (TX9 b).2.1 := by decide +kernel
theorem tyX9_ok : ∀ k, k < 5 → parseFieldDescriptor (TX9 k).2.2.1 = some (tyX9 k) := by decide +kernel
abbrev cX9_init : ByteArray := prog_1_method_1_code
def yX9_init : MethodName := ⟨RX9, "<init>", "()V"⟩
abbrev cX9_addStation : ByteArray := prog_1_method_2_code
def yX9_addStation : MethodName := ⟨RX9, "addStation", "(I)I"⟩
abbrev cX9_setOn : ByteArray := prog_1_method_3_code
def yX9_setOn : MethodName := ⟨RX9, "setOn", "(IZ)Z"⟩
abbrev cX9_setTimes : ByteArray := prog_1_method_4_code
def yX9_setTimes : MethodName := ⟨RX9, "setTimes", "(III)I"⟩
abbrev cX9_give : ByteArray := prog_1_method_5_code
def yX9_give : MethodName := ⟨RX9, "give", "(III)I"⟩
abbrev cX9_addNoise : ByteArray := prog_1_method_6_code
def yX9_addNoise : MethodName := ⟨RX9, "addNoise", "(II)I"⟩
abbrev cX9_run : ByteArray := prog_1_method_7_code
def yX9_run : MethodName := ⟨RX9, "run", "(I)I"⟩
abbrev cX9_loseToken : ByteArray := prog_1_method_8_code
def yX9_loseToken : MethodName := ⟨RX9, "loseToken", "()I"⟩
abbrev cX9_setting : ByteArray := prog_1_method_9_code
def yX9_setting : MethodName := ⟨RX9, "setting", "(I)I"⟩
abbrev cX9_station : ByteArray := prog_1_method_10_code
def yX9_station : MethodName := ⟨RX9, "station", "(II)I"⟩
abbrev cX9_addressAt : ByteArray := prog_1_method_11_code
def yX9_addressAt : MethodName := ⟨RX9, "addressAt", "(I)I"⟩
abbrev cX9_queued : ByteArray := prog_1_method_12_code
def yX9_queued : MethodName := ⟨RX9, "queued", "(II)I"⟩
abbrev cX9_message : ByteArray := prog_1_method_13_code
def yX9_message : MethodName := ⟨RX9, "message", "(II)I"⟩
abbrev cX9_count : ByteArray := prog_1_method_14_code
def yX9_count : MethodName := ⟨RX9, "count", "(I)I"⟩
abbrev cX9_isNoisy : ByteArray := prog_1_method_15_code
def yX9_isNoisy : MethodName := ⟨RX9, "isNoisy", "(I)Z"⟩
abbrev cX9_logged : ByteArray := prog_1_method_16_code
def yX9_logged : MethodName := ⟨RX9, "logged", "()I"⟩
abbrev cX9_visit : ByteArray := prog_1_method_17_code
def yX9_visit : MethodName := ⟨RX9, "visit", "(II)I"⟩
abbrev cX9_greatestRotation : ByteArray := prog_1_method_18_code
def yX9_greatestRotation : MethodName := ⟨RX9, "greatestRotation", "()I"⟩
abbrev cX9_waits : ByteArray := prog_1_method_19_code
def yX9_waits : MethodName := ⟨RX9, "waits", "(Z)D"⟩
abbrev cX9_use : ByteArray := prog_1_method_20_code
def yX9_use : MethodName := ⟨RX9, "use", "()D"⟩
abbrev cX9_waitOf : ByteArray := prog_1_method_21_code
def yX9_waitOf : MethodName := ⟨RX9, "waitOf", "(I)I"⟩
abbrev cX9_completeAfter : ByteArray := prog_1_method_22_code
def yX9_completeAfter : MethodName := ⟨RX9, "completeAfter", "()I"⟩
abbrev cX9_leastTarget : ByteArray := prog_1_method_23_code
def yX9_leastTarget : MethodName := ⟨RX9, "leastTarget", "(I)I"⟩
abbrev cX9_append : ByteArray := prog_1_method_24_code
def yX9_append : MethodName := ⟨RX9, "append", "(I)I"⟩
abbrev cX9_clearText : ByteArray := prog_1_method_25_code
def yX9_clearText : MethodName := ⟨RX9, "clearText", "()I"⟩
abbrev cX9_parse : ByteArray := prog_1_method_26_code
def yX9_parse : MethodName := ⟨RX9, "parse", "()I"⟩
abbrev cX9_undo : ByteArray := prog_1_method_27_code
def yX9_undo : MethodName := ⟨RX9, "undo", "()I"⟩
abbrev cX9_digest : ByteArray := prog_1_method_28_code
def yX9_digest : MethodName := ⟨RX9, "digest", "()J"⟩
abbrev cX9_isWithin : ByteArray := prog_1_method_29_code
def yX9_isWithin : MethodName := ⟨RX9, "isWithin", "(III)Z"⟩
abbrev cX9_isAddress : ByteArray := prog_1_method_30_code
def yX9_isAddress : MethodName := ⟨RX9, "isAddress", "(I)Z"⟩
abbrev cX9_addressBehind : ByteArray := prog_1_method_31_code
def yX9_addressBehind : MethodName := ⟨RX9, "addressBehind", "(I)I"⟩
abbrev cX9_mixed : ByteArray := prog_1_method_32_code
def yX9_mixed : MethodName := ⟨RX9, "mixed", "(JJ)J"⟩
abbrev cX9_sendsAll : ByteArray := prog_1_method_33_code
def yX9_sendsAll : MethodName := ⟨RX9, "sendsAll", "(II)Z"⟩
def RX10 : String := "TokenBusModel"
def TX10 : u_T := fun k => match k with
  | 0 => ("TokenBusModel", "all", "[I", true)
  | 1 => ("TokenBusModel", "saved", "[I", true)
  | 2 => ("TokenBusModel", "aside", "[I", true)
  | 3 => ("TokenBusModel", "savedMany", "I", false)
  | 4 => ("TokenBusModel", "thrown", "I", false)
  | 5 => ("TokenBusModel", "text", "[I", true)
  | 6 => ("TokenBusModel", "textLong", "I", false)
  | 7 => ("TokenBusModel", "place", "I", false)
  | 8 => ("TokenBusModel", "number", "I", false)
  | _ => ("TokenBusModel", "lastTold", "I", false)
def tyX10 : Nat → FieldType := fun k => match k with
  | 0 => .array .int
  | 1 => .array .int
  | 2 => .array .int
  | 3 => .int
  | 4 => .int
  | 5 => .array .int
  | 6 => .int
  | 7 => .int
  | 8 => .int
  | _ => .int
theorem nmX10 : ∀ a, a < 10 → ∀ b, b < 10 → a ≠ b → (TX10 a).2.1 ≠ (TX10 b).2.1 := by decide +kernel
theorem tyX10_ok : ∀ k, k < 10 → parseFieldDescriptor (TX10 k).2.2.1 = some (tyX10 k) := by decide +kernel
abbrev cX10_init : ByteArray := prog_12_method_1_code
def yX10_init : MethodName := ⟨RX10, "<init>", "()V"⟩
abbrev cX10_thrown : ByteArray := prog_12_method_2_code
def yX10_thrown : MethodName := ⟨RX10, "thrown", "()I"⟩
abbrev cX10_in : ByteArray := prog_12_method_3_code
def yX10_in : MethodName := ⟨RX10, "in", "(JJJ)Z"⟩
abbrev cX10_goes : ByteArray := prog_12_method_4_code
def yX10_goes : MethodName := ⟨RX10, "goes", "(ZZZ)Z"⟩
abbrev cX10_save : ByteArray := prog_12_method_5_code
def yX10_save : MethodName := ⟨RX10, "save", "()V"⟩
abbrev cX10_lays : ByteArray := prog_12_method_6_code
def yX10_lays : MethodName := ⟨RX10, "lays", "()V"⟩
abbrev cX10_takesBack : ByteArray := prog_12_method_7_code
def yX10_takesBack : MethodName := ⟨RX10, "takesBack", "()V"⟩
abbrev cX10_at : ByteArray := prog_12_method_8_code
def yX10_at : MethodName := ⟨RX10, "at", "(II)I"⟩
abbrev cX10_of : ByteArray := prog_12_method_9_code
def yX10_of : MethodName := ⟨RX10, "of", "(II)I"⟩
abbrev cX10_isStation : ByteArray := prog_12_method_10_code
def yX10_isStation : MethodName := ⟨RX10, "isStation", "(I)Z"⟩
abbrev cX10_isInRing : ByteArray := prog_12_method_11_code
def yX10_isInRing : MethodName := ⟨RX10, "isInRing", "(I)Z"⟩
abbrev cX10_inMessage : ByteArray := prog_12_method_12_code
def yX10_inMessage : MethodName := ⟨RX10, "inMessage", "(II)I"⟩
abbrev cX10_ofMessage : ByteArray := prog_12_method_13_code
def yX10_ofMessage : MethodName := ⟨RX10, "ofMessage", "(II)I"⟩
abbrev cX10_stations : ByteArray := prog_12_method_14_code
def yX10_stations : MethodName := ⟨RX10, "stations", "()I"⟩
abbrev cX10_adds : ByteArray := prog_12_method_15_code
def yX10_adds : MethodName := ⟨RX10, "adds", "(I)V"⟩
abbrev cX10_addStation : ByteArray := prog_12_method_16_code
def yX10_addStation : MethodName := ⟨RX10, "addStation", "(I)I"⟩
abbrev cX10_setOn : ByteArray := prog_12_method_17_code
def yX10_setOn : MethodName := ⟨RX10, "setOn", "(IZ)Z"⟩
abbrev cX10_setTimes : ByteArray := prog_12_method_18_code
def yX10_setTimes : MethodName := ⟨RX10, "setTimes", "(III)I"⟩
abbrev cX10_gives : ByteArray := prog_12_method_19_code
def yX10_gives : MethodName := ⟨RX10, "gives", "(III)I"⟩
abbrev cX10_give : ByteArray := prog_12_method_20_code
def yX10_give : MethodName := ⟨RX10, "give", "(III)I"⟩
abbrev cX10_addNoise : ByteArray := prog_12_method_21_code
def yX10_addNoise : MethodName := ⟨RX10, "addNoise", "(II)I"⟩
abbrev cX10_isLoud : ByteArray := prog_12_method_22_code
def yX10_isLoud : MethodName := ⟨RX10, "isLoud", "(II)Z"⟩
abbrev cX10_takes : ByteArray := prog_12_method_23_code
def yX10_takes : MethodName := ⟨RX10, "takes", "(I)Z"⟩
abbrev cX10_nextOf : ByteArray := prog_12_method_24_code
def yX10_nextOf : MethodName := ⟨RX10, "nextOf", "(II)I"⟩
abbrev cX10_makesToken : ByteArray := prog_12_method_25_code
def yX10_makesToken : MethodName := ⟨RX10, "makesToken", "()Z"⟩
abbrev cX10_sends : ByteArray := prog_12_method_26_code
def yX10_sends : MethodName := ⟨RX10, "sends", "(I)Z"⟩
abbrev cX10_sendsAll : ByteArray := prog_12_method_27_code
def yX10_sendsAll : MethodName := ⟨RX10, "sendsAll", "(III)V"⟩
abbrev cX10_behind : ByteArray := prog_12_method_28_code
def yX10_behind : MethodName := ⟨RX10, "behind", "(II)I"⟩
abbrev cX10_polls : ByteArray := prog_12_method_29_code
def yX10_polls : MethodName := ⟨RX10, "polls", "(I)V"⟩
abbrev cX10_passes : ByteArray := prog_12_method_30_code
def yX10_passes : MethodName := ⟨RX10, "passes", "(I)V"⟩
abbrev cX10_visits : ByteArray := prog_12_method_31_code
def yX10_visits : MethodName := ⟨RX10, "visits", "()V"⟩
abbrev cX10_logs : ByteArray := prog_12_method_32_code
def yX10_logs : MethodName := ⟨RX10, "logs", "(IIII)V"⟩
abbrev cX10_run : ByteArray := prog_12_method_33_code
def yX10_run : MethodName := ⟨RX10, "run", "(I)I"⟩
abbrev cX10_loseToken : ByteArray := prog_12_method_34_code
def yX10_loseToken : MethodName := ⟨RX10, "loseToken", "()I"⟩
abbrev cX10_inRing : ByteArray := prog_12_method_35_code
def yX10_inRing : MethodName := ⟨RX10, "inRing", "()I"⟩
abbrev cX10_settingOf : ByteArray := prog_12_method_36_code
def yX10_settingOf : MethodName := ⟨RX10, "settingOf", "(I)I"⟩
abbrev cX10_setting : ByteArray := prog_12_method_37_code
def yX10_setting : MethodName := ⟨RX10, "setting", "(I)I"⟩
abbrev cX10_queueOf : ByteArray := prog_12_method_38_code
def yX10_queueOf : MethodName := ⟨RX10, "queueOf", "(I)I"⟩
abbrev cX10_stationOf : ByteArray := prog_12_method_39_code
def yX10_stationOf : MethodName := ⟨RX10, "stationOf", "(II)I"⟩
abbrev cX10_station : ByteArray := prog_12_method_40_code
def yX10_station : MethodName := ⟨RX10, "station", "(II)I"⟩
abbrev cX10_addressAt : ByteArray := prog_12_method_41_code
def yX10_addressAt : MethodName := ⟨RX10, "addressAt", "(I)I"⟩
abbrev cX10_queued : ByteArray := prog_12_method_42_code
def yX10_queued : MethodName := ⟨RX10, "queued", "(II)I"⟩
abbrev cX10_message : ByteArray := prog_12_method_43_code
def yX10_message : MethodName := ⟨RX10, "message", "(II)I"⟩
abbrev cX10_count : ByteArray := prog_12_method_44_code
def yX10_count : MethodName := ⟨RX10, "count", "(I)I"⟩
abbrev cX10_isNoisy : ByteArray := prog_12_method_45_code
def yX10_isNoisy : MethodName := ⟨RX10, "isNoisy", "(I)Z"⟩
abbrev cX10_logged : ByteArray := prog_12_method_46_code
def yX10_logged : MethodName := ⟨RX10, "logged", "()I"⟩
abbrev cX10_visit : ByteArray := prog_12_method_47_code
def yX10_visit : MethodName := ⟨RX10, "visit", "(II)I"⟩
abbrev cX10_greatestRotation : ByteArray := prog_12_method_48_code
def yX10_greatestRotation : MethodName := ⟨RX10, "greatestRotation", "()I"⟩
abbrev cX10_waits : ByteArray := prog_12_method_49_code
def yX10_waits : MethodName := ⟨RX10, "waits", "(Z)D"⟩
abbrev cX10_use : ByteArray := prog_12_method_50_code
def yX10_use : MethodName := ⟨RX10, "use", "()D"⟩
abbrev cX10_waitOf : ByteArray := prog_12_method_51_code
def yX10_waitOf : MethodName := ⟨RX10, "waitOf", "(I)I"⟩
abbrev cX10_isComplete : ByteArray := prog_12_method_52_code
def yX10_isComplete : MethodName := ⟨RX10, "isComplete", "()Z"⟩
abbrev cX10_completeAfter : ByteArray := prog_12_method_53_code
def yX10_completeAfter : MethodName := ⟨RX10, "completeAfter", "()I"⟩
abbrev cX10_waiting : ByteArray := prog_12_method_54_code
def yX10_waiting : MethodName := ⟨RX10, "waiting", "()I"⟩
abbrev cX10_leastTarget : ByteArray := prog_12_method_55_code
def yX10_leastTarget : MethodName := ⟨RX10, "leastTarget", "(I)I"⟩
abbrev cX10_append : ByteArray := prog_12_method_56_code
def yX10_append : MethodName := ⟨RX10, "append", "(I)I"⟩
abbrev cX10_clearText : ByteArray := prog_12_method_57_code
def yX10_clearText : MethodName := ⟨RX10, "clearText", "()I"⟩
abbrev cX10_isFigure : ByteArray := prog_12_method_58_code
def yX10_isFigure : MethodName := ⟨RX10, "isFigure", "()Z"⟩
abbrev cX10_passesByte : ByteArray := prog_12_method_59_code
def yX10_passesByte : MethodName := ⟨RX10, "passesByte", "(I)Z"⟩
abbrev cX10_readsNumber : ByteArray := prog_12_method_60_code
def yX10_readsNumber : MethodName := ⟨RX10, "readsNumber", "()Z"⟩
abbrev cX10_readsItem : ByteArray := prog_12_method_61_code
def yX10_readsItem : MethodName := ⟨RX10, "readsItem", "()Z"⟩
abbrev cX10_parse : ByteArray := prog_12_method_62_code
def yX10_parse : MethodName := ⟨RX10, "parse", "()I"⟩
abbrev cX10_undo : ByteArray := prog_12_method_63_code
def yX10_undo : MethodName := ⟨RX10, "undo", "()I"⟩
abbrev cX10_sums : ByteArray := prog_12_method_64_code
def yX10_sums : MethodName := ⟨RX10, "sums", "(JJ)J"⟩
abbrev cX10_withStation : ByteArray := prog_12_method_65_code
def yX10_withStation : MethodName := ⟨RX10, "withStation", "(JI)J"⟩
abbrev cX10_digest : ByteArray := prog_12_method_66_code
def yX10_digest : MethodName := ⟨RX10, "digest", "()J"⟩
def RJx145de : String := "java/io/Serializable"
def TJx145de : u_T := fun k => match k with
  | _ => ("", "", "", false)
def tyJx145de : Nat → FieldType := fun k => match k with
  | _ => .int
theorem nmJx145de : ∀ a, a < 0 → ∀ b, b < 0 → a ≠ b → (TJx145de a).2.1 ≠ (TJx145de b).2.1 := by decide +kernel
theorem tyJx145de_ok : ∀ k, k < 0 → parseFieldDescriptor (TJx145de k).2.2.1 = some (tyJx145de k) := by decide +kernel
def RJ9 : String := "java/lang/Math"
def TJ9 : u_T := fun k => match k with
  | _ => ("", "", "", false)
def tyJ9 : Nat → FieldType := fun k => match k with
  | _ => .int
theorem nmJ9 : ∀ a, a < 0 → ∀ b, b < 0 → a ≠ b → (TJ9 a).2.1 ≠ (TJ9 b).2.1 := by decide +kernel
theorem tyJ9_ok : ∀ k, k < 0 → parseFieldDescriptor (TJ9 k).2.2.1 = some (tyJ9 k) := by decide +kernel
abbrev cJ9_max_7cf53 : ByteArray := prog_18_method_65_code
def yJ9_max_7cf53 : MethodName := ⟨RJ9, "max", "(II)I"⟩
abbrev cJ9_min_7cf53 : ByteArray := prog_18_method_69_code
def yJ9_min_7cf53 : MethodName := ⟨RJ9, "min", "(II)I"⟩
def RJ0 : String := "java/lang/String"
def TJ0 : u_T := fun k => match k with
  | _ => ("", "", "", false)
def tyJ0 : Nat → FieldType := fun k => match k with
  | _ => .int
theorem nmJ0 : ∀ a, a < 0 → ∀ b, b < 0 → a ≠ b → (TJ0 a).2.1 ≠ (TJ0 b).2.1 := by decide +kernel
theorem tyJ0_ok : ∀ k, k < 0 → parseFieldDescriptor (TJ0 k).2.2.1 = some (tyJ0 k) := by decide +kernel
def RJ10 : String := "java/lang/System"
def TJ10 : u_T := fun k => match k with
  | _ => ("", "", "", false)
def tyJ10 : Nat → FieldType := fun k => match k with
  | _ => .int
theorem nmJ10 : ∀ a, a < 0 → ∀ b, b < 0 → a ≠ b → (TJ10 a).2.1 ≠ (TJ10 b).2.1 := by decide +kernel
theorem tyJ10_ok : ∀ k, k < 0 → parseFieldDescriptor (TJ10 k).2.2.1 = some (tyJ10 k) := by decide +kernel
def RL : String := "TokenBusLaw"
abbrev cL_addStation : ByteArray := method_3_code
def yL_addStation : MethodName := ⟨RL, "addStation", "(LTokenBus;I[J)I"⟩
abbrev cL_setOn : ByteArray := method_4_code
def yL_setOn : MethodName := ⟨RL, "setOn", "(LTokenBus;IZ[J)I"⟩
abbrev cL_setTimes : ByteArray := method_5_code
def yL_setTimes : MethodName := ⟨RL, "setTimes", "(LTokenBus;III[J)I"⟩
abbrev cL_give : ByteArray := method_6_code
def yL_give : MethodName := ⟨RL, "give", "(LTokenBus;III[J)I"⟩
abbrev cL_addNoise : ByteArray := method_7_code
def yL_addNoise : MethodName := ⟨RL, "addNoise", "(LTokenBus;II[J)I"⟩
abbrev cL_run : ByteArray := method_8_code
def yL_run : MethodName := ⟨RL, "run", "(LTokenBus;I[J)I"⟩
abbrev cL_setting : ByteArray := method_9_code
def yL_setting : MethodName := ⟨RL, "setting", "(LTokenBus;I[J)I"⟩
abbrev cL_station : ByteArray := method_10_code
def yL_station : MethodName := ⟨RL, "station", "(LTokenBus;II[J)I"⟩
abbrev cL_addressAt : ByteArray := method_11_code
def yL_addressAt : MethodName := ⟨RL, "addressAt", "(LTokenBus;I[J)I"⟩
abbrev cL_queued : ByteArray := method_12_code
def yL_queued : MethodName := ⟨RL, "queued", "(LTokenBus;II[J)I"⟩
abbrev cL_message : ByteArray := method_13_code
def yL_message : MethodName := ⟨RL, "message", "(LTokenBus;II[J)I"⟩
abbrev cL_count : ByteArray := method_14_code
def yL_count : MethodName := ⟨RL, "count", "(LTokenBus;I[J)I"⟩
abbrev cL_isNoisy : ByteArray := method_15_code
def yL_isNoisy : MethodName := ⟨RL, "isNoisy", "(LTokenBus;I[J)I"⟩
abbrev cL_visit : ByteArray := method_16_code
def yL_visit : MethodName := ⟨RL, "visit", "(LTokenBus;II[J)I"⟩
abbrev cL_waitOf : ByteArray := method_17_code
def yL_waitOf : MethodName := ⟨RL, "waitOf", "(LTokenBus;I[J)I"⟩
abbrev cL_completeAfter : ByteArray := method_18_code
def yL_completeAfter : MethodName := ⟨RL, "completeAfter", "(LTokenBus;[J)I"⟩
abbrev cL_leastTarget : ByteArray := method_19_code
def yL_leastTarget : MethodName := ⟨RL, "leastTarget", "(LTokenBus;I[J)I"⟩
abbrev cL_append : ByteArray := method_20_code
def yL_append : MethodName := ⟨RL, "append", "(LTokenBus;I[J)I"⟩
abbrev cL_undo : ByteArray := method_21_code
def yL_undo : MethodName := ⟨RL, "undo", "(LTokenBus;[J)I"⟩
abbrev cL_law : ByteArray := code
def yL_law : MethodName := ⟨RL, "law", "([I)Z"⟩

abbrev vwCl : List vw_C := [(RX0, TX0, 10), (RX1, TX1, 2), (RX2, TX2, 11), (RX3, TX3, 2), (RX4, TX4, 3), (RX5, TX5, 6), (RX6, TX6, 9), (RX7, TX7, 2), (RX9, TX9, 5), (RX10, TX10, 10)]
def zNest : List (String × Nat × MethodName × String) := [("TokenBus$Line", 19, ⟨"TokenBus$Messages", "<init>", "()V"⟩, "TokenBus"), ("TokenBus$Line", 26, ⟨"TokenBus$Noises", "<init>", "()V"⟩, "TokenBus"), ("TokenBus$Line", 33, ⟨"TokenBus$Counts", "<init>", "()V"⟩, "TokenBus"), ("TokenBus$Line", 60, ⟨"TokenBus$Station", "<init>", "()V"⟩, "TokenBus"), ("TokenBus$Reader", 59, ⟨"TokenBus", "isAddress", "(I)Z"⟩, "TokenBus"), ("TokenBus$Reader", 72, ⟨"TokenBus", "isWithin", "(III)Z"⟩, "TokenBus"), ("TokenBus$Line", 156, ⟨"TokenBus", "mixed", "(JJ)J"⟩, "TokenBus"), ("TokenBus$Token", 149, ⟨"TokenBus", "addressBehind", "(I)I"⟩, "TokenBus")]
end
section
/-! THE ABSTRACT HEAP: next address, shapes, ints, longs, references -/
abbrev zSh : Type := Nat ⊕ (Nat × Nat)
abbrev zSt : Type := Nat × (Nat → Option zSh) × (Nat → Nat → Int32) × (Nat → Nat → Int64) × (Nat → Nat → Option Nat)
def z_nx (σ : zSt) : Nat := σ.1
def z_sh (σ : zSt) : Nat → Option zSh := σ.2.1
def z_I (σ : zSt) : Nat → Nat → Int32 := σ.2.2.1
def z_J (σ : zSt) : Nat → Nat → Int64 := σ.2.2.2.1
def z_R (σ : zSt) : Nat → Nat → Option Nat := σ.2.2.2.2
def z_u {α : Type} (f : Nat → Nat → α) (q j : Nat) (x : α) : Nat → Nat → α := fun a b => if a = q ∧ b = j then x else f a b
def z_pI (σ : zSt) (q j : Nat) (x : Int32) : zSt := (σ.1, σ.2.1, z_u σ.2.2.1 q j x, σ.2.2.2.1, σ.2.2.2.2)
def z_pJ (σ : zSt) (q j : Nat) (x : Int64) : zSt := (σ.1, σ.2.1, σ.2.2.1, z_u σ.2.2.2.1 q j x, σ.2.2.2.2)
def z_pR (σ : zSt) (q j : Nat) (x : Option Nat) : zSt := (σ.1, σ.2.1, σ.2.2.1, σ.2.2.2.1, z_u σ.2.2.2.2 q j x)
/-- a new cell of ours -/
def z_nw (σ : zSt) (t : zSh) : zSt := (σ.1 + 1, fun a => if a = σ.1 then some t else σ.2.1 a, fun a j => if a = σ.1 then 0 else σ.2.2.1 a j, fun a j => if a = σ.1 then 0 else σ.2.2.2.1 a j, fun a j => if a = σ.1 then none else σ.2.2.2.2 a j)
/-- a new cell that nothing is said of -/
def z_gr (σ : zSt) : zSt := (σ.1 + 1, σ.2)
def z_ln (σ : zSt) (q : Nat) : Nat := match z_sh σ q with
  | some (.inr x) => x.2
  | _ => 0
def z_ob (σ : zSt) (q ci : Nat) : Bool := match z_sh σ q with
  | some (.inl x) => x == ci
  | _ => false
def z_ar (σ : zSt) (q t : Nat) : Bool := match z_sh σ q with
  | some (.inr x) => x.1 == t
  | _ => false
def z_ix (i : Int32) (n : Nat) : Bool := decide (¬ i < 0) && decide (i.toNatClampNeg < n)
def z_bl (x : Int32) : Bool := x == 0 || x == 1
/-! small programs -/
def zl {α β : Type} (x : α) (k : α → Option β) : Option β := k x
def zb {α β : Type} (x : Option α) (k : α → Option β) : Option β := match x with
  | none => none
  | some v => k v
def zb2 {α β : Type} (x : Option (α × zSt)) (k : α → zSt → Option β) : Option β := match x with
  | none => none
  | some v => k v.1 v.2
def zc {β : Type} (x : Option Nat) (A : Option β) (B : Nat → Option β) : Option β := match x with
  | none => A
  | some v => B v
def zex {α β : Type} (x : Option β) : Option (α ⊕ β) := match x with
  | none => none
  | some v => some (.inr v)
def zloop {S R : Type} (body : S → Option (S ⊕ R)) : Nat → S → Option R
  | 0, _ => none
  | n + 1, s => match body s with
    | none => none
    | some (.inl t) => zloop body n t
    | some (.inr r) => some r
def zN : Nat := 5000
section ZP
variable {α β S R : Type}
theorem z_g {b : Bool} {k : Option β} {r : β} (h : (if b = true then k else none) = some r) : b = true ∧ k = some r := by
  cases b with
  | false => simp at h
  | true => exact ⟨rfl, h⟩
theorem z_gp {b : Prop} [inst : Decidable b] {k : Option β} {r : β} (h : (if b then k else none) = some r) : b ∧ k = some r := by
  by_cases hb : b
  · rw [if_pos hb] at h; exact ⟨hb, h⟩
  · rw [if_neg hb] at h; cases h
theorem z_ip {b : Prop} [inst : Decidable b] {A B : Option β} {r : β} (hb : b) (h : (if b then A else B) = some r) : A = some r := by
  rw [if_pos hb] at h; exact h
theorem z_in {b : Prop} [inst : Decidable b] {A B : Option β} {r : β} (hb : ¬ b) (h : (if b then A else B) = some r) : B = some r := by
  rw [if_neg hb] at h; exact h
theorem z_l {x : α} {k : α → Option β} {r : β} (h : zl x k = some r) : ∃ v, x = v ∧ k v = some r := ⟨x, rfl, h⟩
theorem z_b {x : Option α} {k : α → Option β} {r : β} (h : zb x k = some r) : ∃ v, x = some v ∧ k v = some r := by
  cases x with
  | none => cases h
  | some v => exact ⟨v, rfl, h⟩
theorem z_b2 {x : Option (α × zSt)} {k : α → zSt → Option β} {r : β} (h : zb2 x k = some r) : ∃ v σ, x = some (v, σ) ∧ k v σ = some r := by
  cases x with
  | none => cases h
  | some v => exact ⟨v.1, v.2, rfl, h⟩
theorem z_nn {x : Option Nat} {k : Nat → Option β} {r : β} (h : zc x none k = some r) : ∃ v, x = some v ∧ k v = some r := by
  cases x with
  | none => cases h
  | some v => exact ⟨v, rfl, h⟩
theorem z_c0 {A : Option β} {k : Nat → Option β} {r : β} (h : zc none A k = some r) : A = some r := h
theorem z_c1 {A : Option β} {k : Nat → Option β} {v : Nat} {r : β} (h : zc (some v) A k = some r) : k v = some r := h
theorem z_x {x : Option β} {r : α ⊕ β} (h : zex x = some r) : ∃ v, x = some v ∧ r = .inr v := by
  cases x with
  | none => cases h
  | some v => exact ⟨v, rfl, (Option.some.inj h).symm⟩
theorem z_lp {body : S → Option (S ⊕ R)} {n : Nat} {s : S} {r : R} (h : zloop body (n + 1) s = some r) : ∃ o, body s = some o ∧ ((∃ t, o = .inl t ∧ zloop body n t = some r) ∨ o = .inr r) := by
  unfold zloop at h
  cases hb : body s with
  | none => rw [hb] at h; cases h
  | some o =>
    rw [hb] at h
    cases o with
    | inl t => exact ⟨_, rfl, Or.inl ⟨t, rfl, h⟩⟩
    | inr v => exact ⟨_, rfl, Or.inr (congrArg Sum.inr (Option.some.inj h))⟩
end ZP
/-! reads behind writes -/
section ZR
variable (σ : zSt) (q j a b : Nat)
theorem z_I_pI (x : Int32) : z_I (z_pI σ q j x) a b = if a = q ∧ b = j then x else z_I σ a b := rfl
theorem z_J_pI (x : Int32) : z_J (z_pI σ q j x) = z_J σ := rfl
theorem z_R_pI (x : Int32) : z_R (z_pI σ q j x) = z_R σ := rfl
theorem z_sh_pI (x : Int32) : z_sh (z_pI σ q j x) = z_sh σ := rfl
theorem z_nx_pI (x : Int32) : z_nx (z_pI σ q j x) = z_nx σ := rfl
theorem z_J_pJ (x : Int64) : z_J (z_pJ σ q j x) a b = if a = q ∧ b = j then x else z_J σ a b := rfl
theorem z_I_pJ (x : Int64) : z_I (z_pJ σ q j x) = z_I σ := rfl
theorem z_R_pJ (x : Int64) : z_R (z_pJ σ q j x) = z_R σ := rfl
theorem z_sh_pJ (x : Int64) : z_sh (z_pJ σ q j x) = z_sh σ := rfl
theorem z_nx_pJ (x : Int64) : z_nx (z_pJ σ q j x) = z_nx σ := rfl
theorem z_R_pR (x : Option Nat) : z_R (z_pR σ q j x) a b = if a = q ∧ b = j then x else z_R σ a b := rfl
theorem z_I_pR (x : Option Nat) : z_I (z_pR σ q j x) = z_I σ := rfl
theorem z_J_pR (x : Option Nat) : z_J (z_pR σ q j x) = z_J σ := rfl
theorem z_sh_pR (x : Option Nat) : z_sh (z_pR σ q j x) = z_sh σ := rfl
theorem z_nx_pR (x : Option Nat) : z_nx (z_pR σ q j x) = z_nx σ := rfl
theorem z_I_gr : z_I (z_gr σ) = z_I σ := rfl
theorem z_J_gr : z_J (z_gr σ) = z_J σ := rfl
theorem z_R_gr : z_R (z_gr σ) = z_R σ := rfl
theorem z_sh_gr : z_sh (z_gr σ) = z_sh σ := rfl
theorem z_nx_gr : z_nx (z_gr σ) = z_nx σ + 1 := rfl
theorem z_I_nw (t : zSh) : z_I (z_nw σ t) a b = if a = z_nx σ then 0 else z_I σ a b := rfl
theorem z_J_nw (t : zSh) : z_J (z_nw σ t) a b = if a = z_nx σ then 0 else z_J σ a b := rfl
theorem z_R_nw (t : zSh) : z_R (z_nw σ t) a b = if a = z_nx σ then none else z_R σ a b := rfl
theorem z_sh_nw (t : zSh) : z_sh (z_nw σ t) a = if a = z_nx σ then some t else z_sh σ a := rfl
theorem z_nx_nw (t : zSh) : z_nx (z_nw σ t) = z_nx σ + 1 := rfl
end ZR
theorem z_ix_in {i : Int32} {n : Nat} (h : z_ix i n = true) : vp_in i n := by
  simp only [z_ix, Bool.and_eq_true, decide_eq_true_eq] at h
  intro q
  rcases q with q | q
  · exact h.1 q
  · omega
theorem z_ob_sh {σ : zSt} {q ci : Nat} (h : z_ob σ q ci = true) : z_sh σ q = some (.inl ci) := by
  unfold z_ob at h
  split at h
  · rename_i x hx
    rw [hx, eq_of_beq h]
  · cases h
theorem z_ar_sh {σ : zSt} {q t : Nat} (h : z_ar σ q t = true) : z_sh σ q = some (.inr (t, z_ln σ q)) := by
  unfold z_ar at h
  split at h
  · rename_i x hx
    obtain ⟨x1, x2⟩ := x
    have e : x1 = t := eq_of_beq h
    subst e
    unfold z_ln
    rw [hx]
  · cases h
/-! WHAT A HEAP OF THE MACHINE IS, of an abstract one -/
def z_kf : FieldType → Nat
  | .long => 1
  | .object _ => 2
  | .array _ => 2
  | _ => 0
def z_ty : Nat → Nat → FieldType := fun ci => match ci with
  | 0 => tyX0
  | 1 => tyX1
  | 2 => tyX2
  | 3 => tyX3
  | 4 => tyX4
  | 5 => tyX5
  | 6 => tyX6
  | 7 => tyX7
  | 8 => tyX9
  | _ => tyX10
def z_kd (ci k : Nat) : Nat := z_kf (z_ty ci k)
def z_cN : Nat → Nat := fun ci => match ci with
  | 0 => 10
  | 1 => 2
  | 2 => 11
  | 3 => 2
  | 4 => 3
  | 5 => 6
  | 6 => 9
  | 7 => 2
  | 8 => 5
  | _ => 10
def z_val (σ : zSt) (q j kd : Nat) : Value := match kd with
  | 0 => .int (z_I σ q j)
  | 1 => .long (z_J σ q j)
  | _ => va_rf (z_R σ q j)
def z_fs (σ : zSt) (q ci : Nat) : List Value := (List.range (z_cN ci)).map (fun j => z_val σ q j (z_kd ci j))
/-- kinds of arrays: 0 int, 1 byte, 2 long, 3 stations, 4 lines -/
def z_el (σ : zSt) (q t n : Nat) : vp_A := match t with
  | 0 => (n, .inl (z_I σ q))
  | 1 => (n, .inl (z_I σ q))
  | 2 => (n, .inr (.inl (z_J σ q)))
  | _ => (n, .inr (.inr (.inr (.inr (z_R σ q)))))
def z_at : Nat → FieldType := fun t => match t with
  | 0 => .int
  | 1 => .byte
  | 2 => .long
  | 3 => .object RX6
  | _ => .object RX2
def z_cell (cA : Nat → ClassId) (σ : zSt) (q : Nat) : zSh → va_E := fun t => match t with
  | .inl ci => .inr (ci, z_fs σ q ci)
  | .inr x => .inl (cA x.1, z_el σ q x.1 x.2)
def z_Wd (D : va_G) (cA : Nat → ClassId) (bs : Nat) (σ : zSt) (H : Heap) : Prop :=
  H.size = z_nx σ ∧ bs ≤ z_nx σ ∧ ∀ (q : Nat) (t : zSh), z_sh σ q = some t → bs ≤ q ∧ va_at D vwCl (q, z_cell cA σ q t) H
abbrev z_tys (cA : Nat → ClassId) : List (ClassId × FieldType) := [(cA 0, .int), (cA 1, .byte), (cA 2, .long), (cA 3, .object RX6), (cA 4, .object RX2)]
/-- the tables' words that every method may use -/
def zWS : List Cond := lw_tbl.filter goodWord
def z_KT (D : va_G) (cA : Nat → ClassId) (U : State) : Prop := va_K D vwCl (z_tys cA) U ∧ (∀ w ∈ zNest, va_Nw (.methodLinkNest w.1 w.2.1 w.2.2.1 w.2.2.2) U) ∧ va_AO RX6 U ∧ va_AO RX2 U

theorem z_KT.warm {D : va_G} {cA : Nat → ClassId} {s U : State} (hW : s.WarmedH U.vm) (h : z_KT D cA s) : z_KT D cA U :=
  ⟨va_K.moved hW.alike h.1, fun w hw => va_Nw.warmM hW (h.2.1 w hw), va_AO.moved hW.alike h.2.2.1, va_AO.moved hW.alike h.2.2.2⟩
theorem z_KT.same {D : va_G} {cA : Nat → ClassId} {s U : State} (e : s.vm = U.vm) (h : z_KT D cA s) : z_KT D cA U := by
  refine ⟨va_K.moved (by rw [e]; exact Vm.Alike.refl _) h.1, fun w hw => va_Nw.same rfl e (h.2.1 w hw), va_AO.moved (by rw [e]; exact Vm.Alike.refl _) h.2.2.1, va_AO.moved (by rw [e]; exact Vm.Alike.refl _) h.2.2.2⟩
/-- what a method's state is, as a contract says it -/
def z_Pc (D : va_G) (cA : Nat → ClassId) (bs : Nat) (σ : zSt) (U : State) : Prop := z_Wd D cA bs σ U.heap ∧ z_KT D cA U
def zrm (fr mc ms lo : Nat) : Room := { frames := fr, cells := mc, slots := ms, locals := lo }
/-- inside a body -/
def z_B (p : Program) (s : State) (m : MethodId) (args : Array Value) (meth : Method) (c : Code) (D : va_G) (cA : Nat → ClassId) (bs : Nat) (own : String) (cc : ByteArray) (nL : Nat) (ret : Option FieldType) : Prop :=
  p.tables.exec = Jvm.exec ∧ c.code = cc ∧ c.maxLocals = nL ∧ s.vm.findClass own = some m.cls ∧ (∀ w ∈ zWS, w.before args s = true) ∧ meth.sig.returnType = ret ∧ meth.locks = false ∧ z_KT D cA s ∧ bs ≤ s.heap.size
/-- the world, on the way -/
def z_Ok (D : va_G) (cA : Nat → ClassId) (bs : Nat) (s : State) (σ : zSt) (H : Heap) (locs : List Loc) : Prop := z_Wd D cA bs σ H ∧ va_S (fun q => bs ≤ q) s.heap H locs
theorem z_lw {i : Nat} {w : Cond} (h : lw_tbl[i]? = some w) (g : goodWord w = true) : w ∈ zWS := List.mem_filter.mpr ⟨List.mem_of_getElem? h, g⟩
theorem z_good {w : Cond} (h : w ∈ zWS) : goodWord w = true := (List.mem_filter.mp h).2
theorem z_ins {ws : List Cond} (ps : List Nat) (hp : ws = ps.filterMap (fun i => lw_tbl[i]?)) (h : ws.all goodWord = true) : ∀ w ∈ ws, w ∈ zWS := by
  intro w hw
  have g := List.all_eq_true.mp h w hw
  rw [hp] at hw
  obtain ⟨i, -, hi⟩ := List.mem_filterMap.mp hw
  exact z_lw hi g
theorem z_gi {ws : List Cond} (h : ∀ w ∈ ws, w ∈ zWS) : GoodIn zWS ws := fun w hw => ⟨h w hw, good_of_word (z_good (h w hw))⟩
/-- a field's link and its class's words -/
def z_F (own : String) (index ci k : Nat) : Prop := ∃ (C : String) (T : u_T), vwCl[ci]? = some (C, T, z_cN ci) ∧ k < z_cN ci ∧ Cond.fieldLink own index C (T k).2.1 (T k).2.2.1 ∈ zWS ∧ (∀ w ∈ u_ws C T (z_cN ci), w ∈ zWS) ∧ (T k).1 = C ∧ (∀ k, k < z_cN ci → parseFieldDescriptor (T k).2.2.1 = some (z_ty ci k)) ∧ (∀ a, a < z_cN ci → ∀ b, b < z_cN ci → a ≠ b → (T a).2.1 ≠ (T b).2.1) ∧ (T k).2.2.2 = false
def z_FF (own : String) (index ci k : Nat) : Prop := ∃ (C : String) (T : u_T), vwCl[ci]? = some (C, T, z_cN ci) ∧ k < z_cN ci ∧ Cond.fieldLink own index C (T k).2.1 (T k).2.2.1 ∈ zWS ∧ (∀ w ∈ u_ws C T (z_cN ci), w ∈ zWS) ∧ (T k).1 = C ∧ (∀ k, k < z_cN ci → parseFieldDescriptor (T k).2.2.1 = some (z_ty ci k)) ∧ (∀ a, a < z_cN ci → ∀ b, b < z_cN ci → a ≠ b → (T a).2.1 ≠ (T b).2.1) ∧ (T k).2.2.2 = true
theorem z_fs_get {σ : zSt} {q ci k : Nat} (hk : k < z_cN ci) : (z_fs σ q ci)[k]? = some (z_val σ q k (z_kd ci k)) := by
  unfold z_fs
  rw [List.getElem?_map, List.getElem?_range hk]
  rfl
theorem z_fs_len {σ : zSt} {q ci : Nat} : (z_fs σ q ci).length = z_cN ci := by
  unfold z_fs
  rw [List.length_map, List.length_range]
theorem z_fs_set {σ σ' : zSt} {q ci k : Nat} {v : Value} (hk : k < z_cN ci) (e : z_val σ' q k (z_kd ci k) = v) (o : ∀ j, j ≠ k → z_val σ' q j (z_kd ci j) = z_val σ q j (z_kd ci j)) : (z_fs σ q ci).set k v = z_fs σ' q ci := by
  apply List.ext_getElem?
  intro j
  by_cases hj : j < z_cN ci
  · by_cases hjk : k = j
    · subst hjk
      rw [List.getElem?_set_self (by rw [z_fs_len]; exact hj), z_fs_get hj, e]
    · rw [List.getElem?_set_ne hjk, z_fs_get hj, z_fs_get hj, o j (Ne.symm hjk)]
  · rw [List.getElem?_eq_none (by rw [List.length_set, z_fs_len]; omega), List.getElem?_eq_none (by rw [z_fs_len]; omega)]
theorem z_cat (r : Option Nat) : (va_rf r).category = 1 := by cases r <;> rfl
/-- a world behind a write to the cell q -/
theorem z_Wd.put {D : va_G} {cA : Nat → ClassId} {bs : Nat} {σ σ' : zSt} {H H1 : Heap} {q : Nat} {t : zSh} (h : z_Wd D cA bs σ H) (hq : z_sh σ q = some t) (e1 : z_sh σ' = z_sh σ) (e2 : z_nx σ' = z_nx σ) (z : H1.size = H.size) (oq : ∀ a : Nat, a ≠ q → H1[a]? = H[a]?)
    (hc : ∀ a t', a ≠ q → z_cell cA σ' a t' = z_cell cA σ a t') (hn : va_at D vwCl (q, z_cell cA σ' q t) H1) : z_Wd D cA bs σ' H1 := by
  refine ⟨by rw [z, e2]; exact h.1, by rw [e2]; exact h.2.1, fun a t' ha => ?_⟩
  rw [e1] at ha
  by_cases hqa : a = q
  · subst hqa
    obtain rfl : t = t' := Option.some.inj (hq.symm.trans ha)
    exact ⟨(h.2.2 _ _ ha).1, hn⟩
  · rw [hc a t' hqa]
    exact ⟨(h.2.2 _ _ ha).1, (h.2.2 _ _ ha).2.kept (oq a hqa)⟩
theorem z_cell_ext {cA : Nat → ClassId} {σ σ' : zSt} {a : Nat} (h1 : z_I σ' a = z_I σ a) (h2 : z_J σ' a = z_J σ a) (h3 : z_R σ' a = z_R σ a) (t : zSh) : z_cell cA σ' a t = z_cell cA σ a t := by
  cases t with
  | inl ci =>
    simp only [z_cell]
    congr 2
    unfold z_fs
    apply List.map_congr_left
    intro j _
    unfold z_val
    split <;> simp [h1, h2, h3]
  | inr x =>
    simp only [z_cell]
    congr 2
    unfold z_el
    split <;> simp [h1, h2, h3]
theorem z_u_ne {α : Type} {f : Nat → Nat → α} {q j a : Nat} {x : α} (h : a ≠ q) : z_u f q j x a = f a := by
  funext b
  simp [z_u, h]
section ROWS
variable {p : Program} {l : Launch} {e : Env} {R : Room} {s : State} {m : MethodId} {args : Array Value} {below : List Frame} {meth : Method} {c : Code} {H : Heap} {locs : List Loc} {cells slots : Nat} {Q : State → Prop}
variable {D : va_G} {cA : Nat → ClassId} {bs : Nat} {own : String} {cc : ByteArray} {nL : Nat} {ret : Option FieldType} {σ : zSt} {pc : Nat} {ls : Array Slot} {rest : List Value} {q ci k index : Nat}
theorem z_getV (B : z_B p s m args meth c D cA bs own cc nL ret) (hW : z_Ok D cA bs s σ H locs) (F : z_F own index ci k ∨ z_FF own index ci k) (ho : z_ob σ q ci = true) (hdg : decode cc pc = .ok (.getfield index, 3))
    (kk : W p l e R s m args below meth c H locs cells slots Q (F0 m (pc + 3) ls (z_val σ q k (z_kd ci k) :: rest))) : W p l e R s m args below meth c H locs cells slots Q (F0 m pc ls (.ref q :: rest)) := by
  obtain ⟨hx, hb, hml, hown, hts, -, -, hKT, -⟩ := B
  have hP : va_P D vwCl [(q, z_cell cA σ q (.inl ci))] H := fun i x hi => by
    cases i with
    | zero => cases hi; exact (hW.1.2.2 q _ (z_ob_sh ho)).2
    | succ i => cases hi
  have F' : ∃ (C : String) (T : u_T), vwCl[ci]? = some (C, T, z_cN ci) ∧ k < z_cN ci ∧ Cond.fieldLink own index C (T k).2.1 (T k).2.2.1 ∈ zWS ∧ (∀ w ∈ u_ws C T (z_cN ci), w ∈ zWS) ∧ (T k).1 = C := by
    rcases F with F | F
    · obtain ⟨C, T, a1, a2, a3, a4, a5, -⟩ := F
      exact ⟨C, T, a1, a2, a3, a4, a5⟩
    · obtain ⟨C, T, a1, a2, a3, a4, a5, -⟩ := F
      exact ⟨C, T, a1, a2, a3, a4, a5⟩
  obtain ⟨C, T, a1, a2, a3, a4, a5⟩ := F'
  exact va_get (D := D) (cl := vwCl) (ci := ci) (own := own) (ref := C) (T := T) (N := z_cN ci) (Ts := zWS) (fs := z_fs σ q ci) hx hb hts a4 hown hKT.1 hP 0 rfl a1 k a2 (hts _ a3) (fun x hx => by rw [a5] at hx; exact hx) (z_fs_get a2) hdg kk
theorem z_getI (B : z_B p s m args meth c D cA bs own cc nL ret) (hW : z_Ok D cA bs s σ H locs) (F : z_F own index ci k ∨ z_FF own index ci k) (hk : z_kd ci k = 0) (ho : z_ob σ q ci = true) (hdg : decode cc pc = .ok (.getfield index, 3))
    (kk : W p l e R s m args below meth c H locs cells slots Q (F0 m (pc + 3) ls (.int (z_I σ q k) :: rest))) : W p l e R s m args below meth c H locs cells slots Q (F0 m pc ls (.ref q :: rest)) :=
  z_getV B hW F ho hdg (by rw [hk]; exact kk)
theorem z_getJ (B : z_B p s m args meth c D cA bs own cc nL ret) (hW : z_Ok D cA bs s σ H locs) (F : z_F own index ci k ∨ z_FF own index ci k) (hk : z_kd ci k = 1) (ho : z_ob σ q ci = true) (hdg : decode cc pc = .ok (.getfield index, 3))
    (kk : W p l e R s m args below meth c H locs cells slots Q (F0 m (pc + 3) ls (.long (z_J σ q k) :: rest))) : W p l e R s m args below meth c H locs cells slots Q (F0 m pc ls (.ref q :: rest)) :=
  z_getV B hW F ho hdg (by rw [hk]; exact kk)
theorem z_getR (B : z_B p s m args meth c D cA bs own cc nL ret) (hW : z_Ok D cA bs s σ H locs) (F : z_F own index ci k ∨ z_FF own index ci k) (hk : z_kd ci k = 2) (ho : z_ob σ q ci = true) {v : Option Nat} (hv : z_R σ q k = v) (hdg : decode cc pc = .ok (.getfield index, 3))
    (kk : W p l e R s m args below meth c H locs cells slots Q (F0 m (pc + 3) ls (va_rf v :: rest))) : W p l e R s m args below meth c H locs cells slots Q (F0 m pc ls (.ref q :: rest)) :=
  z_getV B hW F ho hdg (by rw [hk]; show W _ _ _ _ _ _ _ _ _ _ _ _ _ _ _ (F0 m (pc + 3) ls (va_rf (z_R σ q k) :: rest)); rw [hv]; exact kk)
theorem z_getN (B : z_B p s m args meth c D cA bs own cc nL ret) (hW : z_Ok D cA bs s σ H locs) (F : z_F own index ci k ∨ z_FF own index ci k) (hk : z_kd ci k = 2) (ho : z_ob σ q ci = true) {v : Nat} (hv : z_R σ q k = some v) (hdg : decode cc pc = .ok (.getfield index, 3))
    (kk : W p l e R s m args below meth c H locs cells slots Q (F0 m (pc + 3) ls (.ref v :: rest))) : W p l e R s m args below meth c H locs cells slots Q (F0 m pc ls (.ref q :: rest)) :=
  z_getR B hW F hk ho hv hdg kk
end ROWS
end
section
section ROWS2
variable {p : Program} {l : Launch} {e : Env} {R : Room} {s : State} {m : MethodId} {args : Array Value} {below : List Frame} {meth : Method} {c : Code} {H : Heap} {locs : List Loc} {cells slots : Nat} {Q : State → Prop}
variable {D : va_G} {cA : Nat → ClassId} {bs : Nat} {own : String} {cc : ByteArray} {nL : Nat} {ret : Option FieldType} {σ σ' : zSt} {pc : Nat} {ls : Array Slot} {rest : List Value} {q ci k index : Nat}
/-- a write to a field: the world behind it, of any σ' that differs there alone -/
theorem z_putC (hW : z_Ok D cA bs s σ H locs) (hin : k < z_cN ci) (ho : z_sh σ q = some (.inl ci)) {v : Value} (e1 : z_sh σ' = z_sh σ) (e2 : z_nx σ' = z_nx σ) (hc : ∀ a t', a ≠ q → z_cell cA σ' a t' = z_cell cA σ a t')
    (hv : z_val σ' q k (z_kd ci k) = v) (ho2 : ∀ j, j ≠ k → z_val σ' q j (z_kd ci j) = z_val σ q j (z_kd ci j)) {C : String} {T : u_T} (hcl : vwCl[ci]? = some (C, T, z_cN ci)) {H1 : Heap} {i : Nat}
    (g : t_OB q (D.1 ci) (z_cN ci) (D.2 ci) H1 (updV (vp_V (z_fs σ q ci)) k v)) (z : H1.size = H.size) (oq : ∀ a : Nat, a ≠ q → H1[a]? = H[a]?) : z_Ok D cA bs s σ' H1 (locs ++ [⟨q, i⟩]) := by
  refine ⟨z_Wd.put hW.1 ho e1 e2 z oq hc ?_, hW.2.put z oq (hW.1.2.2 q _ ho).1⟩
  refine ⟨_, hcl, t_OB.to g fun j hj => ?_⟩
  rw [← z_fs_set hin hv ho2]
  exact vp_updV_set (by rw [z_fs_len]; exact hin) v j
theorem z_putV (B : z_B p s m args meth c D cA bs own cc nL ret) (hW : z_Ok D cA bs s σ H locs) (F : z_F own index ci k) (ho : z_ob σ q ci = true) {v : Value} (e1 : z_sh σ' = z_sh σ) (e2 : z_nx σ' = z_nx σ) (hc : ∀ a t', a ≠ q → z_cell cA σ' a t' = z_cell cA σ a t')
    (hv : z_val σ' q k (z_kd ci k) = v) (ho2 : ∀ j, j ≠ k → z_val σ' q j (z_kd ci j) = z_val σ q j (z_kd ci j)) (hn : narrow (z_ty ci k) v = v) (hfit : fits (z_ty ci k) v = true) (hdg : decode cc pc = .ok (.putfield index, 3))
    (kk : ∀ (H : Heap) (locs : List Loc), z_Ok D cA bs s σ' H locs → W p l e R s m args below meth c H locs cells slots Q (F0 m (pc + 3) ls rest)) : W p l e R s m args below meth c H locs cells slots Q (F0 m pc ls (v :: .ref q :: rest)) := by
  obtain ⟨hx, hb, hml, hown, hts, -, -, hKT, -⟩ := B
  obtain ⟨C, T, hcl, hk, hlk, hin, hdc, hty, hnm, hfin⟩ := F
  have hap := va_apart (own := own) hts hin (z_ty ci) hty hnm hKT.1 hcl
  have hsh := z_ob_sh ho
  obtain ⟨r, h1, cell, q1, q2, q3, q4⟩ := (hW.1.2.2 q _ hsh).2
  have hr : r = (C, T, z_cN ci) := Option.some.inj (h1.symm.trans hcl)
  subst hr
  obtain ⟨hS, hfc, kC, hkC, hkind⟩ := hKT.1.1 ci _ hcl
  obtain ⟨cf, kf, fi, f, hi, hsl⟩ := hS k hk
  have hlay := hts _ (hin _ (u_in_lay hk))
  unfold u_lay at hlay
  rw [if_neg (by rw [hfin]; decide)] at hlay
  have hst := (u_facts hfc hkC (u_lays hts hin hk) hi).1
  have h6 := u_store hfc hkC hkind hlay hi (hty k hk) hn hfit
  refine W.putK hx hb (f := f) ⟨hown, hts _ hlk, ⟨_, _, _, by rw [hdc] at hi; exact hi⟩, hst⟩ (by rw [q2]; exact h6) q1 q3 (by rw [hsl]; exact k2_hasslot (q4 k hk)) rfl rfl hdg fun H' e1' e2' e3' => ?_
  rw [hsl] at e1' ⊢
  exact kk H' _ (z_putC hW hk hsh e1 e2 hc hv ho2 hcl ⟨_, e1', q2, q3, t_set q4 hap hk v⟩ e2' e3')
theorem z_putVF (B : z_B p s m args meth c D cA bs own cc nL ret) (hin2 : meth.name = "<init>") (hW : z_Ok D cA bs s σ H locs) (F : z_FF own index ci k) (hd2 : ∀ C T, vwCl[ci]? = some (C, T, z_cN ci) → C = own) (ho : z_ob σ q ci = true) {v : Value} (e1 : z_sh σ' = z_sh σ) (e2 : z_nx σ' = z_nx σ) (hc : ∀ a t', a ≠ q → z_cell cA σ' a t' = z_cell cA σ a t')
    (hv : z_val σ' q k (z_kd ci k) = v) (ho2 : ∀ j, j ≠ k → z_val σ' q j (z_kd ci j) = z_val σ q j (z_kd ci j)) (hn : narrow (z_ty ci k) v = v) (hfit : fits (z_ty ci k) v = true) (hdg : decode cc pc = .ok (.putfield index, 3))
    (kk : ∀ (H : Heap) (locs : List Loc), z_Ok D cA bs s σ' H locs → W p l e R s m args below meth c H locs cells slots Q (F0 m (pc + 3) ls rest)) : W p l e R s m args below meth c H locs cells slots Q (F0 m pc ls (v :: .ref q :: rest)) := by
  obtain ⟨hx, hb, hml, hown, hts, -, -, hKT, -⟩ := B
  obtain ⟨C, T, hcl, hk, hlk, hin, hdc, hty, hnm, hfin⟩ := F
  have hap := va_apart (own := own) hts hin (z_ty ci) hty hnm hKT.1 hcl
  have hsh := z_ob_sh ho
  obtain ⟨r, h1, cell, q1, q2, q3, q4⟩ := (hW.1.2.2 q _ hsh).2
  have hr : r = (C, T, z_cN ci) := Option.some.inj (h1.symm.trans hcl)
  subst hr
  obtain ⟨hS, hfc, kC, hkC, hkind⟩ := hKT.1.1 ci _ hcl
  obtain ⟨cf, kf, fi, f, hi, hsl⟩ := hS k hk
  have hlay := hts _ (hin _ (u_in_lay hk))
  unfold u_lay at hlay
  rw [if_pos hfin] at hlay
  have hst := (u_facts hfc hkC (u_lays hts hin hk) hi).1
  have hcf : m.cls = cf := by
    obtain ⟨_, _, c', _, _, _, -, -, hf', -, -, -, hown2, -⟩ := Cond.laysFinal_spec hlay
    have e1 : c' = cf := by have := hi.symm.trans hf'; simp at this; exact this.1.symm
    rw [hdc, hd2 _ _ hcl] at hown2
    rw [← e1]; exact Option.some.inj (hown.symm.trans hown2)
  have h6 := u_fits hfc hkC hkind (Or.inr hlay) hi (hty k hk) hn hfit
  refine W.putFinK hx hb hown (hts _ hlk) (by rw [hdc] at hi; exact hi) hst hcf hin2 (by rw [q2]; exact h6) q1 q3 (by rw [hsl]; exact k2_hasslot (q4 k hk)) rfl rfl hdg fun H' e1' e2' e3' => ?_
  rw [hsl] at e1' ⊢
  exact kk H' _ (z_putC hW hk hsh e1 e2 hc hv ho2 hcl ⟨_, e1', q2, q3, t_set q4 hap hk v⟩ e2' e3')
theorem z_valI {x : Int32} (hk : z_kd ci k = 0) : z_val (z_pI σ q k x) q k (z_kd ci k) = .int x := by
  rw [hk]; simp [z_val, z_I_pI]
theorem z_valJ {x : Int64} (hk : z_kd ci k = 1) : z_val (z_pJ σ q k x) q k (z_kd ci k) = .long x := by
  rw [hk]; simp [z_val, z_J_pJ]
theorem z_valR {x : Option Nat} (hk : z_kd ci k = 2) : z_val (z_pR σ q k x) q k (z_kd ci k) = va_rf x := by
  rw [hk]; simp [z_val, z_R_pR]
theorem z_valI' {x : Int32} {j kd : Nat} (h : j ≠ k) : z_val (z_pI σ q k x) q j kd = z_val σ q j kd := by
  unfold z_val; split <;> simp [z_I_pI, z_J_pI, z_R_pI, h]
theorem z_valJ' {x : Int64} {j kd : Nat} (h : j ≠ k) : z_val (z_pJ σ q k x) q j kd = z_val σ q j kd := by
  unfold z_val; split <;> simp [z_J_pJ, z_I_pJ, z_R_pJ, h]
theorem z_valR' {x : Option Nat} {j kd : Nat} (h : j ≠ k) : z_val (z_pR σ q k x) q j kd = z_val σ q j kd := by
  unfold z_val; split <;> simp [z_R_pR, z_I_pR, z_J_pR, h]
theorem z_celI {x : Int32} {j a : Nat} (h : a ≠ q) (t : zSh) : z_cell cA (z_pI σ q j x) a t = z_cell cA σ a t := z_cell_ext (σ' := z_pI σ q j x) (σ := σ) (show z_u σ.2.2.1 q j x a = σ.2.2.1 a from z_u_ne h) rfl rfl t
theorem z_celJ {x : Int64} {j a : Nat} (h : a ≠ q) (t : zSh) : z_cell cA (z_pJ σ q j x) a t = z_cell cA σ a t := z_cell_ext (σ' := z_pJ σ q j x) (σ := σ) rfl (show z_u σ.2.2.2.1 q j x a = σ.2.2.2.1 a from z_u_ne h) rfl t
theorem z_celR {x : Option Nat} {j a : Nat} (h : a ≠ q) (t : zSh) : z_cell cA (z_pR σ q j x) a t = z_cell cA σ a t := z_cell_ext (σ' := z_pR σ q j x) (σ := σ) rfl rfl (show z_u σ.2.2.2.2 q j x a = σ.2.2.2.2 a from z_u_ne h) t
theorem z_bln {x : Int32} (h : z_bl x = true) : narrow .boolean (.int x) = .int x ∧ fits .boolean (.int x) = true := by
  simp only [z_bl, Bool.or_eq_true, beq_iff_eq] at h
  rcases h with rfl | rfl <;> decide
/-- what an int field takes: an int field anything, a boolean field 0 and 1 -/
def z_fi (ci k : Nat) (x : Int32) : Bool := match z_ty ci k with
  | .int => true
  | .boolean => z_bl x
  | _ => false
theorem z_fiN {x : Int32} (h : z_fi ci k x = true) : z_kd ci k = 0 ∧ narrow (z_ty ci k) (.int x) = .int x ∧ fits (z_ty ci k) (.int x) = true := by
  unfold z_fi at h
  unfold z_kd
  split at h
  · rename_i ht; rw [ht]; exact ⟨rfl, rfl, rfl⟩
  · rename_i ht; rw [ht]; exact ⟨rfl, z_bln h⟩
  · cases h
theorem z_putI (B : z_B p s m args meth c D cA bs own cc nL ret) (hW : z_Ok D cA bs s σ H locs) (F : z_F own index ci k) (ho : z_ob σ q ci = true) {x : Int32} (hx : z_fi ci k x = true) (hσ : z_pI σ q k x = σ') (hdg : decode cc pc = .ok (.putfield index, 3))
    (kk : ∀ (H : Heap) (locs : List Loc), z_Ok D cA bs s σ' H locs → W p l e R s m args below meth c H locs cells slots Q (F0 m (pc + 3) ls rest)) : W p l e R s m args below meth c H locs cells slots Q (F0 m pc ls (.int x :: .ref q :: rest)) := by
  subst hσ
  obtain ⟨g1, g2, g3⟩ := z_fiN hx
  exact z_putV (σ' := z_pI σ q k x) B hW F ho rfl rfl (fun a t h => z_celI h t) (z_valI g1) (fun j hj => z_valI' hj) g2 g3 hdg kk
theorem z_putJ (B : z_B p s m args meth c D cA bs own cc nL ret) (hW : z_Ok D cA bs s σ H locs) (F : z_F own index ci k) (hk : z_ty ci k = .long) (ho : z_ob σ q ci = true) {x : Int64} (hσ : z_pJ σ q k x = σ') (hdg : decode cc pc = .ok (.putfield index, 3))
    (kk : ∀ (H : Heap) (locs : List Loc), z_Ok D cA bs s σ' H locs → W p l e R s m args below meth c H locs cells slots Q (F0 m (pc + 3) ls rest)) : W p l e R s m args below meth c H locs cells slots Q (F0 m pc ls (.long x :: .ref q :: rest)) := by
  subst hσ
  exact z_putV (σ' := z_pJ σ q k x) B hW F ho rfl rfl (fun a t h => z_celJ h t) (z_valJ (by unfold z_kd; rw [hk]; rfl)) (fun j hj => z_valJ' hj) (by rw [hk]; rfl) (by rw [hk]; rfl) hdg kk
theorem z_refN {v : Option Nat} (hk : z_kd ci k = 2) : narrow (z_ty ci k) (va_rf v) = va_rf v ∧ fits (z_ty ci k) (va_rf v) = true := by
  unfold z_kd at hk
  generalize z_ty ci k = ty at hk
  cases ty <;> first | (cases hk; done) | (cases v <;> exact ⟨rfl, rfl⟩)
theorem z_putR (B : z_B p s m args meth c D cA bs own cc nL ret) (hW : z_Ok D cA bs s σ H locs) (F : z_F own index ci k) (hk : z_kd ci k = 2) (ho : z_ob σ q ci = true) {v : Option Nat} (hσ : z_pR σ q k v = σ') (hdg : decode cc pc = .ok (.putfield index, 3))
    (kk : ∀ (H : Heap) (locs : List Loc), z_Ok D cA bs s σ' H locs → W p l e R s m args below meth c H locs cells slots Q (F0 m (pc + 3) ls rest)) : W p l e R s m args below meth c H locs cells slots Q (F0 m pc ls (va_rf v :: .ref q :: rest)) := by
  subst hσ
  exact z_putV (σ' := z_pR σ q k v) B hW F ho rfl rfl (fun a t h => z_celR h t) (z_valR hk) (fun j hj => z_valR' hj) (z_refN hk).1 (z_refN hk).2 hdg kk
theorem z_putIF (B : z_B p s m args meth c D cA bs own cc nL ret) (hin : meth.name = "<init>") (hW : z_Ok D cA bs s σ H locs) (F : z_FF own index ci k) (hd : ∀ C T, vwCl[ci]? = some (C, T, z_cN ci) → C = own) (ho : z_ob σ q ci = true) {x : Int32} (hx : z_fi ci k x = true) (hσ : z_pI σ q k x = σ') (hdg : decode cc pc = .ok (.putfield index, 3))
    (kk : ∀ (H : Heap) (locs : List Loc), z_Ok D cA bs s σ' H locs → W p l e R s m args below meth c H locs cells slots Q (F0 m (pc + 3) ls rest)) : W p l e R s m args below meth c H locs cells slots Q (F0 m pc ls (.int x :: .ref q :: rest)) := by
  subst hσ
  obtain ⟨g1, g2, g3⟩ := z_fiN hx
  exact z_putVF (σ' := z_pI σ q k x) B hin hW F hd ho rfl rfl (fun a t h => z_celI h t) (z_valI g1) (fun j hj => z_valI' hj) g2 g3 hdg kk
theorem z_putRF (B : z_B p s m args meth c D cA bs own cc nL ret) (hin : meth.name = "<init>") (hW : z_Ok D cA bs s σ H locs) (F : z_FF own index ci k) (hd : ∀ C T, vwCl[ci]? = some (C, T, z_cN ci) → C = own) (hk : z_kd ci k = 2) (ho : z_ob σ q ci = true) {v : Option Nat} (hσ : z_pR σ q k v = σ') (hdg : decode cc pc = .ok (.putfield index, 3))
    (kk : ∀ (H : Heap) (locs : List Loc), z_Ok D cA bs s σ' H locs → W p l e R s m args below meth c H locs cells slots Q (F0 m (pc + 3) ls rest)) : W p l e R s m args below meth c H locs cells slots Q (F0 m pc ls (va_rf v :: .ref q :: rest)) := by
  subst hσ
  exact z_putVF (σ' := z_pR σ q k v) B hin hW F hd ho rfl rfl (fun a t h => z_celR h t) (z_valR hk) (fun j hj => z_valR' hj) (z_refN hk).1 (z_refN hk).2 hdg kk
/-! arrays -/
theorem z_arP {t : Nat} (hW : z_Ok D cA bs s σ H locs) (ho : z_ar σ q t = true) : va_P D vwCl [(q, .inl (cA t, z_el σ q t (z_ln σ q)))] H := fun i x hi => by
  cases i with
  | zero => cases hi; exact (hW.1.2.2 q _ (z_ar_sh ho)).2
  | succ i => cases hi
theorem z_ald (B : z_B p s m args meth c D cA bs own cc nL ret) (hW : z_Ok D cA bs s σ H locs) (ho : z_ar σ q 0 = true) {i : Int32} (hi : z_ix i (z_ln σ q) = true) (hdg : decode cc pc = .ok (.iaload, 1))
    (kk : W p l e R s m args below meth c H locs cells slots Q (F0 m (pc + 1) ls (.int (z_I σ q i.toNatClampNeg) :: rest))) : W p l e R s m args below meth c H locs cells slots Q (F0 m pc ls (.int i :: .ref q :: rest)) :=
  va_iald B.1 B.2.1 B.2.2.2.2.2.2.2.1.1 (z_arP hW ho) 0 0 rfl rfl (z_ix_in hi) hdg kk
theorem z_bald (B : z_B p s m args meth c D cA bs own cc nL ret) (hW : z_Ok D cA bs s σ H locs) (ho : z_ar σ q 1 = true) {i : Int32} (hi : z_ix i (z_ln σ q) = true) (hdg : decode cc pc = .ok (.baload, 1))
    (kk : W p l e R s m args below meth c H locs cells slots Q (F0 m (pc + 1) ls (.int (z_I σ q i.toNatClampNeg) :: rest))) : W p l e R s m args below meth c H locs cells slots Q (F0 m pc ls (.int i :: .ref q :: rest)) :=
  va_bald B.1 B.2.1 B.2.2.2.2.2.2.2.1.1 (z_arP hW ho) 0 1 rfl rfl (z_ix_in hi) hdg kk
theorem z_lald (B : z_B p s m args meth c D cA bs own cc nL ret) (hW : z_Ok D cA bs s σ H locs) (ho : z_ar σ q 2 = true) {i : Int32} (hi : z_ix i (z_ln σ q) = true) (hdg : decode cc pc = .ok (.laload, 1))
    (kk : W p l e R s m args below meth c H locs cells slots Q (F0 m (pc + 1) ls (.long (z_J σ q i.toNatClampNeg) :: rest))) : W p l e R s m args below meth c H locs cells slots Q (F0 m pc ls (.int i :: .ref q :: rest)) :=
  va_lald B.1 B.2.1 B.2.2.2.2.2.2.2.1.1 (z_arP hW ho) 0 2 rfl rfl (z_ix_in hi) hdg kk
theorem z_aald {t : Nat} (ht : t = 3 ∨ t = 4) (B : z_B p s m args meth c D cA bs own cc nL ret) (hW : z_Ok D cA bs s σ H locs) (ho : z_ar σ q t = true) {i : Int32} (hi : z_ix i (z_ln σ q) = true) {v : Option Nat} (hv : z_R σ q i.toNatClampNeg = v) (hdg : decode cc pc = .ok (.aaload, 1))
    (kk : W p l e R s m args below meth c H locs cells slots Q (F0 m (pc + 1) ls (va_rf v :: rest))) : W p l e R s m args below meth c H locs cells slots Q (F0 m pc ls (.int i :: .ref q :: rest)) := by
  subst hv
  rcases ht with rfl | rfl
  · exact va_aldq B.1 B.2.1 B.2.2.2.2.2.2.2.1.1 (z_arP hW ho) 0 3 rfl rfl (z_ix_in hi) hdg kk
  · exact va_aldq B.1 B.2.1 B.2.2.2.2.2.2.2.1.1 (z_arP hW ho) 0 4 rfl rfl (z_ix_in hi) hdg kk
theorem z_alen {t : Nat} (ht : t < 5) (B : z_B p s m args meth c D cA bs own cc nL ret) (hW : z_Ok D cA bs s σ H locs) (ho : z_ar σ q t = true) (hdg : decode cc pc = .ok (.arraylength, 1))
    (kk : W p l e R s m args below meth c H locs cells slots Q (F0 m (pc + 1) ls (.int (Int32.ofNat (z_ln σ q)) :: rest))) : W p l e R s m args below meth c H locs cells slots Q (F0 m pc ls (.ref q :: rest)) := by
  have hty : (z_tys cA)[t]? = some (cA t, z_at t) := by
    rcases (by omega : t = 0 ∨ t = 1 ∨ t = 2 ∨ t = 3 ∨ t = 4) with rfl | rfl | rfl | rfl | rfl <;> rfl
  refine va_alen B.1 B.2.1 B.2.2.2.2.2.2.2.1.1 (z_arP hW ho) 0 t rfl hty ?_ hdg kk
  unfold z_el
  split <;> rfl
end ROWS2
end
section
section ROWS3
variable {p : Program} {l : Launch} {e : Env} {R : Room} {s : State} {m : MethodId} {args : Array Value} {below : List Frame} {meth : Method} {c : Code} {H : Heap} {locs : List Loc} {cells slots : Nat} {Q : State → Prop}
variable {D : va_G} {cA : Nat → ClassId} {bs : Nat} {own : String} {cc : ByteArray} {nL : Nat} {ret : Option FieldType} {σ σ' : zSt} {pc : Nat} {ls : Array Slot} {rest : List Value} {q ci k index : Nat}
theorem z_u_at {α : Type} (f : Nat → Nat → α) (q j : Nat) (x : α) : z_u f q j x q = fun b => if b = j then x else f q b := by
  funext b
  simp [z_u]
theorem z_ast (B : z_B p s m args meth c D cA bs own cc nL ret) (hW : z_Ok D cA bs s σ H locs) (ho : z_ar σ q 0 = true) {i x : Int32} (hi : z_ix i (z_ln σ q) = true) (hσ : z_pI σ q i.toNatClampNeg x = σ') (hdg : decode cc pc = .ok (.iastore, 1))
    (kk : ∀ (H : Heap) (locs : List Loc), z_Ok D cA bs s σ' H locs → W p l e R s m args below meth c H locs cells slots Q (F0 m (pc + 1) ls rest)) : W p l e R s m args below meth c H locs cells slots Q (F0 m pc ls (.int x :: .int i :: .ref q :: rest)) := by
  subst hσ
  have hP := z_arP hW ho
  have hsh := z_ar_sh ho
  refine W.iast B.1 B.2.1 (hP 0 _ rfl) ((B.2.2.2.2.2.2.2.1.1.2 0 _ rfl).1 (z_ln σ q) (fun j => .int (z_I σ q j))) (fun q => by cases q) (by show ¬ (i < 0 ∨ (arrV _ _ _).slots.size ≤ _); rw [arrV_size]; exact z_ix_in hi) rfl rfl hdg fun H1 e1 z oq => ?_
  refine kk H1 _ ⟨z_Wd.put hW.1 hsh rfl rfl z oq (fun a t h => z_celI h t) ?_, hW.2.put z oq (hW.1.2.2 q _ hsh).1⟩
  show H1[q]? = some (vp_cell _ _)
  rw [e1]
  show some ((vp_cell _ (_, Sum.inl _)).setSlot _ _) = some (vp_cell _ (_, Sum.inl _))
  rw [vp_cell_i, vp_cell_i, arrV_store]
  congr 2
  funext b
  by_cases hq : b = i.toNatClampNeg
  · subst hq
    simp [updV, z_I_pI]
  · simp [updV, z_I_pI, hq]
theorem z_bast (B : z_B p s m args meth c D cA bs own cc nL ret) (hW : z_Ok D cA bs s σ H locs) (ho : z_ar σ q 1 = true) {i x : Int32} (hi : z_ix i (z_ln σ q) = true) (hσ : z_pI σ q i.toNatClampNeg (vp_nar .byte x) = σ') (hdg : decode cc pc = .ok (.bastore, 1))
    (kk : ∀ (H : Heap) (locs : List Loc), z_Ok D cA bs s σ' H locs → W p l e R s m args below meth c H locs cells slots Q (F0 m (pc + 1) ls rest)) : W p l e R s m args below meth c H locs cells slots Q (F0 m pc ls (.int x :: .int i :: .ref q :: rest)) := by
  subst hσ
  have hP := z_arP hW ho
  have hsh := z_ar_sh ho
  refine W.bast B.1 B.2.1 (hP 0 _ rfl) ((B.2.2.2.2.2.2.2.1.1.2 1 _ rfl).1 (z_ln σ q) (fun j => .int (z_I σ q j))) (fun q => by cases q) (by show ¬ (i < 0 ∨ (arrV _ _ _).slots.size ≤ _); rw [arrV_size]; exact z_ix_in hi) rfl rfl hdg fun H1 e1 z oq => ?_
  refine kk H1 _ ⟨z_Wd.put hW.1 hsh rfl rfl z oq (fun a t h => z_celI h t) ?_, hW.2.put z oq (hW.1.2.2 q _ hsh).1⟩
  show H1[q]? = some (vp_cell _ _)
  rw [e1]
  show some ((vp_cell _ (_, Sum.inl _)).setSlot _ _) = some (vp_cell _ (_, Sum.inl _))
  rw [vp_cell_i, vp_cell_i, arrV_store]
  congr 2
  funext b
  by_cases hq : b = i.toNatClampNeg
  · subst hq
    simp [updV, z_I_pI, vp_nar, narrow]
  · simp [updV, z_I_pI, hq]
theorem z_last (B : z_B p s m args meth c D cA bs own cc nL ret) (hW : z_Ok D cA bs s σ H locs) (ho : z_ar σ q 2 = true) {i : Int32} {x : Int64} (hi : z_ix i (z_ln σ q) = true) (hσ : z_pJ σ q i.toNatClampNeg x = σ') (hdg : decode cc pc = .ok (.lastore, 1))
    (kk : ∀ (H : Heap) (locs : List Loc), z_Ok D cA bs s σ' H locs → W p l e R s m args below meth c H locs cells slots Q (F0 m (pc + 1) ls rest)) : W p l e R s m args below meth c H locs cells slots Q (F0 m pc ls (.long x :: .int i :: .ref q :: rest)) := by
  subst hσ
  have hP := z_arP hW ho
  have hsh := z_ar_sh ho
  refine W.last B.1 B.2.1 (hP 0 _ rfl) ((B.2.2.2.2.2.2.2.1.1.2 2 _ rfl).1 (z_ln σ q) (fun j => .long (z_J σ q j))) (fun q => by cases q) (by show ¬ (i < 0 ∨ (arrV _ _ _).slots.size ≤ _); rw [arrV_size]; exact z_ix_in hi) rfl rfl hdg fun H1 e1 z oq => ?_
  refine kk H1 _ ⟨z_Wd.put hW.1 hsh rfl rfl z oq (fun a t h => z_celJ h t) ?_, hW.2.put z oq (hW.1.2.2 q _ hsh).1⟩
  show H1[q]? = some (vp_cell _ _)
  rw [e1]
  show some ((vp_cell _ (_, Sum.inr (Sum.inl _))).setSlot _ _) = some (vp_cell _ (_, Sum.inr (Sum.inl _)))
  rw [vp_cell_l, vp_cell_l, arrV_store]
  congr 2
  funext b
  by_cases hq : b = i.toNatClampNeg
  · subst hq
    simp [updV, z_J_pJ]
  · simp [updV, z_J_pJ, hq]
theorem z_aast {t ci v : Nat} (ht : (t = 3 ∧ ci = 6) ∨ (t = 4 ∧ ci = 2)) (B : z_B p s m args meth c D cA bs own cc nL ret) (hW : z_Ok D cA bs s σ H locs) (ho : z_ar σ q t = true) {i : Int32} (hi : z_ix i (z_ln σ q) = true) (hv : z_ob σ v ci = true) (hσ : z_pR σ q i.toNatClampNeg (some v) = σ') (hdg : decode cc pc = .ok (.aastore, 1))
    (kk : ∀ (H : Heap) (locs : List Loc), z_Ok D cA bs s σ' H locs → W p l e R s m args below meth c H locs cells slots Q (F0 m (pc + 1) ls rest)) : W p l e R s m args below meth c H locs cells slots Q (F0 m pc ls (.ref v :: .int i :: .ref q :: rest)) := by
  subst hσ
  have hP := z_arP hW ho
  have hsh := z_ar_sh ho
  have hshv := z_ob_sh hv
  have hin := z_ix_in hi
  have hlt : i.toNatClampNeg < z_ln σ q := Nat.not_le.mp fun q => hin (Or.inr q)
  have h0 : ¬ i < 0 := fun q => hin (Or.inl q)
  obtain ⟨r', hr', cellV, g1, g2, g3, -⟩ := (hW.1.2.2 v _ hshv).2
  have key : ∀ (r : vw_C), vwCl[ci]? = some r → (z_tys cA)[t]? = some (cA t, .object r.1) → z_el σ q t (z_ln σ q) = (z_ln σ q, .inr (.inr (.inr (.inr (z_R σ q))))) → z_el (z_pR σ q i.toNatClampNeg (some v)) q t (z_ln σ q) = (z_ln σ q, .inr (.inr (.inr (.inr (z_R (z_pR σ q i.toNatClampNeg (some v)) q))))) → W p l e R s m args below meth c H locs cells slots Q (F0 m pc ls (.ref v :: .int i :: .ref q :: rest)) := by
    intro r hc htt hel hel'
    have hK := B.2.2.2.2.2.2.2.1.1
    have hcls := (hK.1 ci r hc).2
    obtain ⟨kA, comp, k1, k2, k3, -⟩ := (hK.2 t _ htt).2
    have hcomp : comp = D.1 ci := Option.some.inj (k3.symm.trans hcls.1)
    subst hcomp
    obtain ⟨kC, hkC, -⟩ := hcls.2
    have hcell : H[q]? = some (vp_cell (cA t) (z_ln σ q, .inr (.inr (.inr (.inr (z_R σ q)))))) := by rw [← hel]; exact hP 0 _ rfl
    refine W.aast B.1 B.2.1 hcell (fun q h => by cases h) (fun h => by cases h) k1 k2 rfl hkC ⟨h0, by show _ < (arrV _ _ _).slots.size; rw [arrV_size]; exact hlt⟩ g1 (fun q h => by rw [g3] at h; cases h) (by rw [g2]; exact hkC) (by rw [g2]; exact va_assign hcls) rfl rfl hdg fun H1 e1 z oq => ?_
    refine kk H1 _ ⟨z_Wd.put hW.1 hsh rfl rfl z oq (fun a t h => z_celR h t) ?_, hW.2.put z oq (hW.1.2.2 q _ hsh).1⟩
    show H1[q]? = some (vp_cell _ (z_el _ _ _ _))
    rw [e1, hel', vp_cell_q, vp_cell_q, arrV_store]
    congr 2
    funext b
    by_cases hq : b = i.toNatClampNeg
    · subst hq
      simp [updV, z_R_pR, va_rf]
    · simp [updV, z_R_pR, hq]
  rcases ht with ⟨rfl, rfl⟩ | ⟨rfl, rfl⟩
  · exact key _ rfl rfl rfl rfl
  · exact key _ rfl rfl rfl rfl
/-! cells made -/
theorem z_sh_lt (hW : z_Wd D cA bs σ H) {t : zSh} (h : z_sh σ q = some t) : q < z_nx σ := by
  rw [← hW.1]
  exact (hW.2.2 q t h).2.lt
theorem z_Wd.new {H1 : Heap} {t : zSh} (h : z_Wd D cA bs σ H) (z : H1.size = H.size + 1) (o : ∀ q : Nat, q < H.size → H1[q]? = H[q]?) (hn : va_at D vwCl (z_nx σ, z_cell cA (z_nw σ t) (z_nx σ) t) H1) : z_Wd D cA bs (z_nw σ t) H1 := by
  refine ⟨by rw [z, h.1]; rfl, Nat.le_trans h.2.1 (Nat.le_succ _), fun q t' hq => ?_⟩
  rw [z_sh_nw] at hq
  by_cases hqn : q = z_nx σ
  · rw [if_pos hqn] at hq
    cases hq
    subst hqn
    exact ⟨h.2.1, hn⟩
  · rw [if_neg hqn] at hq
    have hlt : q < H.size := by rw [h.1]; exact z_sh_lt h hq
    have ec : z_cell cA (z_nw σ t) q t' = z_cell cA σ q t' := z_cell_ext (by funext b; rw [z_I_nw, if_neg hqn]) (by funext b; rw [z_J_nw, if_neg hqn]) (by funext b; rw [z_R_nw, if_neg hqn]) t'
    rw [ec]
    exact ⟨(h.2.2 q t' hq).1, (h.2.2 q t' hq).2.kept (o q hlt)⟩
theorem z_S_new {H0 H1 : Heap} {A : Nat → Prop} (hS : va_S A H0 H locs) (z : H1.size = H.size + 1) (o : ∀ q : Nat, q < H.size → H1[q]? = H[q]?) : va_S A H0 H1 locs :=
  ⟨Nat.le_trans hS.1 (by omega), fun x h1 h2 => (o x (Nat.lt_of_lt_of_le h1 hS.1)).trans (hS.2.1 x h1 h2), hS.2.2⟩
theorem z_newO {C : String} {T : u_T} (B : z_B p s m args meth c D cA bs own cc nL ret) (hW : z_Ok D cA bs s σ H locs) (hcl : vwCl[ci]? = some (C, T, z_cN ci)) (hty : ∀ k, k < z_cN ci → parseFieldDescriptor (T k).2.2.1 = some (z_ty ci k)) (hin : ∀ w ∈ u_ws C T (z_cN ci), w ∈ zWS)
    (h1 : Cond.classLink own index C ∈ zWS) (h2 : Cond.instantiable C (z_cN ci) ∈ zWS) (h3 : Cond.initialized C ∈ zWS) (hfs : ∀ j, j < z_cN ci → defaultValue (z_ty ci j) = z_val (z_nw σ (.inl ci)) (z_nx σ) j (z_kd ci j)) (hσ : z_nw σ (.inl ci) = σ') (hcells : cells + 1 ≤ R.cells) (hslots : slots + z_cN ci ≤ R.slots) (hdg : decode cc pc = .ok (.new index, 3))
    (kk : ∀ (H : Heap), z_Ok D cA bs s σ' H locs → W p l e R s m args below meth c H locs (cells + 1) (slots + z_cN ci) Q (F0 m (pc + 3) ls (.ref (z_nx σ) :: rest))) : W p l e R s m args below meth c H locs cells slots Q (F0 m pc ls rest) := by
  subst hσ
  obtain ⟨hx, hb, hml, hown, hts, -, -, hKT, -⟩ := B
  have hKn := hKT.1.1 ci _ hcl
  refine W.newcK hx hb hown (hts _ h1) (hts _ h2) (hts _ h3) rfl hdg hcells hslots hKn.2.1 hW.1.1 fun H1 kC hkC e1 z1 o1 => ?_
  rw [← hW.1.1] at z1 o1
  refine kk H1 ⟨hW.1.new z1 o1 ⟨_, hcl, (u_born (z_ty ci) hts hin hKn hkC e1 hty).to fun j hj => ?_⟩, z_S_new hW.2 z1 o1⟩
  rw [hfs j hj]
  simp [vp_V, z_fs_get hj]
theorem z_newA {t : Nat} {atype : ArrayType} (B : z_B p s m args meth c D cA bs own cc nL ret) (hW : z_Ok D cA bs s σ H locs) (hat : (newarray.typeOf atype = .int ∧ t = 0) ∨ (newarray.typeOf atype = .byte ∧ t = 1) ∨ (newarray.typeOf atype = .long ∧ t = 2)) (hw : Cond.arrayClass (newarray.typeOf atype) ∈ zWS)
    {n : Int32} {N : Nat} (hn : ¬ n < 0) (hN : n.toNatClampNeg = N) (hbytes : N * 8 ≤ 536870912) (hσ : z_nw σ (.inr (t, N)) = σ') (hcells : cells + 1 ≤ R.cells) (hslots : slots + N ≤ R.slots) (hdg : decode cc pc = .ok (.newarray atype, 2))
    (kk : ∀ (H : Heap), z_Ok D cA bs s σ' H locs → W p l e R s m args below meth c H locs (cells + 1) (slots + N) Q (F0 m (pc + 2) ls (.ref (z_nx σ) :: rest))) : W p l e R s m args below meth c H locs cells slots Q (F0 m pc ls (.int n :: rest)) := by
  subst hσ
  obtain ⟨hx, hb, hml, hown, hts, -, -, hKT, -⟩ := B
  have hbytes' : N * componentBytes (newarray.typeOf atype) ≤ 536870912 := by
    refine Nat.le_trans (Nat.mul_le_mul_left N ?_) hbytes
    rcases hat with ⟨h, -⟩ | ⟨h, -⟩ | ⟨h, -⟩ <;> rw [h] <;> decide
  refine va_newaK hx hb (hts _ hw) rfl hdg rfl hn hN hbytes' hcells hslots hW.1.1 fun H1 cB e1 z1 o1 hAr hNm => ?_
  rw [← hW.1.1] at z1 o1
  refine kk H1 ⟨hW.1.new z1 o1 ?_, z_S_new hW.2 z1 o1⟩
  rcases hat with ⟨h, rfl⟩ | ⟨h, rfl⟩ | ⟨h, rfl⟩
  · rw [h] at e1 hNm
    have ec : cB = cA 0 := Option.some.inj (hNm.symm.trans (hKT.1.2 0 _ rfl).2)
    subst ec
    refine e1.trans (congrArg some ?_)
    show _ = vp_cell _ (N, Sum.inl _)
    rw [vp_cell_i]
    congr 1
    funext b
    simp [z_I_nw, defaultValue]
  · rw [h] at e1 hNm
    have ec : cB = cA 1 := Option.some.inj (hNm.symm.trans (hKT.1.2 1 _ rfl).2)
    subst ec
    refine e1.trans (congrArg some ?_)
    show _ = vp_cell _ (N, Sum.inl _)
    rw [vp_cell_i]
    congr 1
    funext b
    simp [z_I_nw, defaultValue]
  · rw [h] at e1 hNm
    have ec : cB = cA 2 := Option.some.inj (hNm.symm.trans (hKT.1.2 2 _ rfl).2)
    subst ec
    refine e1.trans (congrArg some ?_)
    show _ = vp_cell _ (N, Sum.inr (Sum.inl _))
    rw [vp_cell_l]
    congr 1
    funext b
    simp [z_J_nw, defaultValue]
theorem z_newQ {t : Nat} {C : String} (B : z_B p s m args meth c D cA bs own cc nL ret) (hW : z_Ok D cA bs s σ H locs) (hat : (C = RX6 ∧ t = 3) ∨ (C = RX2 ∧ t = 4)) (hw : Cond.classLink own index C ∈ zWS)
    {n : Int32} {N : Nat} (hn : ¬ n < 0) (hN : n.toNatClampNeg = N) (hbytes : N * 4 ≤ 536870912) (hσ : z_nw σ (.inr (t, N)) = σ') (hcells : cells + 1 ≤ R.cells) (hslots : slots + N ≤ R.slots) (hdg : decode cc pc = .ok (.anewarray index, 3))
    (kk : ∀ (H : Heap), z_Ok D cA bs s σ' H locs → W p l e R s m args below meth c H locs (cells + 1) (slots + N) Q (F0 m (pc + 3) ls (.ref (z_nx σ) :: rest))) : W p l e R s m args below meth c H locs cells slots Q (F0 m pc ls (.int n :: rest)) := by
  subst hσ
  subst hN
  obtain ⟨hx, hb, hml, hown, hts, -, -, hKT, -⟩ := B
  have hover : va_AO C s := by rcases hat with ⟨rfl, -⟩ | ⟨rfl, -⟩; exact hKT.2.2.1; exact hKT.2.2.2
  refine W.anew hx hb hown (hts _ hw) (va_AO.use hover) rfl hdg rfl hn hbytes hcells hslots fun cB kA comp f1 f2 f3 f4 => ?_
  generalize hH1 : H.push ({ cls := cB, slots := Array.replicate n.toNatClampNeg .null, vm := .none } : Cell) = H1
  have z1 : H1.size = H.size + 1 := by rw [← hH1, Array.size_push]
  have e1 : H1[H.size]? = some (arrV cB n.toNatClampNeg (fun _ => .null)) := by rw [← hH1, Array.getElem?_push_size, ← arrV_new]
  have o1 : ∀ q : Nat, q < H.size → H1[q]? = H[q]? := fun q hq => by rw [← hH1, Array.getElem?_push, if_neg (Nat.ne_of_lt hq)]
  rw [show (Value.ref H.size) = .ref (z_nx σ) by rw [hW.1.1]]
  refine kk H1 ⟨hW.1.new z1 o1 ?_, z_S_new hW.2 z1 o1⟩
  rw [hW.1.1] at e1
  rcases hat with ⟨rfl, rfl⟩ | ⟨rfl, rfl⟩
  · obtain ⟨kA', comp', g1, g2, g3, g4⟩ := (hKT.1.2 3 _ rfl).2
    have ec : cB = cA 3 := Option.some.inj (f1.symm.trans g4)
    subst ec
    refine e1.trans (congrArg some ?_)
    show _ = vp_cell _ (n.toNatClampNeg, Sum.inr (Sum.inr (Sum.inr (Sum.inr _))))
    rw [vp_cell_q]
    congr 1
    funext b
    simp [z_R_nw, va_rf]
  · obtain ⟨kA', comp', g1, g2, g3, g4⟩ := (hKT.1.2 4 _ rfl).2
    have ec : cB = cA 4 := Option.some.inj (f1.symm.trans g4)
    subst ec
    refine e1.trans (congrArg some ?_)
    show _ = vp_cell _ (n.toNatClampNeg, Sum.inr (Sum.inr (Sum.inr (Sum.inr _))))
    rw [vp_cell_q]
    congr 1
    funext b
    simp [z_R_nw, va_rf]
end ROWS3
end
section
/-! calls and ends -/
/-- what the tables say of a called method -/
def z_V (own : String) (index : Nat) (C : String) (y : MethodName) (cc : ByteArray) (nL : Nat) (ret : Option FieldType) (n : Nat) : Prop :=
  (∀ w ∈ wsV own index C y [Cond.code y cc nL ret], w ∈ zWS) ∧ y.cls = C ∧ y.cls ≠ "java/lang/invoke/MethodHandle" ∧ y.cls ≠ "java/lang/invoke/VarHandle" ∧ (parseMethodDescriptor y.desc).map (fun d => d.parameters.length) = some n
def z_SS (own : String) (index : Nat) (y : MethodName) (cc : ByteArray) (nL : Nat) (ret : Option FieldType) (n : Nat) : Prop :=
  (∀ w ∈ ([.methodLink own index y, .static y, .initialized y.cls, .code y cc nL ret] : List Cond), w ∈ zWS) ∧ y.cls ≠ "java/lang/invoke/MethodHandle" ∧ y.cls ≠ "java/lang/invoke/VarHandle" ∧ (parseMethodDescriptor y.desc).map (fun d => d.parameters.length) = some n
def z_SN (own : String) (index : Nat) (y : MethodName) (host : String) (cc : ByteArray) (nL : Nat) (ret : Option FieldType) (n : Nat) : Prop :=
  (own, index, y, host) ∈ zNest ∧ (∀ w ∈ ([.static y, .initialized y.cls, .code y cc nL ret] : List Cond), w ∈ zWS) ∧ y.cls ≠ "java/lang/invoke/MethodHandle" ∧ y.cls ≠ "java/lang/invoke/VarHandle" ∧ (parseMethodDescriptor y.desc).map (fun d => d.parameters.length) = some n
def z_II (own : String) (index : Nat) (y : MethodName) (cc : ByteArray) (nL : Nat) (n : Nat) : Prop :=
  (∀ w ∈ ([.methodLink own index y, .instanceMethod y, .initialized y.cls, .code y cc nL none] : List Cond), w ∈ zWS) ∧ y.name = "<init>" ∧ y.cls ≠ "java/lang/invoke/MethodHandle" ∧ y.cls ≠ "java/lang/invoke/VarHandle" ∧ (parseMethodDescriptor y.desc).map (fun d => d.parameters.length) = some n
def z_IN (own : String) (index : Nat) (y : MethodName) (host : String) (cc : ByteArray) (nL : Nat) (n : Nat) : Prop :=
  (own, index, y, host) ∈ zNest ∧ (∀ w ∈ ([.instanceMethod y, .initialized y.cls, .code y cc nL none] : List Cond), w ∈ zWS) ∧ y.name = "<init>" ∧ y.cls ≠ "java/lang/invoke/MethodHandle" ∧ y.cls ≠ "java/lang/invoke/VarHandle" ∧ (parseMethodDescriptor y.desc).map (fun d => d.parameters.length) = some n
def z_wy (y : MethodName) (cc : ByteArray) (nL : Nat) (ret : Option FieldType) : List Cond := Cond.code y cc nL ret :: zWS
/-- the contract of a method: from the abstract heap σ to σ' -/
def z_M (l : Launch) (D : va_G) (cA : Nat → ClassId) (bs : Nat) (y : MethodName) (cc : ByteArray) (nL : Nat) (ret : Option FieldType) (fr lo mc ms : Nat) (As : List Value) (σ : zSt) (Qc : Array Value → State → Outcome → State → Prop) : Prop :=
  Met l y (z_wy y cc nL ret) (zrm fr mc ms lo) (va_Pc As (fun U => z_Pc D cA bs σ U)) Qc mc ms (fun q => bs ≤ q)
def z_Qi (D : va_G) (cA : Nat → ClassId) (bs : Nat) (r : Int32) (σ' : zSt) : Array Value → State → Outcome → State → Prop := va_Qi (fun (x : Int32) (_ : Unit) => x = r) (fun _ t => z_Pc D cA bs σ' t) (fun q => bs ≤ q)
def z_Ql (D : va_G) (cA : Nat → ClassId) (bs : Nat) (r : Int64) (σ' : zSt) : Array Value → State → Outcome → State → Prop := va_Ql (fun (x : Int64) (_ : Unit) => x = r) (fun _ t => z_Pc D cA bs σ' t) (fun q => bs ≤ q)
def z_Qd (D : va_G) (cA : Nat → ClassId) (bs : Nat) (r : UInt64) (σ' : zSt) : Array Value → State → Outcome → State → Prop := va_Qd (fun (x : UInt64) (_ : Unit) => x = r) (fun _ t => z_Pc D cA bs σ' t) (fun q => bs ≤ q)
def z_Qq (D : va_G) (cA : Nat → ClassId) (bs : Nat) (r : Option Nat) (σ' : zSt) : Array Value → State → Outcome → State → Prop := va_Qq (fun (x : Option Nat) (_ : Unit) => x = r) (fun _ t => z_Pc D cA bs σ' t) (fun q => bs ≤ q)
def z_Qv (D : va_G) (cA : Nat → ClassId) (bs : Nat) (σ' : zSt) : Array Value → State → Outcome → State → Prop := va_Qv (fun (_ : Unit) => True) (fun _ t => z_Pc D cA bs σ' t) (fun q => bs ≤ q)
section CALLS
variable {p : Program} {l : Launch} {e : Env} {R : Room} {s : State} {m : MethodId} {args : Array Value} {below : List Frame} {meth : Method} {c : Code} {H : Heap} {locs : List Loc} {cells slots : Nat} {Q : State → Prop}
variable {D : va_G} {cA : Nat → ClassId} {bs : Nat} {own : String} {cc : ByteArray} {nL : Nat} {ret : Option FieldType} {σ σ' : zSt} {pc : Nat} {ls : Array Slot} {rest st As : List Value} {q ci k index n : Nat}
variable {y : MethodName} {bytes : ByteArray} {maxL fr lo mc ms : Nat} {ret1 : Option FieldType} {C host : String} {Qc : Array Value → State → Outcome → State → Prop}
theorem z_blind : FrameBlind (va_Pc As (fun U => z_Pc D cA bs σ U)) := fun a U g mk h => ⟨h.1, h.2.1, z_KT.same (s := U) (U := U.calling g mk a) rfl h.2.2⟩
theorem z_gw (h : Cond.code y bytes maxL ret1 ∈ zWS) : GoodIn zWS (z_wy y bytes maxL ret1) := z_gi fun w hw => (List.mem_cons.mp hw).elim (fun e => by rw [e]; exact h) id
theorem z_runV (B : z_B p s m args meth c D cA bs own cc nL ret) (hW : z_Ok D cA bs s σ H locs) (V : z_V own index C y bytes maxL ret1 n) (hM : z_M l D cA bs y bytes maxL ret1 fr lo mc ms (.ref q :: As) σ Qc) (ho : z_ob σ q ci = true) (hci : (vwCl[ci]?).map (fun r => r.1) = some C)
    (hn : As.length = n) (hst : st = As.reverse ++ .ref q :: rest) (hrs : (rest.map fun v => v.category).sum ≤ 8) (hls : ls.size = nL) (hR : fr + 1 ≤ R.frames ∧ 8 + (maxL + 11) + lo ≤ R.locals) (hdg : decode cc pc = .ok (.invokevirtual index, 3)) (hf : cells + mc ≤ R.cells ∧ slots + ms ≤ R.slots) :
    va_Run p l e R s m args below meth c H locs cells slots mc ms (F0 m pc ls st) rest (Qc (Value.ref q :: As).toArray) (fun q => bs ≤ q) := by
  obtain ⟨hx, hb, hml, hown, hts, -, -, hKT, -⟩ := B
  have hsh := z_ob_sh ho
  obtain ⟨r, hcl, cellB, g1, g2, g3, -⟩ := (hW.1.2.2 q _ hsh).2
  have hC : r.1 = C := by rw [hcl] at hci; exact Option.some.inj hci
  refine va_runV (Ts := zWS) (own := own) (C := C) (y := y) (ws := z_wy y bytes maxL ret1) (As := As) (rest := rest) (n := n) ⟨hx, hb, hml, hown, hts⟩ hM (cwV n hts (fun w hw => ?_) rfl rfl rfl V.2 hR) ⟨z_blind, ⟨cellB, g1, by rw [g3]; rfl, by rw [g2, ← hC]; exact (hKT.1.1 ci _ hcl).2.1⟩, fun U hU hWm => ⟨rfl, by rw [hU]; exact hW.1, hKT.warm hWm⟩⟩ rfl hn hls hst (lv_room (rest := st) hrs) hdg hf
  unfold wsV at hw
  rcases List.mem_append.mp hw with hw | hw
  · exact z_gi V.1 w (by unfold wsV; exact List.mem_append_left _ hw)
  · exact z_gw (V.1 _ (by unfold wsV; exact List.mem_append_right _ List.mem_cons_self)) w hw
theorem z_runS (B : z_B p s m args meth c D cA bs own cc nL ret) (hW : z_Ok D cA bs s σ H locs) (V : z_SS own index y bytes maxL ret1 n) (hM : z_M l D cA bs y bytes maxL ret1 fr lo mc ms As σ Qc)
    (hn : As.length = n) (hst : st = As.reverse ++ rest) (hrs : (rest.map fun v => v.category).sum ≤ 8) (hls : ls.size = nL) (hR : fr + 1 ≤ R.frames ∧ 8 + (maxL + 11) + lo ≤ R.locals) (hdg : decode cc pc = .ok (.invokestatic index, 3)) (hf : cells + mc ≤ R.cells ∧ slots + ms ≤ R.slots) :
    va_Run p l e R s m args below meth c H locs cells slots mc ms (F0 m pc ls st) rest (Qc As.toArray) (fun q => bs ≤ q) := by
  obtain ⟨hx, hb, hml, hown, hts, -, -, hKT, -⟩ := B
  obtain ⟨V1, V2⟩ := V
  refine va_runS (Ts := zWS) (own := own) (y := y) (ws := z_wy y bytes maxL ret1) (As := As) (rest := rest) (n := n) ⟨hx, hb, hml, hown, hts⟩ hM ⟨callB_of n hts (z_gw (V1 _ (by simp))) rfl rfl rfl (hts _ (V1 _ (by simp))) (hts _ (V1 _ (by simp))) V2 hR, hts _ (V1 _ (by simp))⟩ ⟨z_blind, fun U hU hWm => ⟨rfl, by rw [hU]; exact hW.1, hKT.warm hWm⟩⟩ rfl hn hls hst (lv_room (rest := st) hrs) hdg hf
theorem z_runSN (B : z_B p s m args meth c D cA bs own cc nL ret) (hW : z_Ok D cA bs s σ H locs) (V : z_SN own index y host bytes maxL ret1 n) (hM : z_M l D cA bs y bytes maxL ret1 fr lo mc ms As σ Qc)
    (hn : As.length = n) (hst : st = As.reverse ++ rest) (hrs : (rest.map fun v => v.category).sum ≤ 8) (hls : ls.size = nL) (hR : fr + 1 ≤ R.frames ∧ 8 + (maxL + 11) + lo ≤ R.locals) (hdg : decode cc pc = .ok (.invokestatic index, 3)) (hf : cells + mc ≤ R.cells ∧ slots + ms ≤ R.slots) :
    va_Run p l e R s m args below meth c H locs cells slots mc ms (F0 m pc ls st) rest (Qc As.toArray) (fun q => bs ≤ q) := by
  obtain ⟨hx, hb, hml, hown, hts, -, -, hKT, -⟩ := B
  obtain ⟨V0, V1, V2⟩ := V
  refine va_runSN (Ts := zWS) (own := own) (y := y) (ws := z_wy y bytes maxL ret1) (As := As) (rest := rest) (n := n) (host := host) ⟨hx, hb, hml, hown, hts⟩ hM ⟨va_cnB n hts (z_gw (V1 _ (by simp))) rfl rfl rfl (hKT.2.1 _ V0) (hts _ (V1 _ (by simp))) V2 hR, hts _ (V1 _ (by simp)), trivial⟩ ⟨z_blind, fun U hU hWm => ⟨rfl, by rw [hU]; exact hW.1, hKT.warm hWm⟩⟩ rfl hn hls hst (lv_room (rest := st) hrs) hdg hf
theorem z_runI (B : z_B p s m args meth c D cA bs own cc nL ret) (hW : z_Ok D cA bs s σ H locs) (V : z_II own index y bytes maxL n) (hM : z_M l D cA bs y bytes maxL none fr lo mc ms (.ref q :: As) σ Qc)
    (hn : As.length = n) (hst : st = As.reverse ++ .ref q :: rest) (hrs : (rest.map fun v => v.category).sum ≤ 8) (hls : ls.size = nL) (hR : fr + 1 ≤ R.frames ∧ 8 + (maxL + 11) + lo ≤ R.locals) (hdg : decode cc pc = .ok (.invokespecial index, 3)) (hf : cells + mc ≤ R.cells ∧ slots + ms ≤ R.slots) :
    va_Run p l e R s m args below meth c H locs cells slots mc ms (F0 m pc ls st) rest (Qc (Value.ref q :: As).toArray) (fun q => bs ≤ q) := by
  obtain ⟨hx, hb, hml, hown, hts, -, -, hKT, -⟩ := B
  obtain ⟨V1, V3, V2⟩ := V
  refine va_runI (Ts := zWS) (own := own) (y := y) (ws := z_wy y bytes maxL none) (As := As) (rest := rest) (n := n) ⟨hx, hb, hml, hown, hts⟩ hM (cwI n hts (z_gw (V1 _ (by simp))) rfl rfl rfl (hts _ (V1 _ (by simp))) (hts _ (V1 _ (by simp))) (hts _ (V1 _ (by simp))) V3 V2 hR) ⟨z_blind, fun U hU hWm => ⟨rfl, by rw [hU]; exact hW.1, hKT.warm hWm⟩⟩ rfl hn hls hst (lv_room (rest := st) hrs) hdg hf
theorem z_runIN (B : z_B p s m args meth c D cA bs own cc nL ret) (hW : z_Ok D cA bs s σ H locs) (V : z_IN own index y host bytes maxL n) (hM : z_M l D cA bs y bytes maxL none fr lo mc ms (.ref q :: As) σ Qc)
    (hn : As.length = n) (hst : st = As.reverse ++ .ref q :: rest) (hrs : (rest.map fun v => v.category).sum ≤ 8) (hls : ls.size = nL) (hR : fr + 1 ≤ R.frames ∧ 8 + (maxL + 11) + lo ≤ R.locals) (hdg : decode cc pc = .ok (.invokespecial index, 3)) (hf : cells + mc ≤ R.cells ∧ slots + ms ≤ R.slots) :
    va_Run p l e R s m args below meth c H locs cells slots mc ms (F0 m pc ls st) rest (Qc (Value.ref q :: As).toArray) (fun q => bs ≤ q) := by
  obtain ⟨hx, hb, hml, hown, hts, -, -, hKT, -⟩ := B
  obtain ⟨V0, V1, V3, V2⟩ := V
  refine va_runIN (Ts := zWS) (own := own) (y := y) (ws := z_wy y bytes maxL none) (As := As) (rest := rest) (n := n) (host := host) ⟨hx, hb, hml, hown, hts⟩ hM ⟨va_cnB n hts (z_gw (V1 _ (by simp))) rfl rfl rfl (hKT.2.1 _ V0) (hts _ (V1 _ (by simp))) V2 hR, V3, hts _ (V1 _ (by simp))⟩ ⟨z_blind, fun U hU hWm => ⟨rfl, by rw [hU]; exact hW.1, hKT.warm hWm⟩⟩ rfl hn hls hst (lv_room (rest := st) hrs) hdg hf
/-! behind a call -/
theorem z_ci {r : Int32} {a : Array Value} (hW : z_Ok D cA bs s σ H locs) (hr : va_Run p l e R s m args below meth c H locs cells slots mc ms (F0 m pc ls st) rest (z_Qi D cA bs r σ' a) (fun q => bs ≤ q))
    (kk : ∀ (H : Heap) (locs : List Loc), z_Ok D cA bs s σ' H locs → W p l e R s m args below meth c H locs (cells + mc) (slots + ms) Q (F0 m (pc + 3) ls (.int r :: rest))) : W p l e R s m args below meth c H locs cells slots Q (F0 m pc ls st) :=
  va_calli hr hW.2 (fun _ _ h => h) (fun _ h => h) fun r' u t H1 locs1 ht hvm hp hb hz hk hS => by
    have e1 : r' = r := hp
    subst e1
    exact kk H1 locs1 ⟨by rw [← ht]; exact hb.1, hS⟩
theorem z_cl {r : Int64} {a : Array Value} (hW : z_Ok D cA bs s σ H locs) (hr : va_Run p l e R s m args below meth c H locs cells slots mc ms (F0 m pc ls st) rest (z_Ql D cA bs r σ' a) (fun q => bs ≤ q))
    (kk : ∀ (H : Heap) (locs : List Loc), z_Ok D cA bs s σ' H locs → W p l e R s m args below meth c H locs (cells + mc) (slots + ms) Q (F0 m (pc + 3) ls (.long r :: rest))) : W p l e R s m args below meth c H locs cells slots Q (F0 m pc ls st) :=
  va_calll hr hW.2 (fun _ _ h => h) (fun _ h => h) fun r' u t H1 locs1 ht hvm hp hb hz hk hS => by
    have e1 : r' = r := hp
    subst e1
    exact kk H1 locs1 ⟨by rw [← ht]; exact hb.1, hS⟩
theorem z_cd {r : UInt64} {a : Array Value} (hW : z_Ok D cA bs s σ H locs) (hr : va_Run p l e R s m args below meth c H locs cells slots mc ms (F0 m pc ls st) rest (z_Qd D cA bs r σ' a) (fun q => bs ≤ q))
    (kk : ∀ (H : Heap) (locs : List Loc), z_Ok D cA bs s σ' H locs → W p l e R s m args below meth c H locs (cells + mc) (slots + ms) Q (F0 m (pc + 3) ls (.double r :: rest))) : W p l e R s m args below meth c H locs cells slots Q (F0 m pc ls st) :=
  va_calld hr hW.2 (fun _ _ h => h) (fun _ h => h) fun r' u t H1 locs1 ht hvm hp hb hz hk hS => by
    have e1 : r' = r := hp
    subst e1
    exact kk H1 locs1 ⟨by rw [← ht]; exact hb.1, hS⟩
theorem z_cq {r : Option Nat} {a : Array Value} (hW : z_Ok D cA bs s σ H locs) (hr : va_Run p l e R s m args below meth c H locs cells slots mc ms (F0 m pc ls st) rest (z_Qq D cA bs r σ' a) (fun q => bs ≤ q))
    (kk : ∀ (H : Heap) (locs : List Loc), z_Ok D cA bs s σ' H locs → W p l e R s m args below meth c H locs (cells + mc) (slots + ms) Q (F0 m (pc + 3) ls (va_rf r :: rest))) : W p l e R s m args below meth c H locs cells slots Q (F0 m pc ls st) :=
  va_callq hr hW.2 (fun _ _ h => h) (fun _ h => h) fun r' u t H1 locs1 ht hvm hp hb hz hk hS => by
    have e1 : r' = r := hp
    subst e1
    exact kk H1 locs1 ⟨by rw [← ht]; exact hb.1, hS⟩
theorem z_cv {a : Array Value} (hW : z_Ok D cA bs s σ H locs) (hr : va_Run p l e R s m args below meth c H locs cells slots mc ms (F0 m pc ls st) rest (z_Qv D cA bs σ' a) (fun q => bs ≤ q))
    (kk : ∀ (H : Heap) (locs : List Loc), z_Ok D cA bs s σ' H locs → W p l e R s m args below meth c H locs (cells + mc) (slots + ms) Q (F0 m (pc + 3) ls rest)) : W p l e R s m args below meth c H locs cells slots Q (F0 m pc ls st) :=
  va_callv hr hW.2 (fun _ _ h => h) (fun _ h => h) fun u t H1 locs1 ht hvm hp hb hz hk hS => kk H1 locs1 ⟨by rw [← ht]; exact hb.1, hS⟩
/-! ends -/
theorem z_ri {r : Int32} (B : z_B p s m args meth c D cA bs own cc nL (some .int)) (hW : z_Ok D cA bs s σ H locs) (hdg : decode cc pc = .ok (.ireturn, 1)) (h1 : cells ≤ mc) (h2 : slots ≤ ms) :
    W p l e R s m args below meth c H locs cells slots (MQ below (z_Qi D cA bs r σ) args s mc ms (fun q => bs ≤ q)) (F0 m pc ls [.int r]) :=
  W.widen h1 h2 (W.iret B.1 B.2.1 B.2.2.2.2.2.1 (fun t ht hWm => ⟨⟨r, (), rfl, rfl, by rw [ht]; exact hW.1, B.2.2.2.2.2.2.2.1.warm hWm⟩, hW.2.F ht⟩) hW.2.2.2 hdg B.2.2.2.2.2.2.1)
theorem z_rz {r : Int32} (hr : z_bl r = true) (B : z_B p s m args meth c D cA bs own cc nL (some .boolean)) (hW : z_Ok D cA bs s σ H locs) (hdg : decode cc pc = .ok (.ireturn, 1)) (h1 : cells ≤ mc) (h2 : slots ≤ ms) :
    W p l e R s m args below meth c H locs cells slots (MQ below (z_Qi D cA bs r σ) args s mc ms (fun q => bs ≤ q)) (F0 m pc ls [.int r]) :=
  W.widen h1 h2 (W.zret B.1 B.2.1 B.2.2.2.2.2.1 (z_bln hr).1 (fun t ht hWm => ⟨⟨r, (), rfl, rfl, by rw [ht]; exact hW.1, B.2.2.2.2.2.2.2.1.warm hWm⟩, hW.2.F ht⟩) hW.2.2.2 hdg B.2.2.2.2.2.2.1)
theorem z_rl {r : Int64} (B : z_B p s m args meth c D cA bs own cc nL (some .long)) (hW : z_Ok D cA bs s σ H locs) (hdg : decode cc pc = .ok (.lreturn, 1)) (h1 : cells ≤ mc) (h2 : slots ≤ ms) :
    W p l e R s m args below meth c H locs cells slots (MQ below (z_Ql D cA bs r σ) args s mc ms (fun q => bs ≤ q)) (F0 m pc ls [.long r]) :=
  W.widen h1 h2 (W.lret B.1 B.2.1 B.2.2.2.2.2.1 (fun t ht hWm => ⟨⟨r, (), rfl, rfl, by rw [ht]; exact hW.1, B.2.2.2.2.2.2.2.1.warm hWm⟩, hW.2.F ht⟩) hW.2.2.2 hdg B.2.2.2.2.2.2.1)
theorem z_rd {r : UInt64} (B : z_B p s m args meth c D cA bs own cc nL (some .double)) (hW : z_Ok D cA bs s σ H locs) (hdg : decode cc pc = .ok (.dreturn, 1)) (h1 : cells ≤ mc) (h2 : slots ≤ ms) :
    W p l e R s m args below meth c H locs cells slots (MQ below (z_Qd D cA bs r σ) args s mc ms (fun q => bs ≤ q)) (F0 m pc ls [.double r]) :=
  W.widen h1 h2 (W.dret B.1 B.2.1 B.2.2.2.2.2.1 (fun t ht hWm => ⟨⟨r, (), rfl, rfl, by rw [ht]; exact hW.1, B.2.2.2.2.2.2.2.1.warm hWm⟩, hW.2.F ht⟩) hW.2.2.2 hdg B.2.2.2.2.2.2.1)
theorem z_rv (B : z_B p s m args meth c D cA bs own cc nL none) (hW : z_Ok D cA bs s σ H locs) (hdg : decode cc pc = .ok (.return_, 1)) (h1 : cells ≤ mc) (h2 : slots ≤ ms) :
    W p l e R s m args below meth c H locs cells slots (MQ below (z_Qv D cA bs σ) args s mc ms (fun q => bs ≤ q)) (F0 m pc ls []) :=
  W.widen h1 h2 (W.vret B.1 B.2.1 B.2.2.2.2.2.1 (fun t ht hWm => ⟨⟨(), rfl, trivial, by rw [ht]; exact hW.1, B.2.2.2.2.2.2.2.1.warm hWm⟩, hW.2.F ht⟩) hW.2.2.2 hdg B.2.2.2.2.2.2.1)
theorem z_rq {r : Option Nat} {C : String} (B : z_B p s m args meth c D cA bs own cc nL (some (.object C))) (hW : z_Ok D cA bs s σ H locs) (hdg : decode cc pc = .ok (.areturn, 1)) (h1 : cells ≤ mc) (h2 : slots ≤ ms) :
    W p l e R s m args below meth c H locs cells slots (MQ below (z_Qq D cA bs r σ) args s mc ms (fun q => bs ≤ q)) (F0 m pc ls [va_rf r]) :=
  W.widen h1 h2 (W.aret B.1 B.2.1 B.2.2.2.2.2.1 (Or.inl ⟨C, rfl⟩) (va_rf_or r) (fun t ht hWm => ⟨⟨r, (), rfl, rfl, by rw [ht]; exact hW.1, B.2.2.2.2.2.2.2.1.warm hWm⟩, hW.2.F ht⟩) hW.2.2.2 hdg B.2.2.2.2.2.2.1)
end CALLS
/-- a contract out of a body's walk -/
theorem z_met {l : Launch} {D : va_G} {cA : Nat → ClassId} {bs : Nat} {own : String} {y : MethodName} {cc : ByteArray} {nL : Nat} {ret : Option FieldType} {fr lo mc ms : Nat} {As : List Value} {σ : zSt} {Qc : Array Value → State → Outcome → State → Prop} {lv : List (Nat × Value)}
    (hy : plainName y.cls = true) (hyc : y.cls = own) (hl0 : (lg_sl As).length ≤ nL) (hlv : lv_args 0 As = lv)
    (body : ∀ (p : Program) (e : Env) (s : State) (m : MethodId) (below : List Frame) (meth : Method) (c : Code) (ls : Array Slot), z_B p s m As.toArray meth c D cA bs own cc nL ret → meth.name = y.name → z_Ok D cA bs s σ s.heap [] → lv_has ls nL lv →
      W p l e (zrm fr mc ms lo) s m As.toArray below meth c s.heap [] 0 0 (MQ below Qc As.toArray s mc ms (fun q => bs ≤ q)) (F0 m 0 ls [])) : z_M l D cA bs y cc nL ret fr lo mc ms As σ Qc := by
  refine Met.ofW (cc := cc) (maxL := nL) (ret := ret) hy rfl ?_
  intro p e s m args below meth c s₁ B hml hv
  obtain ⟨rfl, hWd, hKT⟩ := hv
  have hts := atoms_spec (ws := z_wy y cc nL ret) B.pre
  have hown : s.vm.findClass own = some m.cls := hyc ▸ findClass_of_methodNamed B.named
  have hsz : bs ≤ s.heap.size := by rw [hWd.1]; exact hWd.2.1
  rw [lg_entry_eq]
  exact body p e s m below meth c _ ⟨B.exec, B.bytes, hml, hown, fun w hw => hts w (List.mem_cons_of_mem _ hw), B.returns, B.notSynchronized, hKT, hsz⟩ (name_of_methodNamed B.named B.method).1 ⟨hWd, va_S.rf⟩ (by rw [← hlv]; exact lv_entry As hl0)
section ROWS4
variable {p : Program} {l : Launch} {e : Env} {R : Room} {s : State} {m : MethodId} {args : Array Value} {below : List Frame} {meth : Method} {c : Code} {H : Heap} {locs : List Loc} {cells slots : Nat} {Q : State → Prop}
variable {cc : ByteArray} {pc : Nat} {ls : Array Slot} {rest : List Value}
theorem z_aload_n (hexec : p.tables.exec = Jvm.exec) (hb : c.code = cc) {k : Fin 4} {i : Nat} {x : Option Nat} (hdg : decode cc pc = .ok (.aload_n k, 1)) (hi : (k : Nat) = i) (hl : ls[i]? = some (.val (va_rf x)))
    (kk : W p l e R s m args below meth c H locs cells slots Q (F0 m (pc + 1) ls (va_rf x :: rest))) : W p l e R s m args below meth c H locs cells slots Q (F0 m pc ls rest) := by
  cases x with
  | none => exact lv_aload_nN hexec hb hdg hi hl kk
  | some a => exact lv_aload_n hexec hb hdg hi hl kk
theorem z_aload (hexec : p.tables.exec = Jvm.exec) (hb : c.code = cc) {i : Nat} {x : Option Nat} (hdg : decode cc pc = .ok (.aload i, 2)) (hl : ls[i]? = some (.val (va_rf x)))
    (kk : W p l e R s m args below meth c H locs cells slots Q (F0 m (pc + 2) ls (va_rf x :: rest))) : W p l e R s m args below meth c H locs cells slots Q (F0 m pc ls rest) := by
  cases x with
  | none => exact lv_aloadN hexec hb hdg hl kk
  | some a => exact lv_aload hexec hb hdg hl kk
theorem z_astore_n (hexec : p.tables.exec = Jvm.exec) (hb : c.code = cc) {k : Fin 4} {i nL : Nat} {x : Option Nat} {lv lv' : List (Nat × Value)} (hdg : decode cc pc = .ok (.astore_n k, 1)) (hi : (k : Nat) = i) (h : lv_has ls nL lv) (hn : i < nL) (hl : (i, va_rf x) :: lv.filter (fun q => !(q.1 == i) && !(q.1 + 1 == i && q.2.category == 2)) = lv')
    (kk : ∀ ls' : Array Slot, lv_has ls' nL lv' → W p l e R s m args below meth c H locs cells slots Q (F0 m (pc + 1) ls' rest)) : W p l e R s m args below meth c H locs cells slots Q (F0 m pc ls (va_rf x :: rest)) := by
  cases x with
  | none => exact lv_astore_nN hexec hb hdg hi h hn hl kk
  | some a => exact lv_astore_n hexec hb hdg hi h hn hl kk
theorem z_astore (hexec : p.tables.exec = Jvm.exec) (hb : c.code = cc) {i nL : Nat} {x : Option Nat} {lv lv' : List (Nat × Value)} (hdg : decode cc pc = .ok (.astore i, 2)) (h : lv_has ls nL lv) (hn : i < nL) (hl : (i, va_rf x) :: lv.filter (fun q => !(q.1 == i) && !(q.1 + 1 == i && q.2.category == 2)) = lv')
    (kk : ∀ ls' : Array Slot, lv_has ls' nL lv' → W p l e R s m args below meth c H locs cells slots Q (F0 m (pc + 2) ls' rest)) : W p l e R s m args below meth c H locs cells slots Q (F0 m pc ls (va_rf x :: rest)) := by
  cases x with
  | none => exact lv_astoreN hexec hb hdg h hn hl kk
  | some a => exact lv_astore hexec hb hdg h hn hl kk
theorem z_ifnull (hexec : p.tables.exec = Jvm.exec) (hb : c.code = cc) {r : Option Nat} {off : Int} {tgt : Nat} (hdg : decode cc pc = .ok (.ifnull off, 3)) (ht : (pc : Int) + off = (tgt : Int))
    (k0 : r = none → W p l e R s m args below meth c H locs cells slots Q (F0 m tgt ls rest)) (k1 : ∀ a, r = some a → W p l e R s m args below meth c H locs cells slots Q (F0 m (pc + 3) ls rest)) : W p l e R s m args below meth c H locs cells slots Q (F0 m pc ls (va_rf r :: rest)) := by
  cases r with
  | none => exact lv_ifnullN hexec hb hdg ht (k0 rfl)
  | some a => exact lv_ifnull hexec hb hdg (k1 a rfl)
theorem z_ifnonnull (hexec : p.tables.exec = Jvm.exec) (hb : c.code = cc) {r : Option Nat} {off : Int} {tgt : Nat} (hdg : decode cc pc = .ok (.ifnonnull off, 3)) (ht : (pc : Int) + off = (tgt : Int))
    (k0 : r = none → W p l e R s m args below meth c H locs cells slots Q (F0 m (pc + 3) ls rest)) (k1 : ∀ a, r = some a → W p l e R s m args below meth c H locs cells slots Q (F0 m tgt ls rest)) : W p l e R s m args below meth c H locs cells slots Q (F0 m pc ls (va_rf r :: rest)) := by
  cases r with
  | none => exact lv_ifnonnullN hexec hb hdg (k0 rfl)
  | some a => exact lv_ifnonnull hexec hb hdg ht (k1 a rfl)
end ROWS4
end
section
/-- what a class's tables give for its objects' making -/
def z_NW (own : String) (index ci : Nat) : Prop := ∃ (C : String) (T : u_T), vwCl[ci]? = some (C, T, z_cN ci) ∧ (∀ k, k < z_cN ci → parseFieldDescriptor (T k).2.2.1 = some (z_ty ci k)) ∧ (∀ w ∈ u_ws C T (z_cN ci), w ∈ zWS) ∧ Cond.classLink own index C ∈ zWS ∧ Cond.instantiable C (z_cN ci) ∈ zWS ∧ Cond.initialized C ∈ zWS ∧ (List.range (z_cN ci)).all (fun j => match z_ty ci j with | .float => false | .double => false | _ => true) = true
theorem z_dfl {σ : zSt} {ci j : Nat} {t : zSh} (h : (match z_ty ci j with | .float => false | .double => false | _ => true) = true) : defaultValue (z_ty ci j) = z_val (z_nw σ t) (z_nx σ) j (z_kd ci j) := by
  unfold z_kd
  generalize z_ty ci j = ty at h
  cases ty <;> first | (cases h; done) | simp [defaultValue, z_kf, z_val, z_I_nw, z_J_nw, z_R_nw, va_rf]
def z_nl (n : Int32) (cap : Nat) : Bool := decide (¬ n < 0) && decide (n.toNatClampNeg ≤ cap)
theorem z_nl0 {n : Int32} {cap : Nat} (h : z_nl n cap = true) : ¬ n < 0 := by
  simp only [z_nl, Bool.and_eq_true, decide_eq_true_eq] at h
  exact h.1
theorem z_nl1 {n : Int32} {cap : Nat} (h : z_nl n cap = true) : n.toNatClampNeg ≤ cap := by
  simp only [z_nl, Bool.and_eq_true, decide_eq_true_eq] at h
  exact h.2
def z_MM (own : String) (index : Nat) (y : MethodName) (code : ByteArray) : Prop := Cond.methodLink own index y ∈ zWS ∧ Cond.static y ∈ zWS ∧ Cond.initialized "java/lang/Math" ∈ zWS ∧ Cond.code y code 2 (some .int) ∈ zWS
def z_CP (own : String) (index : Nat) : Prop := Cond.methodLink own index arraycopyName ∈ zWS ∧ Cond.native arraycopyName ∈ zWS ∧ Cond.static arraycopyName ∈ zWS ∧ Cond.initialized "java/lang/System" ∈ zWS
/-- ints of q0 from sp on laid into q1 from dp on -/
def z_cp (σ : zSt) (q0 q1 : Nat) (sp dp n : Int32) : zSt := (σ.1, σ.2.1, fun a j => if a = q1 then va_cpy (σ.2.2.1 q0) (σ.2.2.1 q1) sp.toNatClampNeg dp.toNatClampNeg n.toNatClampNeg j else σ.2.2.1 a j, σ.2.2.2.1, σ.2.2.2.2)
def z_cpg (q0 q1 : Nat) (sp dp n : Int32) (n0 n1 : Nat) : Bool := decide (¬ q0 = q1) && (decide (¬ sp < 0) && (decide (¬ dp < 0) && (decide (¬ n < 0) && (decide (sp.toNatClampNeg + n.toNatClampNeg ≤ n0) && decide (dp.toNatClampNeg + n.toNatClampNeg ≤ n1)))))
def vf_n64b (r : UInt64) : Bool := decide (r &&& 0x7fffffffffffffff ≤ 0x7ff0000000000000)
theorem vf_n64b_of {r : UInt64} (h : vf_n64b r = true) : vf_n64 r := by
  simp only [vf_n64b, decide_eq_true_eq] at h
  exact h
theorem z_tout {x : Int32} {lo hi : Int} (h : ∀ k : Int, lo ≤ k → k ≤ hi → ¬ x = Int32.ofInt k) : x.toInt < lo ∨ hi < x.toInt := by
  rcases Int.lt_or_le x.toInt lo with h1 | h1
  · exact Or.inl h1
  · rcases Int.lt_or_le hi x.toInt with h2 | h2
    · exact Or.inr h2
    · exact absurd (Int32.ofInt_toInt x).symm (h _ h1 h2)
section MISC
variable {p : Program} {l : Launch} {e : Env} {R : Room} {s : State} {m : MethodId} {args : Array Value} {below : List Frame} {meth : Method} {c : Code} {H : Heap} {locs : List Loc} {cells slots : Nat} {Q : State → Prop}
variable {D : va_G} {cA : Nat → ClassId} {bs : Nat} {own : String} {cc : ByteArray} {nL : Nat} {ret : Option FieldType} {σ σ' : zSt} {pc : Nat} {ls : Array Slot} {rest : List Value} {q ci k index : Nat}
theorem z_newOb (B : z_B p s m args meth c D cA bs own cc nL ret) (hW : z_Ok D cA bs s σ H locs) (F : z_NW own index ci) (hσ : z_nw σ (.inl ci) = σ') (hcells : cells + 1 ≤ R.cells) (hslots : slots + z_cN ci ≤ R.slots) (hdg : decode cc pc = .ok (.new index, 3))
    (kk : ∀ (H : Heap), z_Ok D cA bs s σ' H locs → W p l e R s m args below meth c H locs (cells + 1) (slots + z_cN ci) Q (F0 m (pc + 3) ls (.ref (z_nx σ) :: rest))) : W p l e R s m args below meth c H locs cells slots Q (F0 m pc ls rest) := by
  obtain ⟨C, T, h1, h2, h3, h4, h5, h6, h7⟩ := F
  exact z_newO B hW h1 h2 h3 h4 h5 h6 (fun j hj => z_dfl (List.all_eq_true.mp h7 j (List.mem_range.mpr hj))) hσ hcells hslots hdg kk
theorem z_copy {q0 q1 : Nat} {sp dp n : Int32} (B : z_B p s m args meth c D cA bs own cc nL ret) (hW : z_Ok D cA bs s σ H locs) (F : z_CP own index) (ho0 : z_ar σ q0 0 = true) (ho1 : z_ar σ q1 0 = true) (hg : z_cpg q0 q1 sp dp n (z_ln σ q0) (z_ln σ q1) = true) (hσ : z_cp σ q0 q1 sp dp n = σ') (hls : ls.size = nL)
    (hframes : 1 ≤ R.frames) (hlocals : (rest.map fun v => v.category).sum + (nativeFrameWords "java/lang/System" "arraycopy" 5 + 11) ≤ R.locals) (hdg : decode cc pc = .ok (.invokestatic index, 3))
    (kk : ∀ (H : Heap) (locs : List Loc), z_Ok D cA bs s σ' H locs → W p l e R s m args below meth c H locs cells slots Q (F0 m (pc + 3) ls rest)) : W p l e R s m args below meth c H locs cells slots Q (F0 m pc ls (.int n :: .int dp :: .ref q1 :: .int sp :: .ref q0 :: rest)) := by
  subst hσ
  simp only [z_cpg, Bool.and_eq_true, decide_eq_true_eq] at hg
  obtain ⟨hne, h1, h2, h3, h4, h5⟩ := hg
  obtain ⟨hx, hb, hml, hown, hts, -, -, hKT, -⟩ := B
  have hK := hKT.1
  have nn : ∀ z : Int32, ¬ z < 0 → z.toInt = (z.toNatClampNeg : Int) := by
    intro z hz
    have hz0 : (0 : Int) ≤ z.toInt := by
      have := Int32.not_lt.mp hz
      simpa using Int32.le_iff_toInt_le.mp this
    show z.toInt = ((z.toInt.toNat : Nat) : Int)
    omega
  have hs0 := z_ar_sh ho0
  have hs1 := z_ar_sh ho1
  intro T hT X
  have hc0 : H[q0]? = some (vp_cell (cA 0) (z_ln σ q0, .inl (z_I σ q0))) := (hW.1.2.2 q0 _ hs0).2
  have hc1 : H[q1]? = some (vp_cell (cA 0) (z_ln σ q1, .inl (z_I σ q1))) := (hW.1.2.2 q1 _ hs1).2
  obtain ⟨-, k0, hk0, cm0, hkk0⟩ := (hK.2 0 _ rfl).1 (z_ln σ q0) (fun j => .int (z_I σ q0 j))
  obtain ⟨vm', X', step⟩ := X.arraycopy hx hown (hts _ F.1) (hts _ F.2.1) (hts _ F.2.2.1) (hts _ F.2.2.2) (src := q0) (dst := q1) (cs := vp_cell (cA 0) (z_ln σ q0, .inl (z_I σ q0))) (cd := vp_cell (cA 0) (z_ln σ q1, .inl (z_I σ q1))) (srcPos := sp) (destPos := dp) (n := n) (by rw [hT]; exact hc0) (by rw [hT]; exact hc1)
    (fun _ h => by cases h) (fun _ h => by cases h) (fun h => by cases h) (fun h => by cases h) hk0 hk0 hkk0 hkk0 (by simp [refKind]) h1 h2 h3
    (by rw [nn sp h1, nn n h3]; show ¬ _ > ((arrV (cA 0) (z_ln σ q0) (fun j => .int (z_I σ q0 j))).slots.size : Int); rw [arrV_size]; omega)
    (by rw [nn dp h2, nn n h3]; show ¬ _ > ((arrV (cA 0) (z_ln σ q1) (fun j => .int (z_I σ q1 j))).slots.size : Int); rw [arrV_size]; omega)
    (fun vm₁ _ i hi => by
      have e1 : (vp_cell (cA 0) (z_ln σ q0, .inl (z_I σ q0))).slots.getD (sp.toNatClampNeg + i) .null = .int (z_I σ q0 (sp.toNatClampNeg + i)) := by
        show (arrV (cA 0) (z_ln σ q0) (fun j => .int (z_I σ q0 j))).slots.getD _ _ = _
        rw [Array.getD_eq_getD_getElem?, arrV_read _ _ (by omega)]
        rfl
      refine ⟨?_, ?_⟩
      · rw [e1]
        rfl
      · rw [e1]
        exact trivial)
    (g := F0 m pc ls (.int n :: .int dp :: .ref q1 :: .int sp :: .ref q0 :: rest)) rfl (by rw [hml]; exact hls) (rest := rest) rfl (by rw [hb]; exact hdg) hframes (by show 2 * 0 + _ + _ ≤ _; omega)
  have e1 : copied (vp_cell (cA 0) (z_ln σ q0, .inl (z_I σ q0))) (vp_cell (cA 0) (z_ln σ q1, .inl (z_I σ q1))) sp dp n = vp_cell (cA 0) (z_ln σ q1, .inl (va_cpy (z_I σ q0) (z_I σ q1) sp.toNatClampNeg dp.toNatClampNeg n.toNatClampNeg)) := va_copied (fun z => .int z) (cA 0) (cA 0) (z_I σ q0) (z_I σ q1) h4
  rw [e1] at X' step
  have hl : q1 < H.size := (Array.getElem?_eq_some_iff.mp hc1).1
  have hheap : ((T.setVm vm').setCell q1 (vp_cell (cA 0) (z_ln σ q1, .inl (va_cpy (z_I σ q0) (z_I σ q1) sp.toNatClampNeg dp.toNatClampNeg n.toNatClampNeg)))).heap = H.setIfInBounds q1 (vp_cell (cA 0) (z_ln σ q1, .inl (va_cpy (z_I σ q0) (z_I σ q1) sp.toNatClampNeg dp.toNatClampNeg n.toNatClampNeg))) := by rw [← hT]; rfl
  have oq : ∀ a : Nat, a ≠ q1 → (H.setIfInBounds q1 (vp_cell (cA 0) (z_ln σ q1, .inl (va_cpy (z_I σ q0) (z_I σ q1) sp.toNatClampNeg dp.toNatClampNeg n.toNatClampNeg))))[a]? = H[a]? := fun a ha => by simp [Array.getElem?_setIfInBounds, Ne.symm ha]
  have hI : z_I (z_cp σ q0 q1 sp dp n) q1 = va_cpy (z_I σ q0) (z_I σ q1) sp.toNatClampNeg dp.toNatClampNeg n.toNatClampNeg := by
    funext b
    show (if q1 = q1 then _ else _) = _
    rw [if_pos rfl]
    rfl
  have hO : ∀ a t, a ≠ q1 → z_cell cA (z_cp σ q0 q1 sp dp n) a t = z_cell cA σ a t := fun a t ha => z_cell_ext (σ := σ) (σ' := z_cp σ q0 q1 sp dp n) (by
    funext b
    show (if a = q1 then _ else σ.2.2.1 a b) = σ.2.2.1 a b
    rw [if_neg ha]) rfl rfl t
  obtain ⟨t, a1, b1⟩ := kk _ _ ⟨z_Wd.put hW.1 hs1 rfl rfl (by simp) oq hO (by
      show (H.setIfInBounds q1 _)[q1]? = some (vp_cell _ (_, Sum.inl (z_I (z_cp σ q0 q1 sp dp n) q1)))
      rw [hI]
      simp [Array.getElem?_setIfInBounds, hl]), ⟨by simp; exact hW.2.1, fun a g1 g2 => by
      rw [oq a (fun e => g2 (by rw [e]; exact (hW.1.2.2 q1 _ hs1).1))]
      exact hW.2.2.1 a g1 g2, fun a ha => by
      rcases List.mem_append.mp ha with h | h
      · exact hW.2.2.2 a h
      · obtain ⟨z, -, hz⟩ := List.mem_map.mp h
        rw [← hz]
        exact (hW.1.2.2 q1 _ hs1).1⟩⟩ _ hheap X'
  exact ⟨t, step t a1, b1⟩
end MISC
end
section
theorem dX0_init_0 : decode cX0_init 0 = .ok (.aload_n 0, 1) := by decide +kernel
theorem dX0_init_1 : decode cX0_init 1 = .ok (.invokespecial 1, 3) := by decide +kernel
theorem dX0_init_4 : decode cX0_init 4 = .ok (.return_, 1) := by decide +kernel
theorem dX0_clear_0 : decode cX0_clear 0 = .ok (.aload_n 0, 1) := by decide +kernel
theorem dX0_clear_1 : decode cX0_clear 1 = .ok (.iconst 0, 1) := by decide +kernel
theorem dX0_clear_2 : decode cX0_clear 2 = .ok (.putfield 7, 3) := by decide +kernel
theorem dX0_clear_5 : decode cX0_clear 5 = .ok (.aload_n 0, 1) := by decide +kernel
theorem dX0_clear_6 : decode cX0_clear 6 = .ok (.iconst 0, 1) := by decide +kernel
theorem dX0_clear_7 : decode cX0_clear 7 = .ok (.putfield 13, 3) := by decide +kernel
theorem dX0_clear_10 : decode cX0_clear 10 = .ok (.aload_n 0, 1) := by decide +kernel
theorem dX0_clear_11 : decode cX0_clear 11 = .ok (.iconst 0, 1) := by decide +kernel
theorem dX0_clear_12 : decode cX0_clear 12 = .ok (.putfield 16, 3) := by decide +kernel
theorem dX0_clear_15 : decode cX0_clear 15 = .ok (.aload_n 0, 1) := by decide +kernel
theorem dX0_clear_16 : decode cX0_clear 16 = .ok (.iconst 0, 1) := by decide +kernel
theorem dX0_clear_17 : decode cX0_clear 17 = .ok (.putfield 19, 3) := by decide +kernel
theorem dX0_clear_20 : decode cX0_clear 20 = .ok (.aload_n 0, 1) := by decide +kernel
theorem dX0_clear_21 : decode cX0_clear 21 = .ok (.iconst 0, 1) := by decide +kernel
theorem dX0_clear_22 : decode cX0_clear 22 = .ok (.putfield 22, 3) := by decide +kernel
theorem dX0_clear_25 : decode cX0_clear 25 = .ok (.aload_n 0, 1) := by decide +kernel
theorem dX0_clear_26 : decode cX0_clear 26 = .ok (.iconst 0, 1) := by decide +kernel
theorem dX0_clear_27 : decode cX0_clear 27 = .ok (.putfield 25, 3) := by decide +kernel
theorem dX0_clear_30 : decode cX0_clear 30 = .ok (.aload_n 0, 1) := by decide +kernel
theorem dX0_clear_31 : decode cX0_clear 31 = .ok (.iconst 0, 1) := by decide +kernel
theorem dX0_clear_32 : decode cX0_clear 32 = .ok (.putfield 28, 3) := by decide +kernel
theorem dX0_clear_35 : decode cX0_clear 35 = .ok (.aload_n 0, 1) := by decide +kernel
theorem dX0_clear_36 : decode cX0_clear 36 = .ok (.iconst 0, 1) := by decide +kernel
theorem dX0_clear_37 : decode cX0_clear 37 = .ok (.putfield 31, 3) := by decide +kernel
theorem dX0_clear_40 : decode cX0_clear 40 = .ok (.aload_n 0, 1) := by decide +kernel
theorem dX0_clear_41 : decode cX0_clear 41 = .ok (.iconst 0, 1) := by decide +kernel
theorem dX0_clear_42 : decode cX0_clear 42 = .ok (.putfield 34, 3) := by decide +kernel
theorem dX0_clear_45 : decode cX0_clear 45 = .ok (.aload_n 0, 1) := by decide +kernel
theorem dX0_clear_46 : decode cX0_clear 46 = .ok (.lconst 0, 1) := by decide +kernel
theorem dX0_clear_47 : decode cX0_clear 47 = .ok (.putfield 37, 3) := by decide +kernel
theorem dX0_clear_50 : decode cX0_clear 50 = .ok (.return_, 1) := by decide +kernel
theorem dX0_copyFrom_0 : decode cX0_copyFrom 0 = .ok (.aload_n 0, 1) := by decide +kernel
theorem dX0_copyFrom_1 : decode cX0_copyFrom 1 = .ok (.aload_n 1, 1) := by decide +kernel
theorem dX0_copyFrom_2 : decode cX0_copyFrom 2 = .ok (.getfield 7, 3) := by decide +kernel
theorem dX0_copyFrom_5 : decode cX0_copyFrom 5 = .ok (.putfield 7, 3) := by decide +kernel
theorem dX0_copyFrom_8 : decode cX0_copyFrom 8 = .ok (.aload_n 0, 1) := by decide +kernel
theorem dX0_copyFrom_9 : decode cX0_copyFrom 9 = .ok (.aload_n 1, 1) := by decide +kernel
theorem dX0_copyFrom_10 : decode cX0_copyFrom 10 = .ok (.getfield 13, 3) := by decide +kernel
theorem dX0_copyFrom_13 : decode cX0_copyFrom 13 = .ok (.putfield 13, 3) := by decide +kernel
theorem dX0_copyFrom_16 : decode cX0_copyFrom 16 = .ok (.aload_n 0, 1) := by decide +kernel
theorem dX0_copyFrom_17 : decode cX0_copyFrom 17 = .ok (.aload_n 1, 1) := by decide +kernel
theorem dX0_copyFrom_18 : decode cX0_copyFrom 18 = .ok (.getfield 16, 3) := by decide +kernel
theorem dX0_copyFrom_21 : decode cX0_copyFrom 21 = .ok (.putfield 16, 3) := by decide +kernel
theorem dX0_copyFrom_24 : decode cX0_copyFrom 24 = .ok (.aload_n 0, 1) := by decide +kernel
theorem dX0_copyFrom_25 : decode cX0_copyFrom 25 = .ok (.aload_n 1, 1) := by decide +kernel
theorem dX0_copyFrom_26 : decode cX0_copyFrom 26 = .ok (.getfield 19, 3) := by decide +kernel
theorem dX0_copyFrom_29 : decode cX0_copyFrom 29 = .ok (.putfield 19, 3) := by decide +kernel
theorem dX0_copyFrom_32 : decode cX0_copyFrom 32 = .ok (.aload_n 0, 1) := by decide +kernel
theorem dX0_copyFrom_33 : decode cX0_copyFrom 33 = .ok (.aload_n 1, 1) := by decide +kernel
theorem dX0_copyFrom_34 : decode cX0_copyFrom 34 = .ok (.getfield 22, 3) := by decide +kernel
theorem dX0_copyFrom_37 : decode cX0_copyFrom 37 = .ok (.putfield 22, 3) := by decide +kernel
theorem dX0_copyFrom_40 : decode cX0_copyFrom 40 = .ok (.aload_n 0, 1) := by decide +kernel
theorem dX0_copyFrom_41 : decode cX0_copyFrom 41 = .ok (.aload_n 1, 1) := by decide +kernel
theorem dX0_copyFrom_42 : decode cX0_copyFrom 42 = .ok (.getfield 25, 3) := by decide +kernel
theorem dX0_copyFrom_45 : decode cX0_copyFrom 45 = .ok (.putfield 25, 3) := by decide +kernel
theorem dX0_copyFrom_48 : decode cX0_copyFrom 48 = .ok (.aload_n 0, 1) := by decide +kernel
theorem dX0_copyFrom_49 : decode cX0_copyFrom 49 = .ok (.aload_n 1, 1) := by decide +kernel
theorem dX0_copyFrom_50 : decode cX0_copyFrom 50 = .ok (.getfield 28, 3) := by decide +kernel
theorem dX0_copyFrom_53 : decode cX0_copyFrom 53 = .ok (.putfield 28, 3) := by decide +kernel
theorem dX0_copyFrom_56 : decode cX0_copyFrom 56 = .ok (.aload_n 0, 1) := by decide +kernel
theorem dX0_copyFrom_57 : decode cX0_copyFrom 57 = .ok (.aload_n 1, 1) := by decide +kernel
theorem dX0_copyFrom_58 : decode cX0_copyFrom 58 = .ok (.getfield 31, 3) := by decide +kernel
theorem dX0_copyFrom_61 : decode cX0_copyFrom 61 = .ok (.putfield 31, 3) := by decide +kernel
theorem dX0_copyFrom_64 : decode cX0_copyFrom 64 = .ok (.aload_n 0, 1) := by decide +kernel
theorem dX0_copyFrom_65 : decode cX0_copyFrom 65 = .ok (.aload_n 1, 1) := by decide +kernel
theorem dX0_copyFrom_66 : decode cX0_copyFrom 66 = .ok (.getfield 34, 3) := by decide +kernel
theorem dX0_copyFrom_69 : decode cX0_copyFrom 69 = .ok (.putfield 34, 3) := by decide +kernel
theorem dX0_copyFrom_72 : decode cX0_copyFrom 72 = .ok (.aload_n 0, 1) := by decide +kernel
theorem dX0_copyFrom_73 : decode cX0_copyFrom 73 = .ok (.aload_n 1, 1) := by decide +kernel
theorem dX0_copyFrom_74 : decode cX0_copyFrom 74 = .ok (.getfield 37, 3) := by decide +kernel
theorem dX0_copyFrom_77 : decode cX0_copyFrom 77 = .ok (.putfield 37, 3) := by decide +kernel
theorem dX0_copyFrom_80 : decode cX0_copyFrom 80 = .ok (.return_, 1) := by decide +kernel
theorem dX0_addSent_0 : decode cX0_addSent 0 = .ok (.aload_n 0, 1) := by decide +kernel
theorem dX0_addSent_1 : decode cX0_addSent 1 = .ok (.dup, 1) := by decide +kernel
theorem dX0_addSent_2 : decode cX0_addSent 2 = .ok (.getfield 13, 3) := by decide +kernel
theorem dX0_addSent_5 : decode cX0_addSent 5 = .ok (.iconst 1, 1) := by decide +kernel
theorem dX0_addSent_6 : decode cX0_addSent 6 = .ok (.iadd, 1) := by decide +kernel
theorem dX0_addSent_7 : decode cX0_addSent 7 = .ok (.putfield 13, 3) := by decide +kernel
theorem dX0_addSent_10 : decode cX0_addSent 10 = .ok (.aload_n 0, 1) := by decide +kernel
theorem dX0_addSent_11 : decode cX0_addSent 11 = .ok (.dup, 1) := by decide +kernel
theorem dX0_addSent_12 : decode cX0_addSent 12 = .ok (.getfield 28, 3) := by decide +kernel
theorem dX0_addSent_15 : decode cX0_addSent 15 = .ok (.iload_n 1, 1) := by decide +kernel
theorem dX0_addSent_16 : decode cX0_addSent 16 = .ok (.iadd, 1) := by decide +kernel
theorem dX0_addSent_17 : decode cX0_addSent 17 = .ok (.putfield 28, 3) := by decide +kernel
theorem dX0_addSent_20 : decode cX0_addSent 20 = .ok (.aload_n 0, 1) := by decide +kernel
theorem dX0_addSent_21 : decode cX0_addSent 21 = .ok (.dup, 1) := by decide +kernel
theorem dX0_addSent_22 : decode cX0_addSent 22 = .ok (.getfield 37, 3) := by decide +kernel
theorem dX0_addSent_25 : decode cX0_addSent 25 = .ok (.iload_n 2, 1) := by decide +kernel
theorem dX0_addSent_26 : decode cX0_addSent 26 = .ok (.i2l, 1) := by decide +kernel
theorem dX0_addSent_27 : decode cX0_addSent 27 = .ok (.ladd, 1) := by decide +kernel
theorem dX0_addSent_28 : decode cX0_addSent 28 = .ok (.putfield 37, 3) := by decide +kernel
theorem dX0_addSent_31 : decode cX0_addSent 31 = .ok (.aload_n 0, 1) := by decide +kernel
theorem dX0_addSent_32 : decode cX0_addSent 32 = .ok (.aload_n 0, 1) := by decide +kernel
theorem dX0_addSent_33 : decode cX0_addSent 33 = .ok (.getfield 34, 3) := by decide +kernel
theorem dX0_addSent_36 : decode cX0_addSent 36 = .ok (.iload_n 2, 1) := by decide +kernel
theorem dX0_addSent_37 : decode cX0_addSent 37 = .ok (.invokestatic 41, 3) := by decide +kernel
theorem dX0_addSent_40 : decode cX0_addSent 40 = .ok (.putfield 34, 3) := by decide +kernel
theorem dX0_addSent_43 : decode cX0_addSent 43 = .ok (.return_, 1) := by decide +kernel
theorem dX0_value_0 : decode cX0_value 0 = .ok (.iload_n 1, 1) := by decide +kernel
theorem dX0_value_1 : decode cX0_value 1 = .ok (.tableswitch 69 0 5 #[39, 44, 49, 54, 59, 64], 39) := by decide +kernel
theorem dX0_value_40 : decode cX0_value 40 = .ok (.aload_n 0, 1) := by decide +kernel
theorem dX0_value_41 : decode cX0_value 41 = .ok (.getfield 7, 3) := by decide +kernel
theorem dX0_value_44 : decode cX0_value 44 = .ok (.ireturn, 1) := by decide +kernel
theorem dX0_value_45 : decode cX0_value 45 = .ok (.aload_n 0, 1) := by decide +kernel
theorem dX0_value_46 : decode cX0_value 46 = .ok (.getfield 13, 3) := by decide +kernel
theorem dX0_value_49 : decode cX0_value 49 = .ok (.ireturn, 1) := by decide +kernel
theorem dX0_value_50 : decode cX0_value 50 = .ok (.aload_n 0, 1) := by decide +kernel
theorem dX0_value_51 : decode cX0_value 51 = .ok (.getfield 16, 3) := by decide +kernel
theorem dX0_value_54 : decode cX0_value 54 = .ok (.ireturn, 1) := by decide +kernel
theorem dX0_value_55 : decode cX0_value 55 = .ok (.aload_n 0, 1) := by decide +kernel
theorem dX0_value_56 : decode cX0_value 56 = .ok (.getfield 19, 3) := by decide +kernel
theorem dX0_value_59 : decode cX0_value 59 = .ok (.ireturn, 1) := by decide +kernel
theorem dX0_value_60 : decode cX0_value 60 = .ok (.aload_n 0, 1) := by decide +kernel
theorem dX0_value_61 : decode cX0_value 61 = .ok (.getfield 22, 3) := by decide +kernel
theorem dX0_value_64 : decode cX0_value 64 = .ok (.ireturn, 1) := by decide +kernel
theorem dX0_value_65 : decode cX0_value 65 = .ok (.aload_n 0, 1) := by decide +kernel
theorem dX0_value_66 : decode cX0_value 66 = .ok (.getfield 25, 3) := by decide +kernel
theorem dX0_value_69 : decode cX0_value 69 = .ok (.ireturn, 1) := by decide +kernel
theorem dX0_value_70 : decode cX0_value 70 = .ok (.aload_n 0, 1) := by decide +kernel
theorem dX0_value_71 : decode cX0_value 71 = .ok (.getfield 28, 3) := by decide +kernel
theorem dX0_value_74 : decode cX0_value 74 = .ok (.ireturn, 1) := by decide +kernel
theorem dX1_init_0 : decode cX1_init 0 = .ok (.aload_n 0, 1) := by decide +kernel
theorem dX1_init_1 : decode cX1_init 1 = .ok (.invokespecial 3, 3) := by decide +kernel
theorem dX1_init_4 : decode cX1_init 4 = .ok (.aload_n 0, 1) := by decide +kernel
theorem dX1_init_5 : decode cX1_init 5 = .ok (.iconst 4, 1) := by decide +kernel
theorem dX1_init_6 : decode cX1_init 6 = .ok (.anewarray 9, 3) := by decide +kernel
theorem dX1_init_9 : decode cX1_init 9 = .ok (.putfield 11, 3) := by decide +kernel
theorem dX1_init_12 : decode cX1_init 12 = .ok (.iconst 0, 1) := by decide +kernel
theorem dX1_init_13 : decode cX1_init 13 = .ok (.istore_n 1, 1) := by decide +kernel
theorem dX1_init_14 : decode cX1_init 14 = .ok (.iload_n 1, 1) := by decide +kernel
theorem dX1_init_15 : decode cX1_init 15 = .ok (.aload_n 0, 1) := by decide +kernel
theorem dX1_init_16 : decode cX1_init 16 = .ok (.getfield 11, 3) := by decide +kernel
theorem dX1_init_19 : decode cX1_init 19 = .ok (.arraylength, 1) := by decide +kernel
theorem dX1_init_20 : decode cX1_init 20 = .ok (.if_icmp .ge 22, 3) := by decide +kernel
theorem dX1_init_23 : decode cX1_init 23 = .ok (.aload_n 0, 1) := by decide +kernel
theorem dX1_init_24 : decode cX1_init 24 = .ok (.getfield 11, 3) := by decide +kernel
theorem dX1_init_27 : decode cX1_init 27 = .ok (.iload_n 1, 1) := by decide +kernel
theorem dX1_init_28 : decode cX1_init 28 = .ok (.new 9, 3) := by decide +kernel
theorem dX1_init_31 : decode cX1_init 31 = .ok (.dup, 1) := by decide +kernel
theorem dX1_init_32 : decode cX1_init 32 = .ok (.invokespecial 17, 3) := by decide +kernel
theorem dX1_init_35 : decode cX1_init 35 = .ok (.aastore, 1) := by decide +kernel
theorem dX1_init_36 : decode cX1_init 36 = .ok (.iinc 1 1, 3) := by decide +kernel
theorem dX1_init_39 : decode cX1_init 39 = .ok (.goto (-25), 3) := by decide +kernel
theorem dX1_init_42 : decode cX1_init 42 = .ok (.return_, 1) := by decide +kernel
theorem dX1_save_0 : decode cX1_save 0 = .ok (.aload_n 0, 1) := by decide +kernel
theorem dX1_save_1 : decode cX1_save 1 = .ok (.getfield 18, 3) := by decide +kernel
theorem dX1_save_4 : decode cX1_save 4 = .ok (.aload_n 0, 1) := by decide +kernel
theorem dX1_save_5 : decode cX1_save 5 = .ok (.getfield 11, 3) := by decide +kernel
theorem dX1_save_8 : decode cX1_save 8 = .ok (.arraylength, 1) := by decide +kernel
theorem dX1_save_9 : decode cX1_save 9 = .ok (.if_icmp .lt 7, 3) := by decide +kernel
theorem dX1_save_12 : decode cX1_save 12 = .ok (.aload_n 0, 1) := by decide +kernel
theorem dX1_save_13 : decode cX1_save 13 = .ok (.invokevirtual 22, 3) := by decide +kernel
theorem dX1_save_16 : decode cX1_save 16 = .ok (.aload_n 0, 1) := by decide +kernel
theorem dX1_save_17 : decode cX1_save 17 = .ok (.aload_n 0, 1) := by decide +kernel
theorem dX1_save_18 : decode cX1_save 18 = .ok (.getfield 18, 3) := by decide +kernel
theorem dX1_save_21 : decode cX1_save 21 = .ok (.invokevirtual 25, 3) := by decide +kernel
theorem dX1_save_24 : decode cX1_save 24 = .ok (.astore_n 2, 1) := by decide +kernel
theorem dX1_save_25 : decode cX1_save 25 = .ok (.aload_n 2, 1) := by decide +kernel
theorem dX1_save_26 : decode cX1_save 26 = .ok (.ifnull 18, 3) := by decide +kernel
theorem dX1_save_29 : decode cX1_save 29 = .ok (.aload_n 2, 1) := by decide +kernel
theorem dX1_save_30 : decode cX1_save 30 = .ok (.aload_n 1, 1) := by decide +kernel
theorem dX1_save_31 : decode cX1_save 31 = .ok (.invokevirtual 29, 3) := by decide +kernel
theorem dX1_save_34 : decode cX1_save 34 = .ok (.aload_n 0, 1) := by decide +kernel
theorem dX1_save_35 : decode cX1_save 35 = .ok (.dup, 1) := by decide +kernel
theorem dX1_save_36 : decode cX1_save 36 = .ok (.getfield 18, 3) := by decide +kernel
theorem dX1_save_39 : decode cX1_save 39 = .ok (.iconst 1, 1) := by decide +kernel
theorem dX1_save_40 : decode cX1_save 40 = .ok (.iadd, 1) := by decide +kernel
theorem dX1_save_41 : decode cX1_save 41 = .ok (.putfield 18, 3) := by decide +kernel
theorem dX1_save_44 : decode cX1_save 44 = .ok (.return_, 1) := by decide +kernel
theorem dX1_dropOldest_0 : decode cX1_dropOldest 0 = .ok (.aload_n 0, 1) := by decide +kernel
theorem dX1_dropOldest_1 : decode cX1_dropOldest 1 = .ok (.iconst 0, 1) := by decide +kernel
theorem dX1_dropOldest_2 : decode cX1_dropOldest 2 = .ok (.invokevirtual 25, 3) := by decide +kernel
theorem dX1_dropOldest_5 : decode cX1_dropOldest 5 = .ok (.astore_n 1, 1) := by decide +kernel
theorem dX1_dropOldest_6 : decode cX1_dropOldest 6 = .ok (.iconst 1, 1) := by decide +kernel
theorem dX1_dropOldest_7 : decode cX1_dropOldest 7 = .ok (.istore_n 2, 1) := by decide +kernel
theorem dX1_dropOldest_8 : decode cX1_dropOldest 8 = .ok (.iload_n 2, 1) := by decide +kernel
theorem dX1_dropOldest_9 : decode cX1_dropOldest 9 = .ok (.aload_n 0, 1) := by decide +kernel
theorem dX1_dropOldest_10 : decode cX1_dropOldest 10 = .ok (.getfield 11, 3) := by decide +kernel
theorem dX1_dropOldest_13 : decode cX1_dropOldest 13 = .ok (.arraylength, 1) := by decide +kernel
theorem dX1_dropOldest_14 : decode cX1_dropOldest 14 = .ok (.if_icmp .ge 23, 3) := by decide +kernel
theorem dX1_dropOldest_17 : decode cX1_dropOldest 17 = .ok (.aload_n 0, 1) := by decide +kernel
theorem dX1_dropOldest_18 : decode cX1_dropOldest 18 = .ok (.getfield 11, 3) := by decide +kernel
theorem dX1_dropOldest_21 : decode cX1_dropOldest 21 = .ok (.iload_n 2, 1) := by decide +kernel
theorem dX1_dropOldest_22 : decode cX1_dropOldest 22 = .ok (.iconst 1, 1) := by decide +kernel
theorem dX1_dropOldest_23 : decode cX1_dropOldest 23 = .ok (.isub, 1) := by decide +kernel
theorem dX1_dropOldest_24 : decode cX1_dropOldest 24 = .ok (.aload_n 0, 1) := by decide +kernel
theorem dX1_dropOldest_25 : decode cX1_dropOldest 25 = .ok (.getfield 11, 3) := by decide +kernel
theorem dX1_dropOldest_28 : decode cX1_dropOldest 28 = .ok (.iload_n 2, 1) := by decide +kernel
theorem dX1_dropOldest_29 : decode cX1_dropOldest 29 = .ok (.aaload, 1) := by decide +kernel
theorem dX1_dropOldest_30 : decode cX1_dropOldest 30 = .ok (.aastore, 1) := by decide +kernel
theorem dX1_dropOldest_31 : decode cX1_dropOldest 31 = .ok (.iinc 2 1, 3) := by decide +kernel
theorem dX1_dropOldest_34 : decode cX1_dropOldest 34 = .ok (.goto (-26), 3) := by decide +kernel
theorem dX1_dropOldest_37 : decode cX1_dropOldest 37 = .ok (.aload_n 0, 1) := by decide +kernel
theorem dX1_dropOldest_38 : decode cX1_dropOldest 38 = .ok (.aload_n 0, 1) := by decide +kernel
theorem dX1_dropOldest_39 : decode cX1_dropOldest 39 = .ok (.getfield 11, 3) := by decide +kernel
theorem dX1_dropOldest_42 : decode cX1_dropOldest 42 = .ok (.arraylength, 1) := by decide +kernel
theorem dX1_dropOldest_43 : decode cX1_dropOldest 43 = .ok (.iconst 1, 1) := by decide +kernel
theorem dX1_dropOldest_44 : decode cX1_dropOldest 44 = .ok (.isub, 1) := by decide +kernel
theorem dX1_dropOldest_45 : decode cX1_dropOldest 45 = .ok (.putfield 18, 3) := by decide +kernel
theorem dX1_dropOldest_48 : decode cX1_dropOldest 48 = .ok (.aload_n 0, 1) := by decide +kernel
theorem dX1_dropOldest_49 : decode cX1_dropOldest 49 = .ok (.getfield 11, 3) := by decide +kernel
theorem dX1_dropOldest_52 : decode cX1_dropOldest 52 = .ok (.aload_n 0, 1) := by decide +kernel
theorem dX1_dropOldest_53 : decode cX1_dropOldest 53 = .ok (.getfield 18, 3) := by decide +kernel
theorem dX1_dropOldest_56 : decode cX1_dropOldest 56 = .ok (.aload_n 1, 1) := by decide +kernel
theorem dX1_dropOldest_57 : decode cX1_dropOldest 57 = .ok (.aastore, 1) := by decide +kernel
theorem dX1_dropOldest_58 : decode cX1_dropOldest 58 = .ok (.return_, 1) := by decide +kernel
theorem dX1_restore_0 : decode cX1_restore 0 = .ok (.aload_n 0, 1) := by decide +kernel
theorem dX1_restore_1 : decode cX1_restore 1 = .ok (.aload_n 0, 1) := by decide +kernel
theorem dX1_restore_2 : decode cX1_restore 2 = .ok (.getfield 18, 3) := by decide +kernel
theorem dX1_restore_5 : decode cX1_restore 5 = .ok (.iconst 1, 1) := by decide +kernel
theorem dX1_restore_6 : decode cX1_restore 6 = .ok (.isub, 1) := by decide +kernel
theorem dX1_restore_7 : decode cX1_restore 7 = .ok (.invokevirtual 25, 3) := by decide +kernel
theorem dX1_restore_10 : decode cX1_restore 10 = .ok (.astore_n 2, 1) := by decide +kernel
theorem dX1_restore_11 : decode cX1_restore 11 = .ok (.aload_n 2, 1) := by decide +kernel
theorem dX1_restore_12 : decode cX1_restore 12 = .ok (.ifnull 18, 3) := by decide +kernel
theorem dX1_restore_15 : decode cX1_restore 15 = .ok (.aload_n 1, 1) := by decide +kernel
theorem dX1_restore_16 : decode cX1_restore 16 = .ok (.aload_n 2, 1) := by decide +kernel
theorem dX1_restore_17 : decode cX1_restore 17 = .ok (.invokevirtual 29, 3) := by decide +kernel
theorem dX1_restore_20 : decode cX1_restore 20 = .ok (.aload_n 0, 1) := by decide +kernel
theorem dX1_restore_21 : decode cX1_restore 21 = .ok (.dup, 1) := by decide +kernel
theorem dX1_restore_22 : decode cX1_restore 22 = .ok (.getfield 18, 3) := by decide +kernel
theorem dX1_restore_25 : decode cX1_restore 25 = .ok (.iconst 1, 1) := by decide +kernel
theorem dX1_restore_26 : decode cX1_restore 26 = .ok (.isub, 1) := by decide +kernel
theorem dX1_restore_27 : decode cX1_restore 27 = .ok (.putfield 18, 3) := by decide +kernel
theorem dX1_restore_30 : decode cX1_restore 30 = .ok (.return_, 1) := by decide +kernel
theorem dX1_stateAt_0 : decode cX1_stateAt 0 = .ok (.iload_n 1, 1) := by decide +kernel
theorem dX1_stateAt_1 : decode cX1_stateAt 1 = .ok (.ifCond .lt 21, 3) := by decide +kernel
theorem dX1_stateAt_4 : decode cX1_stateAt 4 = .ok (.iload_n 1, 1) := by decide +kernel
theorem dX1_stateAt_5 : decode cX1_stateAt 5 = .ok (.aload_n 0, 1) := by decide +kernel
theorem dX1_stateAt_6 : decode cX1_stateAt 6 = .ok (.getfield 11, 3) := by decide +kernel
theorem dX1_stateAt_9 : decode cX1_stateAt 9 = .ok (.arraylength, 1) := by decide +kernel
theorem dX1_stateAt_10 : decode cX1_stateAt 10 = .ok (.if_icmp .ge 12, 3) := by decide +kernel
theorem dX1_stateAt_13 : decode cX1_stateAt 13 = .ok (.aload_n 0, 1) := by decide +kernel
theorem dX1_stateAt_14 : decode cX1_stateAt 14 = .ok (.getfield 11, 3) := by decide +kernel
theorem dX1_stateAt_17 : decode cX1_stateAt 17 = .ok (.iload_n 1, 1) := by decide +kernel
theorem dX1_stateAt_18 : decode cX1_stateAt 18 = .ok (.aaload, 1) := by decide +kernel
theorem dX1_stateAt_19 : decode cX1_stateAt 19 = .ok (.goto 4, 3) := by decide +kernel
theorem dX1_stateAt_22 : decode cX1_stateAt 22 = .ok (.aconst_null, 1) := by decide +kernel
theorem dX1_stateAt_23 : decode cX1_stateAt 23 = .ok (.areturn, 1) := by decide +kernel
theorem dX2_init_0 : decode cX2_init 0 = .ok (.aload_n 0, 1) := by decide +kernel
theorem dX2_init_1 : decode cX2_init 1 = .ok (.invokespecial 3, 3) := by decide +kernel
theorem dX2_init_4 : decode cX2_init 4 = .ok (.aload_n 0, 1) := by decide +kernel
theorem dX2_init_5 : decode cX2_init 5 = .ok (.bipush 8, 2) := by decide +kernel
theorem dX2_init_7 : decode cX2_init 7 = .ok (.anewarray 9, 3) := by decide +kernel
theorem dX2_init_10 : decode cX2_init 10 = .ok (.putfield 11, 3) := by decide +kernel
theorem dX2_init_13 : decode cX2_init 13 = .ok (.aload_n 0, 1) := by decide +kernel
theorem dX2_init_14 : decode cX2_init 14 = .ok (.new 17, 3) := by decide +kernel
theorem dX2_init_17 : decode cX2_init 17 = .ok (.dup, 1) := by decide +kernel
theorem dX2_init_18 : decode cX2_init 18 = .ok (.invokespecial 19, 3) := by decide +kernel
theorem dX2_init_21 : decode cX2_init 21 = .ok (.putfield 20, 3) := by decide +kernel
theorem dX2_init_24 : decode cX2_init 24 = .ok (.aload_n 0, 1) := by decide +kernel
theorem dX2_init_25 : decode cX2_init 25 = .ok (.new 24, 3) := by decide +kernel
theorem dX2_init_28 : decode cX2_init 28 = .ok (.dup, 1) := by decide +kernel
theorem dX2_init_29 : decode cX2_init 29 = .ok (.invokespecial 26, 3) := by decide +kernel
theorem dX2_init_32 : decode cX2_init 32 = .ok (.putfield 27, 3) := by decide +kernel
theorem dX2_init_35 : decode cX2_init 35 = .ok (.aload_n 0, 1) := by decide +kernel
theorem dX2_init_36 : decode cX2_init 36 = .ok (.new 31, 3) := by decide +kernel
theorem dX2_init_39 : decode cX2_init 39 = .ok (.dup, 1) := by decide +kernel
theorem dX2_init_40 : decode cX2_init 40 = .ok (.invokespecial 33, 3) := by decide +kernel
theorem dX2_init_43 : decode cX2_init 43 = .ok (.putfield 34, 3) := by decide +kernel
theorem dX2_init_46 : decode cX2_init 46 = .ok (.aload_n 0, 1) := by decide +kernel
theorem dX2_init_47 : decode cX2_init 47 = .ok (.new 38, 3) := by decide +kernel
theorem dX2_init_50 : decode cX2_init 50 = .ok (.dup, 1) := by decide +kernel
theorem dX2_init_51 : decode cX2_init 51 = .ok (.bipush 40, 2) := by decide +kernel
theorem dX2_init_53 : decode cX2_init 53 = .ok (.iconst 4, 1) := by decide +kernel
theorem dX2_init_54 : decode cX2_init 54 = .ok (.invokespecial 40, 3) := by decide +kernel
theorem dX2_init_57 : decode cX2_init 57 = .ok (.putfield 43, 3) := by decide +kernel
theorem dX2_init_60 : decode cX2_init 60 = .ok (.aload_n 0, 1) := by decide +kernel
theorem dX2_init_61 : decode cX2_init 61 = .ok (.bipush 60, 2) := by decide +kernel
theorem dX2_init_63 : decode cX2_init 63 = .ok (.putfield 47, 3) := by decide +kernel
theorem dX2_init_66 : decode cX2_init 66 = .ok (.aload_n 0, 1) := by decide +kernel
theorem dX2_init_67 : decode cX2_init 67 = .ok (.iconst 4, 1) := by decide +kernel
theorem dX2_init_68 : decode cX2_init 68 = .ok (.putfield 51, 3) := by decide +kernel
theorem dX2_init_71 : decode cX2_init 71 = .ok (.aload_n 0, 1) := by decide +kernel
theorem dX2_init_72 : decode cX2_init 72 = .ok (.iconst 3, 1) := by decide +kernel
theorem dX2_init_73 : decode cX2_init 73 = .ok (.putfield 54, 3) := by decide +kernel
theorem dX2_init_76 : decode cX2_init 76 = .ok (.aload_n 0, 1) := by decide +kernel
theorem dX2_init_77 : decode cX2_init 77 = .ok (.iconst (-1), 1) := by decide +kernel
theorem dX2_init_78 : decode cX2_init 78 = .ok (.putfield 57, 3) := by decide +kernel
theorem dX2_init_81 : decode cX2_init 81 = .ok (.iconst 0, 1) := by decide +kernel
theorem dX2_init_82 : decode cX2_init 82 = .ok (.istore_n 1, 1) := by decide +kernel
theorem dX2_init_83 : decode cX2_init 83 = .ok (.iload_n 1, 1) := by decide +kernel
theorem dX2_init_84 : decode cX2_init 84 = .ok (.aload_n 0, 1) := by decide +kernel
theorem dX2_init_85 : decode cX2_init 85 = .ok (.getfield 11, 3) := by decide +kernel
theorem dX2_init_88 : decode cX2_init 88 = .ok (.arraylength, 1) := by decide +kernel
theorem dX2_init_89 : decode cX2_init 89 = .ok (.if_icmp .ge 22, 3) := by decide +kernel
theorem dX2_init_92 : decode cX2_init 92 = .ok (.aload_n 0, 1) := by decide +kernel
theorem dX2_init_93 : decode cX2_init 93 = .ok (.getfield 11, 3) := by decide +kernel
theorem dX2_init_96 : decode cX2_init 96 = .ok (.iload_n 1, 1) := by decide +kernel
theorem dX2_init_97 : decode cX2_init 97 = .ok (.new 9, 3) := by decide +kernel
theorem dX2_init_100 : decode cX2_init 100 = .ok (.dup, 1) := by decide +kernel
theorem dX2_init_101 : decode cX2_init 101 = .ok (.invokespecial 60, 3) := by decide +kernel
theorem dX2_init_104 : decode cX2_init 104 = .ok (.aastore, 1) := by decide +kernel
theorem dX2_init_105 : decode cX2_init 105 = .ok (.iinc 1 1, 3) := by decide +kernel
theorem dX2_init_108 : decode cX2_init 108 = .ok (.goto (-25), 3) := by decide +kernel
theorem dX2_init_111 : decode cX2_init 111 = .ok (.return_, 1) := by decide +kernel
theorem dX2_clear_0 : decode cX2_clear 0 = .ok (.aload_n 0, 1) := by decide +kernel
theorem dX2_clear_1 : decode cX2_clear 1 = .ok (.iconst 0, 1) := by decide +kernel
theorem dX2_clear_2 : decode cX2_clear 2 = .ok (.putfield 61, 3) := by decide +kernel
theorem dX2_clear_5 : decode cX2_clear 5 = .ok (.aload_n 0, 1) := by decide +kernel
theorem dX2_clear_6 : decode cX2_clear 6 = .ok (.getfield 20, 3) := by decide +kernel
theorem dX2_clear_9 : decode cX2_clear 9 = .ok (.invokevirtual 64, 3) := by decide +kernel
theorem dX2_clear_12 : decode cX2_clear 12 = .ok (.aload_n 0, 1) := by decide +kernel
theorem dX2_clear_13 : decode cX2_clear 13 = .ok (.getfield 27, 3) := by decide +kernel
theorem dX2_clear_16 : decode cX2_clear 16 = .ok (.invokevirtual 67, 3) := by decide +kernel
theorem dX2_clear_19 : decode cX2_clear 19 = .ok (.aload_n 0, 1) := by decide +kernel
theorem dX2_clear_20 : decode cX2_clear 20 = .ok (.getfield 34, 3) := by decide +kernel
theorem dX2_clear_23 : decode cX2_clear 23 = .ok (.invokevirtual 68, 3) := by decide +kernel
theorem dX2_clear_26 : decode cX2_clear 26 = .ok (.aload_n 0, 1) := by decide +kernel
theorem dX2_clear_27 : decode cX2_clear 27 = .ok (.iconst 0, 1) := by decide +kernel
theorem dX2_clear_28 : decode cX2_clear 28 = .ok (.putfield 69, 3) := by decide +kernel
theorem dX2_clear_31 : decode cX2_clear 31 = .ok (.aload_n 0, 1) := by decide +kernel
theorem dX2_clear_32 : decode cX2_clear 32 = .ok (.iconst (-1), 1) := by decide +kernel
theorem dX2_clear_33 : decode cX2_clear 33 = .ok (.putfield 57, 3) := by decide +kernel
theorem dX2_clear_36 : decode cX2_clear 36 = .ok (.return_, 1) := by decide +kernel
theorem dX2_takeTimes_0 : decode cX2_takeTimes 0 = .ok (.aload_n 0, 1) := by decide +kernel
theorem dX2_takeTimes_1 : decode cX2_takeTimes 1 = .ok (.aload_n 1, 1) := by decide +kernel
theorem dX2_takeTimes_2 : decode cX2_takeTimes 2 = .ok (.getfield 47, 3) := by decide +kernel
theorem dX2_takeTimes_5 : decode cX2_takeTimes 5 = .ok (.putfield 47, 3) := by decide +kernel
theorem dX2_takeTimes_8 : decode cX2_takeTimes 8 = .ok (.aload_n 0, 1) := by decide +kernel
theorem dX2_takeTimes_9 : decode cX2_takeTimes 9 = .ok (.aload_n 1, 1) := by decide +kernel
theorem dX2_takeTimes_10 : decode cX2_takeTimes 10 = .ok (.getfield 51, 3) := by decide +kernel
theorem dX2_takeTimes_13 : decode cX2_takeTimes 13 = .ok (.putfield 51, 3) := by decide +kernel
theorem dX2_takeTimes_16 : decode cX2_takeTimes 16 = .ok (.aload_n 0, 1) := by decide +kernel
theorem dX2_takeTimes_17 : decode cX2_takeTimes 17 = .ok (.aload_n 1, 1) := by decide +kernel
theorem dX2_takeTimes_18 : decode cX2_takeTimes 18 = .ok (.getfield 54, 3) := by decide +kernel
theorem dX2_takeTimes_21 : decode cX2_takeTimes 21 = .ok (.putfield 54, 3) := by decide +kernel
theorem dX2_takeTimes_24 : decode cX2_takeTimes 24 = .ok (.return_, 1) := by decide +kernel
theorem dX2_copyFrom_0 : decode cX2_copyFrom 0 = .ok (.aload_n 0, 1) := by decide +kernel
theorem dX2_copyFrom_1 : decode cX2_copyFrom 1 = .ok (.aload_n 1, 1) := by decide +kernel
theorem dX2_copyFrom_2 : decode cX2_copyFrom 2 = .ok (.invokevirtual 72, 3) := by decide +kernel
theorem dX2_copyFrom_5 : decode cX2_copyFrom 5 = .ok (.aload_n 0, 1) := by decide +kernel
theorem dX2_copyFrom_6 : decode cX2_copyFrom 6 = .ok (.aload_n 1, 1) := by decide +kernel
theorem dX2_copyFrom_7 : decode cX2_copyFrom 7 = .ok (.getfield 69, 3) := by decide +kernel
theorem dX2_copyFrom_10 : decode cX2_copyFrom 10 = .ok (.putfield 69, 3) := by decide +kernel
theorem dX2_copyFrom_13 : decode cX2_copyFrom 13 = .ok (.aload_n 0, 1) := by decide +kernel
theorem dX2_copyFrom_14 : decode cX2_copyFrom 14 = .ok (.aload_n 1, 1) := by decide +kernel
theorem dX2_copyFrom_15 : decode cX2_copyFrom 15 = .ok (.getfield 57, 3) := by decide +kernel
theorem dX2_copyFrom_18 : decode cX2_copyFrom 18 = .ok (.putfield 57, 3) := by decide +kernel
theorem dX2_copyFrom_21 : decode cX2_copyFrom 21 = .ok (.aload_n 0, 1) := by decide +kernel
theorem dX2_copyFrom_22 : decode cX2_copyFrom 22 = .ok (.getfield 20, 3) := by decide +kernel
theorem dX2_copyFrom_25 : decode cX2_copyFrom 25 = .ok (.aload_n 1, 1) := by decide +kernel
theorem dX2_copyFrom_26 : decode cX2_copyFrom 26 = .ok (.getfield 20, 3) := by decide +kernel
theorem dX2_copyFrom_29 : decode cX2_copyFrom 29 = .ok (.invokevirtual 76, 3) := by decide +kernel
theorem dX2_copyFrom_32 : decode cX2_copyFrom 32 = .ok (.aload_n 0, 1) := by decide +kernel
theorem dX2_copyFrom_33 : decode cX2_copyFrom 33 = .ok (.getfield 27, 3) := by decide +kernel
theorem dX2_copyFrom_36 : decode cX2_copyFrom 36 = .ok (.aload_n 1, 1) := by decide +kernel
theorem dX2_copyFrom_37 : decode cX2_copyFrom 37 = .ok (.getfield 27, 3) := by decide +kernel
theorem dX2_copyFrom_40 : decode cX2_copyFrom 40 = .ok (.invokevirtual 80, 3) := by decide +kernel
theorem dX2_copyFrom_43 : decode cX2_copyFrom 43 = .ok (.aload_n 0, 1) := by decide +kernel
theorem dX2_copyFrom_44 : decode cX2_copyFrom 44 = .ok (.getfield 34, 3) := by decide +kernel
theorem dX2_copyFrom_47 : decode cX2_copyFrom 47 = .ok (.aload_n 1, 1) := by decide +kernel
theorem dX2_copyFrom_48 : decode cX2_copyFrom 48 = .ok (.getfield 34, 3) := by decide +kernel
theorem dX2_copyFrom_51 : decode cX2_copyFrom 51 = .ok (.invokevirtual 83, 3) := by decide +kernel
theorem dX2_copyFrom_54 : decode cX2_copyFrom 54 = .ok (.aload_n 0, 1) := by decide +kernel
theorem dX2_copyFrom_55 : decode cX2_copyFrom 55 = .ok (.getfield 43, 3) := by decide +kernel
theorem dX2_copyFrom_58 : decode cX2_copyFrom 58 = .ok (.aload_n 1, 1) := by decide +kernel
theorem dX2_copyFrom_59 : decode cX2_copyFrom 59 = .ok (.getfield 43, 3) := by decide +kernel
theorem dX2_copyFrom_62 : decode cX2_copyFrom 62 = .ok (.aload_n 1, 1) := by decide +kernel
theorem dX2_copyFrom_63 : decode cX2_copyFrom 63 = .ok (.invokevirtual 86, 3) := by decide +kernel
theorem dX2_copyFrom_66 : decode cX2_copyFrom 66 = .ok (.invokevirtual 90, 3) := by decide +kernel
theorem dX2_copyFrom_69 : decode cX2_copyFrom 69 = .ok (.aload_n 0, 1) := by decide +kernel
theorem dX2_copyFrom_70 : decode cX2_copyFrom 70 = .ok (.aload_n 1, 1) := by decide +kernel
theorem dX2_copyFrom_71 : decode cX2_copyFrom 71 = .ok (.invokevirtual 93, 3) := by decide +kernel
theorem dX2_copyFrom_74 : decode cX2_copyFrom 74 = .ok (.return_, 1) := by decide +kernel
theorem dX2_copyStations_0 : decode cX2_copyStations 0 = .ok (.aload_n 0, 1) := by decide +kernel
theorem dX2_copyStations_1 : decode cX2_copyStations 1 = .ok (.aload_n 1, 1) := by decide +kernel
theorem dX2_copyStations_2 : decode cX2_copyStations 2 = .ok (.getfield 61, 3) := by decide +kernel
theorem dX2_copyStations_5 : decode cX2_copyStations 5 = .ok (.putfield 61, 3) := by decide +kernel
theorem dX2_copyStations_8 : decode cX2_copyStations 8 = .ok (.iconst 0, 1) := by decide +kernel
theorem dX2_copyStations_9 : decode cX2_copyStations 9 = .ok (.istore_n 2, 1) := by decide +kernel
theorem dX2_copyStations_10 : decode cX2_copyStations 10 = .ok (.iload_n 2, 1) := by decide +kernel
theorem dX2_copyStations_11 : decode cX2_copyStations 11 = .ok (.aload_n 0, 1) := by decide +kernel
theorem dX2_copyStations_12 : decode cX2_copyStations 12 = .ok (.getfield 61, 3) := by decide +kernel
theorem dX2_copyStations_15 : decode cX2_copyStations 15 = .ok (.if_icmp .ge 37, 3) := by decide +kernel
theorem dX2_copyStations_18 : decode cX2_copyStations 18 = .ok (.aload_n 1, 1) := by decide +kernel
theorem dX2_copyStations_19 : decode cX2_copyStations 19 = .ok (.iload_n 2, 1) := by decide +kernel
theorem dX2_copyStations_20 : decode cX2_copyStations 20 = .ok (.invokevirtual 96, 3) := by decide +kernel
theorem dX2_copyStations_23 : decode cX2_copyStations 23 = .ok (.astore_n 3, 1) := by decide +kernel
theorem dX2_copyStations_24 : decode cX2_copyStations 24 = .ok (.aload_n 0, 1) := by decide +kernel
theorem dX2_copyStations_25 : decode cX2_copyStations 25 = .ok (.iload_n 2, 1) := by decide +kernel
theorem dX2_copyStations_26 : decode cX2_copyStations 26 = .ok (.invokevirtual 96, 3) := by decide +kernel
theorem dX2_copyStations_29 : decode cX2_copyStations 29 = .ok (.astore 4, 2) := by decide +kernel
theorem dX2_copyStations_31 : decode cX2_copyStations 31 = .ok (.aload_n 3, 1) := by decide +kernel
theorem dX2_copyStations_32 : decode cX2_copyStations 32 = .ok (.ifnull 14, 3) := by decide +kernel
theorem dX2_copyStations_35 : decode cX2_copyStations 35 = .ok (.aload 4, 2) := by decide +kernel
theorem dX2_copyStations_37 : decode cX2_copyStations 37 = .ok (.ifnull 9, 3) := by decide +kernel
theorem dX2_copyStations_40 : decode cX2_copyStations 40 = .ok (.aload 4, 2) := by decide +kernel
theorem dX2_copyStations_42 : decode cX2_copyStations 42 = .ok (.aload_n 3, 1) := by decide +kernel
theorem dX2_copyStations_43 : decode cX2_copyStations 43 = .ok (.invokevirtual 100, 3) := by decide +kernel
theorem dX2_copyStations_46 : decode cX2_copyStations 46 = .ok (.iinc 2 1, 3) := by decide +kernel
theorem dX2_copyStations_49 : decode cX2_copyStations 49 = .ok (.goto (-39), 3) := by decide +kernel
theorem dX2_copyStations_52 : decode cX2_copyStations 52 = .ok (.return_, 1) := by decide +kernel
theorem dX2_isFull_0 : decode cX2_isFull 0 = .ok (.aload_n 0, 1) := by decide +kernel
theorem dX2_isFull_1 : decode cX2_isFull 1 = .ok (.getfield 61, 3) := by decide +kernel
theorem dX2_isFull_4 : decode cX2_isFull 4 = .ok (.bipush 8, 2) := by decide +kernel
theorem dX2_isFull_6 : decode cX2_isFull 6 = .ok (.if_icmp .lt 7, 3) := by decide +kernel
theorem dX2_isFull_9 : decode cX2_isFull 9 = .ok (.iconst 1, 1) := by decide +kernel
theorem dX2_isFull_10 : decode cX2_isFull 10 = .ok (.goto 4, 3) := by decide +kernel
theorem dX2_isFull_13 : decode cX2_isFull 13 = .ok (.iconst 0, 1) := by decide +kernel
theorem dX2_isFull_14 : decode cX2_isFull 14 = .ok (.ireturn, 1) := by decide +kernel
theorem dX2_isTooLate_0 : decode cX2_isTooLate 0 = .ok (.aload_n 0, 1) := by decide +kernel
theorem dX2_isTooLate_1 : decode cX2_isTooLate 1 = .ok (.getfield 69, 3) := by decide +kernel
theorem dX2_isTooLate_4 : decode cX2_isTooLate 4 = .ok (.ldc 103, 2) := by decide +kernel
theorem dX2_isTooLate_6 : decode cX2_isTooLate 6 = .ok (.if_icmp .le 7, 3) := by decide +kernel
theorem dX2_isTooLate_9 : decode cX2_isTooLate 9 = .ok (.iconst 1, 1) := by decide +kernel
theorem dX2_isTooLate_10 : decode cX2_isTooLate 10 = .ok (.goto 4, 3) := by decide +kernel
theorem dX2_isTooLate_13 : decode cX2_isTooLate 13 = .ok (.iconst 0, 1) := by decide +kernel
theorem dX2_isTooLate_14 : decode cX2_isTooLate 14 = .ok (.ireturn, 1) := by decide +kernel
theorem dX2_stationIn_0 : decode cX2_stationIn 0 = .ok (.iload_n 1, 1) := by decide +kernel
theorem dX2_stationIn_1 : decode cX2_stationIn 1 = .ok (.ifCond .lt 29, 3) := by decide +kernel
theorem dX2_stationIn_4 : decode cX2_stationIn 4 = .ok (.iload_n 1, 1) := by decide +kernel
theorem dX2_stationIn_5 : decode cX2_stationIn 5 = .ok (.aload_n 0, 1) := by decide +kernel
theorem dX2_stationIn_6 : decode cX2_stationIn 6 = .ok (.getfield 61, 3) := by decide +kernel
theorem dX2_stationIn_9 : decode cX2_stationIn 9 = .ok (.if_icmp .ge 21, 3) := by decide +kernel
theorem dX2_stationIn_12 : decode cX2_stationIn 12 = .ok (.iload_n 1, 1) := by decide +kernel
theorem dX2_stationIn_13 : decode cX2_stationIn 13 = .ok (.aload_n 0, 1) := by decide +kernel
theorem dX2_stationIn_14 : decode cX2_stationIn 14 = .ok (.getfield 11, 3) := by decide +kernel
theorem dX2_stationIn_17 : decode cX2_stationIn 17 = .ok (.arraylength, 1) := by decide +kernel
theorem dX2_stationIn_18 : decode cX2_stationIn 18 = .ok (.if_icmp .ge 12, 3) := by decide +kernel
theorem dX2_stationIn_21 : decode cX2_stationIn 21 = .ok (.aload_n 0, 1) := by decide +kernel
theorem dX2_stationIn_22 : decode cX2_stationIn 22 = .ok (.getfield 11, 3) := by decide +kernel
theorem dX2_stationIn_25 : decode cX2_stationIn 25 = .ok (.iload_n 1, 1) := by decide +kernel
theorem dX2_stationIn_26 : decode cX2_stationIn 26 = .ok (.aaload, 1) := by decide +kernel
theorem dX2_stationIn_27 : decode cX2_stationIn 27 = .ok (.goto 4, 3) := by decide +kernel
theorem dX2_stationIn_30 : decode cX2_stationIn 30 = .ok (.aconst_null, 1) := by decide +kernel
theorem dX2_stationIn_31 : decode cX2_stationIn 31 = .ok (.areturn, 1) := by decide +kernel
theorem dX2_stationWith_0 : decode cX2_stationWith 0 = .ok (.iconst 0, 1) := by decide +kernel
theorem dX2_stationWith_1 : decode cX2_stationWith 1 = .ok (.istore_n 2, 1) := by decide +kernel
theorem dX2_stationWith_2 : decode cX2_stationWith 2 = .ok (.iload_n 2, 1) := by decide +kernel
theorem dX2_stationWith_3 : decode cX2_stationWith 3 = .ok (.aload_n 0, 1) := by decide +kernel
theorem dX2_stationWith_4 : decode cX2_stationWith 4 = .ok (.getfield 61, 3) := by decide +kernel
theorem dX2_stationWith_7 : decode cX2_stationWith 7 = .ok (.if_icmp .ge 39, 3) := by decide +kernel
theorem dX2_stationWith_10 : decode cX2_stationWith 10 = .ok (.iload_n 2, 1) := by decide +kernel
theorem dX2_stationWith_11 : decode cX2_stationWith 11 = .ok (.aload_n 0, 1) := by decide +kernel
theorem dX2_stationWith_12 : decode cX2_stationWith 12 = .ok (.getfield 11, 3) := by decide +kernel
theorem dX2_stationWith_15 : decode cX2_stationWith 15 = .ok (.arraylength, 1) := by decide +kernel
theorem dX2_stationWith_16 : decode cX2_stationWith 16 = .ok (.if_icmp .ge 30, 3) := by decide +kernel
theorem dX2_stationWith_19 : decode cX2_stationWith 19 = .ok (.aload_n 0, 1) := by decide +kernel
theorem dX2_stationWith_20 : decode cX2_stationWith 20 = .ok (.getfield 11, 3) := by decide +kernel
theorem dX2_stationWith_23 : decode cX2_stationWith 23 = .ok (.iload_n 2, 1) := by decide +kernel
theorem dX2_stationWith_24 : decode cX2_stationWith 24 = .ok (.aaload, 1) := by decide +kernel
theorem dX2_stationWith_25 : decode cX2_stationWith 25 = .ok (.astore_n 3, 1) := by decide +kernel
theorem dX2_stationWith_26 : decode cX2_stationWith 26 = .ok (.aload_n 3, 1) := by decide +kernel
theorem dX2_stationWith_27 : decode cX2_stationWith 27 = .ok (.ifnull 13, 3) := by decide +kernel
theorem dX2_stationWith_30 : decode cX2_stationWith 30 = .ok (.aload_n 3, 1) := by decide +kernel
theorem dX2_stationWith_31 : decode cX2_stationWith 31 = .ok (.getfield 104, 3) := by decide +kernel
theorem dX2_stationWith_34 : decode cX2_stationWith 34 = .ok (.iload_n 1, 1) := by decide +kernel
theorem dX2_stationWith_35 : decode cX2_stationWith 35 = .ok (.if_icmp .ne 5, 3) := by decide +kernel
theorem dX2_stationWith_38 : decode cX2_stationWith 38 = .ok (.aload_n 3, 1) := by decide +kernel
theorem dX2_stationWith_39 : decode cX2_stationWith 39 = .ok (.areturn, 1) := by decide +kernel
theorem dX2_stationWith_40 : decode cX2_stationWith 40 = .ok (.iinc 2 1, 3) := by decide +kernel
theorem dX2_stationWith_43 : decode cX2_stationWith 43 = .ok (.goto (-41), 3) := by decide +kernel
theorem dX2_stationWith_46 : decode cX2_stationWith 46 = .ok (.aconst_null, 1) := by decide +kernel
theorem dX2_stationWith_47 : decode cX2_stationWith 47 = .ok (.areturn, 1) := by decide +kernel
theorem dX2_placeStation_0 : decode cX2_placeStation 0 = .ok (.aload_n 0, 1) := by decide +kernel
theorem dX2_placeStation_1 : decode cX2_placeStation 1 = .ok (.getfield 61, 3) := by decide +kernel
theorem dX2_placeStation_4 : decode cX2_placeStation 4 = .ok (.istore_n 2, 1) := by decide +kernel
theorem dX2_placeStation_5 : decode cX2_placeStation 5 = .ok (.iload_n 2, 1) := by decide +kernel
theorem dX2_placeStation_6 : decode cX2_placeStation 6 = .ok (.ifCond .lt 12, 3) := by decide +kernel
theorem dX2_placeStation_9 : decode cX2_placeStation 9 = .ok (.iload_n 2, 1) := by decide +kernel
theorem dX2_placeStation_10 : decode cX2_placeStation 10 = .ok (.aload_n 0, 1) := by decide +kernel
theorem dX2_placeStation_11 : decode cX2_placeStation 11 = .ok (.getfield 11, 3) := by decide +kernel
theorem dX2_placeStation_14 : decode cX2_placeStation 14 = .ok (.arraylength, 1) := by decide +kernel
theorem dX2_placeStation_15 : decode cX2_placeStation 15 = .ok (.if_icmp .lt 5, 3) := by decide +kernel
theorem dX2_placeStation_18 : decode cX2_placeStation 18 = .ok (.aconst_null, 1) := by decide +kernel
theorem dX2_placeStation_19 : decode cX2_placeStation 19 = .ok (.areturn, 1) := by decide +kernel
theorem dX2_placeStation_20 : decode cX2_placeStation 20 = .ok (.aload_n 0, 1) := by decide +kernel
theorem dX2_placeStation_21 : decode cX2_placeStation 21 = .ok (.getfield 11, 3) := by decide +kernel
theorem dX2_placeStation_24 : decode cX2_placeStation 24 = .ok (.iload_n 2, 1) := by decide +kernel
theorem dX2_placeStation_25 : decode cX2_placeStation 25 = .ok (.aaload, 1) := by decide +kernel
theorem dX2_placeStation_26 : decode cX2_placeStation 26 = .ok (.astore_n 3, 1) := by decide +kernel
theorem dX2_placeStation_27 : decode cX2_placeStation 27 = .ok (.aload_n 3, 1) := by decide +kernel
theorem dX2_placeStation_28 : decode cX2_placeStation 28 = .ok (.ifnonnull 5, 3) := by decide +kernel
theorem dX2_placeStation_31 : decode cX2_placeStation 31 = .ok (.aconst_null, 1) := by decide +kernel
theorem dX2_placeStation_32 : decode cX2_placeStation 32 = .ok (.areturn, 1) := by decide +kernel
theorem dX2_placeStation_33 : decode cX2_placeStation 33 = .ok (.aload_n 3, 1) := by decide +kernel
theorem dX2_placeStation_34 : decode cX2_placeStation 34 = .ok (.iload_n 1, 1) := by decide +kernel
theorem dX2_placeStation_35 : decode cX2_placeStation 35 = .ok (.invokevirtual 107, 3) := by decide +kernel
theorem dX2_placeStation_38 : decode cX2_placeStation 38 = .ok (.iload_n 2, 1) := by decide +kernel
theorem dX2_placeStation_39 : decode cX2_placeStation 39 = .ok (.ifCond .le 62, 3) := by decide +kernel
theorem dX2_placeStation_42 : decode cX2_placeStation 42 = .ok (.iload_n 2, 1) := by decide +kernel
theorem dX2_placeStation_43 : decode cX2_placeStation 43 = .ok (.aload_n 0, 1) := by decide +kernel
theorem dX2_placeStation_44 : decode cX2_placeStation 44 = .ok (.getfield 11, 3) := by decide +kernel
theorem dX2_placeStation_47 : decode cX2_placeStation 47 = .ok (.arraylength, 1) := by decide +kernel
theorem dX2_placeStation_48 : decode cX2_placeStation 48 = .ok (.if_icmp .ge 53, 3) := by decide +kernel
theorem dX2_placeStation_51 : decode cX2_placeStation 51 = .ok (.aload_n 0, 1) := by decide +kernel
theorem dX2_placeStation_52 : decode cX2_placeStation 52 = .ok (.getfield 11, 3) := by decide +kernel
theorem dX2_placeStation_55 : decode cX2_placeStation 55 = .ok (.iload_n 2, 1) := by decide +kernel
theorem dX2_placeStation_56 : decode cX2_placeStation 56 = .ok (.iconst 1, 1) := by decide +kernel
theorem dX2_placeStation_57 : decode cX2_placeStation 57 = .ok (.isub, 1) := by decide +kernel
theorem dX2_placeStation_58 : decode cX2_placeStation 58 = .ok (.aaload, 1) := by decide +kernel
theorem dX2_placeStation_59 : decode cX2_placeStation 59 = .ok (.astore 4, 2) := by decide +kernel
theorem dX2_placeStation_61 : decode cX2_placeStation 61 = .ok (.aload 4, 2) := by decide +kernel
theorem dX2_placeStation_63 : decode cX2_placeStation 63 = .ok (.ifnull 38, 3) := by decide +kernel
theorem dX2_placeStation_66 : decode cX2_placeStation 66 = .ok (.aload 4, 2) := by decide +kernel
theorem dX2_placeStation_68 : decode cX2_placeStation 68 = .ok (.getfield 104, 3) := by decide +kernel
theorem dX2_placeStation_71 : decode cX2_placeStation 71 = .ok (.iload_n 1, 1) := by decide +kernel
theorem dX2_placeStation_72 : decode cX2_placeStation 72 = .ok (.if_icmp .ge 6, 3) := by decide +kernel
theorem dX2_placeStation_75 : decode cX2_placeStation 75 = .ok (.goto 26, 3) := by decide +kernel
theorem dX2_placeStation_78 : decode cX2_placeStation 78 = .ok (.aload_n 0, 1) := by decide +kernel
theorem dX2_placeStation_79 : decode cX2_placeStation 79 = .ok (.getfield 11, 3) := by decide +kernel
theorem dX2_placeStation_82 : decode cX2_placeStation 82 = .ok (.iload_n 2, 1) := by decide +kernel
theorem dX2_placeStation_83 : decode cX2_placeStation 83 = .ok (.aload 4, 2) := by decide +kernel
theorem dX2_placeStation_85 : decode cX2_placeStation 85 = .ok (.aastore, 1) := by decide +kernel
theorem dX2_placeStation_86 : decode cX2_placeStation 86 = .ok (.aload_n 0, 1) := by decide +kernel
theorem dX2_placeStation_87 : decode cX2_placeStation 87 = .ok (.getfield 11, 3) := by decide +kernel
theorem dX2_placeStation_90 : decode cX2_placeStation 90 = .ok (.iload_n 2, 1) := by decide +kernel
theorem dX2_placeStation_91 : decode cX2_placeStation 91 = .ok (.iconst 1, 1) := by decide +kernel
theorem dX2_placeStation_92 : decode cX2_placeStation 92 = .ok (.isub, 1) := by decide +kernel
theorem dX2_placeStation_93 : decode cX2_placeStation 93 = .ok (.aload_n 3, 1) := by decide +kernel
theorem dX2_placeStation_94 : decode cX2_placeStation 94 = .ok (.aastore, 1) := by decide +kernel
theorem dX2_placeStation_95 : decode cX2_placeStation 95 = .ok (.iinc 2 (-1), 3) := by decide +kernel
theorem dX2_placeStation_98 : decode cX2_placeStation 98 = .ok (.goto (-60), 3) := by decide +kernel
theorem dX2_placeStation_101 : decode cX2_placeStation 101 = .ok (.aload_n 0, 1) := by decide +kernel
theorem dX2_placeStation_102 : decode cX2_placeStation 102 = .ok (.dup, 1) := by decide +kernel
theorem dX2_placeStation_103 : decode cX2_placeStation 103 = .ok (.getfield 61, 3) := by decide +kernel
theorem dX2_placeStation_106 : decode cX2_placeStation 106 = .ok (.iconst 1, 1) := by decide +kernel
theorem dX2_placeStation_107 : decode cX2_placeStation 107 = .ok (.iadd, 1) := by decide +kernel
theorem dX2_placeStation_108 : decode cX2_placeStation 108 = .ok (.putfield 61, 3) := by decide +kernel
theorem dX2_placeStation_111 : decode cX2_placeStation 111 = .ok (.aload_n 3, 1) := by decide +kernel
theorem dX2_placeStation_112 : decode cX2_placeStation 112 = .ok (.areturn, 1) := by decide +kernel
theorem dX2_switchStation_0 : decode cX2_switchStation 0 = .ok (.aload_n 1, 1) := by decide +kernel
theorem dX2_switchStation_1 : decode cX2_switchStation 1 = .ok (.iload_n 2, 1) := by decide +kernel
theorem dX2_switchStation_2 : decode cX2_switchStation 2 = .ok (.putfield 111, 3) := by decide +kernel
theorem dX2_switchStation_5 : decode cX2_switchStation 5 = .ok (.iload_n 2, 1) := by decide +kernel
theorem dX2_switchStation_6 : decode cX2_switchStation 6 = .ok (.ifCond .eq 4, 3) := by decide +kernel
theorem dX2_switchStation_9 : decode cX2_switchStation 9 = .ok (.return_, 1) := by decide +kernel
theorem dX2_switchStation_10 : decode cX2_switchStation 10 = .ok (.aload_n 1, 1) := by decide +kernel
theorem dX2_switchStation_11 : decode cX2_switchStation 11 = .ok (.iconst 0, 1) := by decide +kernel
theorem dX2_switchStation_12 : decode cX2_switchStation 12 = .ok (.putfield 115, 3) := by decide +kernel
theorem dX2_switchStation_15 : decode cX2_switchStation 15 = .ok (.aload_n 0, 1) := by decide +kernel
theorem dX2_switchStation_16 : decode cX2_switchStation 16 = .ok (.getfield 57, 3) := by decide +kernel
theorem dX2_switchStation_19 : decode cX2_switchStation 19 = .ok (.aload_n 1, 1) := by decide +kernel
theorem dX2_switchStation_20 : decode cX2_switchStation 20 = .ok (.getfield 104, 3) := by decide +kernel
theorem dX2_switchStation_23 : decode cX2_switchStation 23 = .ok (.if_icmp .ne 8, 3) := by decide +kernel
theorem dX2_switchStation_26 : decode cX2_switchStation 26 = .ok (.aload_n 0, 1) := by decide +kernel
theorem dX2_switchStation_27 : decode cX2_switchStation 27 = .ok (.iconst (-1), 1) := by decide +kernel
theorem dX2_switchStation_28 : decode cX2_switchStation 28 = .ok (.putfield 57, 3) := by decide +kernel
theorem dX2_switchStation_31 : decode cX2_switchStation 31 = .ok (.return_, 1) := by decide +kernel
theorem dX2_ringSize_0 : decode cX2_ringSize 0 = .ok (.iconst 0, 1) := by decide +kernel
theorem dX2_ringSize_1 : decode cX2_ringSize 1 = .ok (.istore_n 1, 1) := by decide +kernel
theorem dX2_ringSize_2 : decode cX2_ringSize 2 = .ok (.iconst 0, 1) := by decide +kernel
theorem dX2_ringSize_3 : decode cX2_ringSize 3 = .ok (.istore_n 2, 1) := by decide +kernel
theorem dX2_ringSize_4 : decode cX2_ringSize 4 = .ok (.iload_n 2, 1) := by decide +kernel
theorem dX2_ringSize_5 : decode cX2_ringSize 5 = .ok (.aload_n 0, 1) := by decide +kernel
theorem dX2_ringSize_6 : decode cX2_ringSize 6 = .ok (.getfield 61, 3) := by decide +kernel
theorem dX2_ringSize_9 : decode cX2_ringSize 9 = .ok (.if_icmp .ge 29, 3) := by decide +kernel
theorem dX2_ringSize_12 : decode cX2_ringSize 12 = .ok (.aload_n 0, 1) := by decide +kernel
theorem dX2_ringSize_13 : decode cX2_ringSize 13 = .ok (.iload_n 2, 1) := by decide +kernel
theorem dX2_ringSize_14 : decode cX2_ringSize 14 = .ok (.invokevirtual 96, 3) := by decide +kernel
theorem dX2_ringSize_17 : decode cX2_ringSize 17 = .ok (.astore_n 3, 1) := by decide +kernel
theorem dX2_ringSize_18 : decode cX2_ringSize 18 = .ok (.aload_n 3, 1) := by decide +kernel
theorem dX2_ringSize_19 : decode cX2_ringSize 19 = .ok (.ifnull 13, 3) := by decide +kernel
theorem dX2_ringSize_22 : decode cX2_ringSize 22 = .ok (.aload_n 3, 1) := by decide +kernel
theorem dX2_ringSize_23 : decode cX2_ringSize 23 = .ok (.getfield 115, 3) := by decide +kernel
theorem dX2_ringSize_26 : decode cX2_ringSize 26 = .ok (.ifCond .eq 6, 3) := by decide +kernel
theorem dX2_ringSize_29 : decode cX2_ringSize 29 = .ok (.iinc 1 1, 3) := by decide +kernel
theorem dX2_ringSize_32 : decode cX2_ringSize 32 = .ok (.iinc 2 1, 3) := by decide +kernel
theorem dX2_ringSize_35 : decode cX2_ringSize 35 = .ok (.goto (-31), 3) := by decide +kernel
theorem dX2_ringSize_38 : decode cX2_ringSize 38 = .ok (.iload_n 1, 1) := by decide +kernel
theorem dX2_ringSize_39 : decode cX2_ringSize 39 = .ok (.ireturn, 1) := by decide +kernel
theorem dX2_isComplete_0 : decode cX2_isComplete 0 = .ok (.iconst 0, 1) := by decide +kernel
theorem dX2_isComplete_1 : decode cX2_isComplete 1 = .ok (.istore_n 1, 1) := by decide +kernel
theorem dX2_isComplete_2 : decode cX2_isComplete 2 = .ok (.iload_n 1, 1) := by decide +kernel
theorem dX2_isComplete_3 : decode cX2_isComplete 3 = .ok (.aload_n 0, 1) := by decide +kernel
theorem dX2_isComplete_4 : decode cX2_isComplete 4 = .ok (.getfield 61, 3) := by decide +kernel
theorem dX2_isComplete_7 : decode cX2_isComplete 7 = .ok (.if_icmp .ge 35, 3) := by decide +kernel
theorem dX2_isComplete_10 : decode cX2_isComplete 10 = .ok (.aload_n 0, 1) := by decide +kernel
theorem dX2_isComplete_11 : decode cX2_isComplete 11 = .ok (.iload_n 1, 1) := by decide +kernel
theorem dX2_isComplete_12 : decode cX2_isComplete 12 = .ok (.invokevirtual 96, 3) := by decide +kernel
theorem dX2_isComplete_15 : decode cX2_isComplete 15 = .ok (.astore_n 2, 1) := by decide +kernel
theorem dX2_isComplete_16 : decode cX2_isComplete 16 = .ok (.aload_n 2, 1) := by decide +kernel
theorem dX2_isComplete_17 : decode cX2_isComplete 17 = .ok (.ifnull 19, 3) := by decide +kernel
theorem dX2_isComplete_20 : decode cX2_isComplete 20 = .ok (.aload_n 2, 1) := by decide +kernel
theorem dX2_isComplete_21 : decode cX2_isComplete 21 = .ok (.getfield 111, 3) := by decide +kernel
theorem dX2_isComplete_24 : decode cX2_isComplete 24 = .ok (.ifCond .eq 12, 3) := by decide +kernel
theorem dX2_isComplete_27 : decode cX2_isComplete 27 = .ok (.aload_n 2, 1) := by decide +kernel
theorem dX2_isComplete_28 : decode cX2_isComplete 28 = .ok (.getfield 115, 3) := by decide +kernel
theorem dX2_isComplete_31 : decode cX2_isComplete 31 = .ok (.ifCond .ne 5, 3) := by decide +kernel
theorem dX2_isComplete_34 : decode cX2_isComplete 34 = .ok (.iconst 0, 1) := by decide +kernel
theorem dX2_isComplete_35 : decode cX2_isComplete 35 = .ok (.ireturn, 1) := by decide +kernel
theorem dX2_isComplete_36 : decode cX2_isComplete 36 = .ok (.iinc 1 1, 3) := by decide +kernel
theorem dX2_isComplete_39 : decode cX2_isComplete 39 = .ok (.goto (-37), 3) := by decide +kernel
theorem dX2_isComplete_42 : decode cX2_isComplete 42 = .ok (.iconst 1, 1) := by decide +kernel
theorem dX2_isComplete_43 : decode cX2_isComplete 43 = .ok (.ireturn, 1) := by decide +kernel
theorem dX2_isWaitedAt_0 : decode cX2_isWaitedAt 0 = .ok (.iconst 0, 1) := by decide +kernel
theorem dX2_isWaitedAt_1 : decode cX2_isWaitedAt 1 = .ok (.istore_n 1, 1) := by decide +kernel
theorem dX2_isWaitedAt_2 : decode cX2_isWaitedAt 2 = .ok (.iload_n 1, 1) := by decide +kernel
theorem dX2_isWaitedAt_3 : decode cX2_isWaitedAt 3 = .ok (.aload_n 0, 1) := by decide +kernel
theorem dX2_isWaitedAt_4 : decode cX2_isWaitedAt 4 = .ok (.getfield 61, 3) := by decide +kernel
theorem dX2_isWaitedAt_7 : decode cX2_isWaitedAt 7 = .ok (.if_icmp .ge 35, 3) := by decide +kernel
theorem dX2_isWaitedAt_10 : decode cX2_isWaitedAt 10 = .ok (.aload_n 0, 1) := by decide +kernel
theorem dX2_isWaitedAt_11 : decode cX2_isWaitedAt 11 = .ok (.iload_n 1, 1) := by decide +kernel
theorem dX2_isWaitedAt_12 : decode cX2_isWaitedAt 12 = .ok (.invokevirtual 96, 3) := by decide +kernel
theorem dX2_isWaitedAt_15 : decode cX2_isWaitedAt 15 = .ok (.astore_n 2, 1) := by decide +kernel
theorem dX2_isWaitedAt_16 : decode cX2_isWaitedAt 16 = .ok (.aload_n 2, 1) := by decide +kernel
theorem dX2_isWaitedAt_17 : decode cX2_isWaitedAt 17 = .ok (.ifnull 19, 3) := by decide +kernel
theorem dX2_isWaitedAt_20 : decode cX2_isWaitedAt 20 = .ok (.aload_n 2, 1) := by decide +kernel
theorem dX2_isWaitedAt_21 : decode cX2_isWaitedAt 21 = .ok (.getfield 111, 3) := by decide +kernel
theorem dX2_isWaitedAt_24 : decode cX2_isWaitedAt 24 = .ok (.ifCond .eq 12, 3) := by decide +kernel
theorem dX2_isWaitedAt_27 : decode cX2_isWaitedAt 27 = .ok (.aload_n 2, 1) := by decide +kernel
theorem dX2_isWaitedAt_28 : decode cX2_isWaitedAt 28 = .ok (.getfield 118, 3) := by decide +kernel
theorem dX2_isWaitedAt_31 : decode cX2_isWaitedAt 31 = .ok (.ifCond .le 5, 3) := by decide +kernel
theorem dX2_isWaitedAt_34 : decode cX2_isWaitedAt 34 = .ok (.iconst 1, 1) := by decide +kernel
theorem dX2_isWaitedAt_35 : decode cX2_isWaitedAt 35 = .ok (.ireturn, 1) := by decide +kernel
theorem dX2_isWaitedAt_36 : decode cX2_isWaitedAt 36 = .ok (.iinc 1 1, 3) := by decide +kernel
theorem dX2_isWaitedAt_39 : decode cX2_isWaitedAt 39 = .ok (.goto (-37), 3) := by decide +kernel
theorem dX2_isWaitedAt_42 : decode cX2_isWaitedAt 42 = .ok (.iconst 0, 1) := by decide +kernel
theorem dX2_isWaitedAt_43 : decode cX2_isWaitedAt 43 = .ok (.ireturn, 1) := by decide +kernel
theorem dX2_transmit_0 : decode cX2_transmit 0 = .ok (.aload_n 0, 1) := by decide +kernel
theorem dX2_transmit_1 : decode cX2_transmit 1 = .ok (.getfield 27, 3) := by decide +kernel
theorem dX2_transmit_4 : decode cX2_transmit 4 = .ok (.aload_n 0, 1) := by decide +kernel
theorem dX2_transmit_5 : decode cX2_transmit 5 = .ok (.getfield 69, 3) := by decide +kernel
theorem dX2_transmit_8 : decode cX2_transmit 8 = .ok (.aload_n 0, 1) := by decide +kernel
theorem dX2_transmit_9 : decode cX2_transmit 9 = .ok (.getfield 69, 3) := by decide +kernel
theorem dX2_transmit_12 : decode cX2_transmit 12 = .ok (.iload_n 1, 1) := by decide +kernel
theorem dX2_transmit_13 : decode cX2_transmit 13 = .ok (.iadd, 1) := by decide +kernel
theorem dX2_transmit_14 : decode cX2_transmit 14 = .ok (.iconst 1, 1) := by decide +kernel
theorem dX2_transmit_15 : decode cX2_transmit 15 = .ok (.isub, 1) := by decide +kernel
theorem dX2_transmit_16 : decode cX2_transmit 16 = .ok (.invokevirtual 121, 3) := by decide +kernel
theorem dX2_transmit_19 : decode cX2_transmit 19 = .ok (.istore_n 2, 1) := by decide +kernel
theorem dX2_transmit_20 : decode cX2_transmit 20 = .ok (.aload_n 0, 1) := by decide +kernel
theorem dX2_transmit_21 : decode cX2_transmit 21 = .ok (.dup, 1) := by decide +kernel
theorem dX2_transmit_22 : decode cX2_transmit 22 = .ok (.getfield 69, 3) := by decide +kernel
theorem dX2_transmit_25 : decode cX2_transmit 25 = .ok (.iload_n 1, 1) := by decide +kernel
theorem dX2_transmit_26 : decode cX2_transmit 26 = .ok (.iadd, 1) := by decide +kernel
theorem dX2_transmit_27 : decode cX2_transmit 27 = .ok (.putfield 69, 3) := by decide +kernel
theorem dX2_transmit_30 : decode cX2_transmit 30 = .ok (.iload_n 2, 1) := by decide +kernel
theorem dX2_transmit_31 : decode cX2_transmit 31 = .ok (.ifCond .eq 16, 3) := by decide +kernel
theorem dX2_transmit_34 : decode cX2_transmit 34 = .ok (.aload_n 0, 1) := by decide +kernel
theorem dX2_transmit_35 : decode cX2_transmit 35 = .ok (.getfield 34, 3) := by decide +kernel
theorem dX2_transmit_38 : decode cX2_transmit 38 = .ok (.dup, 1) := by decide +kernel
theorem dX2_transmit_39 : decode cX2_transmit 39 = .ok (.getfield 125, 3) := by decide +kernel
theorem dX2_transmit_42 : decode cX2_transmit 42 = .ok (.iconst 1, 1) := by decide +kernel
theorem dX2_transmit_43 : decode cX2_transmit 43 = .ok (.iadd, 1) := by decide +kernel
theorem dX2_transmit_44 : decode cX2_transmit 44 = .ok (.putfield 125, 3) := by decide +kernel
theorem dX2_transmit_47 : decode cX2_transmit 47 = .ok (.iload_n 2, 1) := by decide +kernel
theorem dX2_transmit_48 : decode cX2_transmit 48 = .ok (.ifCond .ne 7, 3) := by decide +kernel
theorem dX2_transmit_51 : decode cX2_transmit 51 = .ok (.iconst 1, 1) := by decide +kernel
theorem dX2_transmit_52 : decode cX2_transmit 52 = .ok (.goto 4, 3) := by decide +kernel
theorem dX2_transmit_55 : decode cX2_transmit 55 = .ok (.iconst 0, 1) := by decide +kernel
theorem dX2_transmit_56 : decode cX2_transmit 56 = .ok (.ireturn, 1) := by decide +kernel
theorem dX2_logVisit_0 : decode cX2_logVisit 0 = .ok (.aload_n 0, 1) := by decide +kernel
theorem dX2_logVisit_1 : decode cX2_logVisit 1 = .ok (.getfield 34, 3) := by decide +kernel
theorem dX2_logVisit_4 : decode cX2_logVisit 4 = .ok (.getfield 128, 3) := by decide +kernel
theorem dX2_logVisit_7 : decode cX2_logVisit 7 = .ok (.iconst 1, 1) := by decide +kernel
theorem dX2_logVisit_8 : decode cX2_logVisit 8 = .ok (.isub, 1) := by decide +kernel
theorem dX2_logVisit_9 : decode cX2_logVisit 9 = .ok (.bipush 40, 2) := by decide +kernel
theorem dX2_logVisit_11 : decode cX2_logVisit 11 = .ok (.irem, 1) := by decide +kernel
theorem dX2_logVisit_12 : decode cX2_logVisit 12 = .ok (.istore 5, 2) := by decide +kernel
theorem dX2_logVisit_14 : decode cX2_logVisit 14 = .ok (.aload_n 0, 1) := by decide +kernel
theorem dX2_logVisit_15 : decode cX2_logVisit 15 = .ok (.getfield 43, 3) := by decide +kernel
theorem dX2_logVisit_18 : decode cX2_logVisit 18 = .ok (.iload 5, 2) := by decide +kernel
theorem dX2_logVisit_20 : decode cX2_logVisit 20 = .ok (.iconst 0, 1) := by decide +kernel
theorem dX2_logVisit_21 : decode cX2_logVisit 21 = .ok (.iload_n 1, 1) := by decide +kernel
theorem dX2_logVisit_22 : decode cX2_logVisit 22 = .ok (.invokevirtual 131, 3) := by decide +kernel
theorem dX2_logVisit_25 : decode cX2_logVisit 25 = .ok (.aload_n 0, 1) := by decide +kernel
theorem dX2_logVisit_26 : decode cX2_logVisit 26 = .ok (.getfield 43, 3) := by decide +kernel
theorem dX2_logVisit_29 : decode cX2_logVisit 29 = .ok (.iload 5, 2) := by decide +kernel
theorem dX2_logVisit_31 : decode cX2_logVisit 31 = .ok (.iconst 1, 1) := by decide +kernel
theorem dX2_logVisit_32 : decode cX2_logVisit 32 = .ok (.iload_n 2, 1) := by decide +kernel
theorem dX2_logVisit_33 : decode cX2_logVisit 33 = .ok (.invokevirtual 131, 3) := by decide +kernel
theorem dX2_logVisit_36 : decode cX2_logVisit 36 = .ok (.aload_n 0, 1) := by decide +kernel
theorem dX2_logVisit_37 : decode cX2_logVisit 37 = .ok (.getfield 43, 3) := by decide +kernel
theorem dX2_logVisit_40 : decode cX2_logVisit 40 = .ok (.iload 5, 2) := by decide +kernel
theorem dX2_logVisit_42 : decode cX2_logVisit 42 = .ok (.iconst 2, 1) := by decide +kernel
theorem dX2_logVisit_43 : decode cX2_logVisit 43 = .ok (.iload_n 3, 1) := by decide +kernel
theorem dX2_logVisit_44 : decode cX2_logVisit 44 = .ok (.invokevirtual 131, 3) := by decide +kernel
theorem dX2_logVisit_47 : decode cX2_logVisit 47 = .ok (.aload_n 0, 1) := by decide +kernel
theorem dX2_logVisit_48 : decode cX2_logVisit 48 = .ok (.getfield 43, 3) := by decide +kernel
theorem dX2_logVisit_51 : decode cX2_logVisit 51 = .ok (.iload 5, 2) := by decide +kernel
theorem dX2_logVisit_53 : decode cX2_logVisit 53 = .ok (.iconst 3, 1) := by decide +kernel
theorem dX2_logVisit_54 : decode cX2_logVisit 54 = .ok (.iload 4, 2) := by decide +kernel
theorem dX2_logVisit_56 : decode cX2_logVisit 56 = .ok (.invokevirtual 131, 3) := by decide +kernel
theorem dX2_logVisit_59 : decode cX2_logVisit 59 = .ok (.return_, 1) := by decide +kernel
theorem dX2_logLength_0 : decode cX2_logLength 0 = .ok (.aload_n 0, 1) := by decide +kernel
theorem dX2_logLength_1 : decode cX2_logLength 1 = .ok (.getfield 34, 3) := by decide +kernel
theorem dX2_logLength_4 : decode cX2_logLength 4 = .ok (.getfield 128, 3) := by decide +kernel
theorem dX2_logLength_7 : decode cX2_logLength 7 = .ok (.bipush 40, 2) := by decide +kernel
theorem dX2_logLength_9 : decode cX2_logLength 9 = .ok (.invokestatic 135, 3) := by decide +kernel
theorem dX2_logLength_12 : decode cX2_logLength 12 = .ok (.ireturn, 1) := by decide +kernel
theorem dX2_logValue_0 : decode cX2_logValue 0 = .ok (.aload_n 0, 1) := by decide +kernel
theorem dX2_logValue_1 : decode cX2_logValue 1 = .ok (.getfield 34, 3) := by decide +kernel
theorem dX2_logValue_4 : decode cX2_logValue 4 = .ok (.getfield 128, 3) := by decide +kernel
theorem dX2_logValue_7 : decode cX2_logValue 7 = .ok (.aload_n 0, 1) := by decide +kernel
theorem dX2_logValue_8 : decode cX2_logValue 8 = .ok (.invokevirtual 86, 3) := by decide +kernel
theorem dX2_logValue_11 : decode cX2_logValue 11 = .ok (.isub, 1) := by decide +kernel
theorem dX2_logValue_12 : decode cX2_logValue 12 = .ok (.istore_n 3, 1) := by decide +kernel
theorem dX2_logValue_13 : decode cX2_logValue 13 = .ok (.aload_n 0, 1) := by decide +kernel
theorem dX2_logValue_14 : decode cX2_logValue 14 = .ok (.getfield 43, 3) := by decide +kernel
theorem dX2_logValue_17 : decode cX2_logValue 17 = .ok (.iload_n 3, 1) := by decide +kernel
theorem dX2_logValue_18 : decode cX2_logValue 18 = .ok (.iload_n 1, 1) := by decide +kernel
theorem dX2_logValue_19 : decode cX2_logValue 19 = .ok (.iadd, 1) := by decide +kernel
theorem dX2_logValue_20 : decode cX2_logValue 20 = .ok (.bipush 40, 2) := by decide +kernel
theorem dX2_logValue_22 : decode cX2_logValue 22 = .ok (.irem, 1) := by decide +kernel
theorem dX2_logValue_23 : decode cX2_logValue 23 = .ok (.iload_n 2, 1) := by decide +kernel
theorem dX2_logValue_24 : decode cX2_logValue 24 = .ok (.invokevirtual 141, 3) := by decide +kernel
theorem dX2_logValue_27 : decode cX2_logValue 27 = .ok (.ireturn, 1) := by decide +kernel
theorem dX2_settingValue_0 : decode cX2_settingValue 0 = .ok (.iload_n 1, 1) := by decide +kernel
theorem dX2_settingValue_1 : decode cX2_settingValue 1 = .ok (.tableswitch 90 0 7 #[47, 52, 57, 62, 67, 72, 80, 85], 47) := by decide +kernel
theorem dX2_settingValue_48 : decode cX2_settingValue 48 = .ok (.aload_n 0, 1) := by decide +kernel
theorem dX2_settingValue_49 : decode cX2_settingValue 49 = .ok (.getfield 47, 3) := by decide +kernel
theorem dX2_settingValue_52 : decode cX2_settingValue 52 = .ok (.ireturn, 1) := by decide +kernel
theorem dX2_settingValue_53 : decode cX2_settingValue 53 = .ok (.aload_n 0, 1) := by decide +kernel
theorem dX2_settingValue_54 : decode cX2_settingValue 54 = .ok (.getfield 51, 3) := by decide +kernel
theorem dX2_settingValue_57 : decode cX2_settingValue 57 = .ok (.ireturn, 1) := by decide +kernel
theorem dX2_settingValue_58 : decode cX2_settingValue 58 = .ok (.aload_n 0, 1) := by decide +kernel
theorem dX2_settingValue_59 : decode cX2_settingValue 59 = .ok (.getfield 54, 3) := by decide +kernel
theorem dX2_settingValue_62 : decode cX2_settingValue 62 = .ok (.ireturn, 1) := by decide +kernel
theorem dX2_settingValue_63 : decode cX2_settingValue 63 = .ok (.aload_n 0, 1) := by decide +kernel
theorem dX2_settingValue_64 : decode cX2_settingValue 64 = .ok (.getfield 61, 3) := by decide +kernel
theorem dX2_settingValue_67 : decode cX2_settingValue 67 = .ok (.ireturn, 1) := by decide +kernel
theorem dX2_settingValue_68 : decode cX2_settingValue 68 = .ok (.aload_n 0, 1) := by decide +kernel
theorem dX2_settingValue_69 : decode cX2_settingValue 69 = .ok (.invokevirtual 144, 3) := by decide +kernel
theorem dX2_settingValue_72 : decode cX2_settingValue 72 = .ok (.ireturn, 1) := by decide +kernel
theorem dX2_settingValue_73 : decode cX2_settingValue 73 = .ok (.aload_n 0, 1) := by decide +kernel
theorem dX2_settingValue_74 : decode cX2_settingValue 74 = .ok (.getfield 27, 3) := by decide +kernel
theorem dX2_settingValue_77 : decode cX2_settingValue 77 = .ok (.getfield 147, 3) := by decide +kernel
theorem dX2_settingValue_80 : decode cX2_settingValue 80 = .ok (.ireturn, 1) := by decide +kernel
theorem dX2_settingValue_81 : decode cX2_settingValue 81 = .ok (.aload_n 0, 1) := by decide +kernel
theorem dX2_settingValue_82 : decode cX2_settingValue 82 = .ok (.getfield 69, 3) := by decide +kernel
theorem dX2_settingValue_85 : decode cX2_settingValue 85 = .ok (.ireturn, 1) := by decide +kernel
theorem dX2_settingValue_86 : decode cX2_settingValue 86 = .ok (.aload_n 0, 1) := by decide +kernel
theorem dX2_settingValue_87 : decode cX2_settingValue 87 = .ok (.getfield 57, 3) := by decide +kernel
theorem dX2_settingValue_90 : decode cX2_settingValue 90 = .ok (.ireturn, 1) := by decide +kernel
theorem dX2_settingValue_91 : decode cX2_settingValue 91 = .ok (.aload_n 0, 1) := by decide +kernel
theorem dX2_settingValue_92 : decode cX2_settingValue 92 = .ok (.getfield 20, 3) := by decide +kernel
theorem dX2_settingValue_95 : decode cX2_settingValue 95 = .ok (.invokevirtual 150, 3) := by decide +kernel
theorem dX2_settingValue_98 : decode cX2_settingValue 98 = .ok (.ireturn, 1) := by decide +kernel
theorem dX2_hashed_0 : decode cX2_hashed 0 = .ok (.lload_n 1, 1) := by decide +kernel
theorem dX2_hashed_1 : decode cX2_hashed 1 = .ok (.lstore_n 3, 1) := by decide +kernel
theorem dX2_hashed_2 : decode cX2_hashed 2 = .ok (.iconst 0, 1) := by decide +kernel
theorem dX2_hashed_3 : decode cX2_hashed 3 = .ok (.istore 5, 2) := by decide +kernel
theorem dX2_hashed_5 : decode cX2_hashed 5 = .ok (.iload 5, 2) := by decide +kernel
theorem dX2_hashed_7 : decode cX2_hashed 7 = .ok (.bipush 8, 2) := by decide +kernel
theorem dX2_hashed_9 : decode cX2_hashed 9 = .ok (.if_icmp .gt 21, 3) := by decide +kernel
theorem dX2_hashed_12 : decode cX2_hashed 12 = .ok (.lload_n 3, 1) := by decide +kernel
theorem dX2_hashed_13 : decode cX2_hashed 13 = .ok (.aload_n 0, 1) := by decide +kernel
theorem dX2_hashed_14 : decode cX2_hashed 14 = .ok (.iload 5, 2) := by decide +kernel
theorem dX2_hashed_16 : decode cX2_hashed 16 = .ok (.invokevirtual 152, 3) := by decide +kernel
theorem dX2_hashed_19 : decode cX2_hashed 19 = .ok (.i2l, 1) := by decide +kernel
theorem dX2_hashed_20 : decode cX2_hashed 20 = .ok (.invokestatic 156, 3) := by decide +kernel
theorem dX2_hashed_23 : decode cX2_hashed 23 = .ok (.lstore_n 3, 1) := by decide +kernel
theorem dX2_hashed_24 : decode cX2_hashed 24 = .ok (.iinc 5 1, 3) := by decide +kernel
theorem dX2_hashed_27 : decode cX2_hashed 27 = .ok (.goto (-22), 3) := by decide +kernel
theorem dX2_hashed_30 : decode cX2_hashed 30 = .ok (.iconst 0, 1) := by decide +kernel
theorem dX2_hashed_31 : decode cX2_hashed 31 = .ok (.istore 5, 2) := by decide +kernel
theorem dX2_hashed_33 : decode cX2_hashed 33 = .ok (.iload 5, 2) := by decide +kernel
theorem dX2_hashed_35 : decode cX2_hashed 35 = .ok (.aload_n 0, 1) := by decide +kernel
theorem dX2_hashed_36 : decode cX2_hashed 36 = .ok (.getfield 61, 3) := by decide +kernel
theorem dX2_hashed_39 : decode cX2_hashed 39 = .ok (.if_icmp .ge 21, 3) := by decide +kernel
theorem dX2_hashed_42 : decode cX2_hashed 42 = .ok (.aload_n 0, 1) := by decide +kernel
theorem dX2_hashed_43 : decode cX2_hashed 43 = .ok (.lload_n 3, 1) := by decide +kernel
theorem dX2_hashed_44 : decode cX2_hashed 44 = .ok (.aload_n 0, 1) := by decide +kernel
theorem dX2_hashed_45 : decode cX2_hashed 45 = .ok (.iload 5, 2) := by decide +kernel
theorem dX2_hashed_47 : decode cX2_hashed 47 = .ok (.invokevirtual 96, 3) := by decide +kernel
theorem dX2_hashed_50 : decode cX2_hashed 50 = .ok (.invokevirtual 160, 3) := by decide +kernel
theorem dX2_hashed_53 : decode cX2_hashed 53 = .ok (.lstore_n 3, 1) := by decide +kernel
theorem dX2_hashed_54 : decode cX2_hashed 54 = .ok (.iinc 5 1, 3) := by decide +kernel
theorem dX2_hashed_57 : decode cX2_hashed 57 = .ok (.goto (-24), 3) := by decide +kernel
theorem dX2_hashed_60 : decode cX2_hashed 60 = .ok (.iconst 0, 1) := by decide +kernel
theorem dX2_hashed_61 : decode cX2_hashed 61 = .ok (.istore 5, 2) := by decide +kernel
theorem dX2_hashed_63 : decode cX2_hashed 63 = .ok (.iload 5, 2) := by decide +kernel
theorem dX2_hashed_65 : decode cX2_hashed 65 = .ok (.aload_n 0, 1) := by decide +kernel
theorem dX2_hashed_66 : decode cX2_hashed 66 = .ok (.getfield 20, 3) := by decide +kernel
theorem dX2_hashed_69 : decode cX2_hashed 69 = .ok (.invokevirtual 150, 3) := by decide +kernel
theorem dX2_hashed_72 : decode cX2_hashed 72 = .ok (.if_icmp .ge 41, 3) := by decide +kernel
theorem dX2_hashed_75 : decode cX2_hashed 75 = .ok (.iconst 0, 1) := by decide +kernel
theorem dX2_hashed_76 : decode cX2_hashed 76 = .ok (.istore 6, 2) := by decide +kernel
theorem dX2_hashed_78 : decode cX2_hashed 78 = .ok (.iload 6, 2) := by decide +kernel
theorem dX2_hashed_80 : decode cX2_hashed 80 = .ok (.iconst 4, 1) := by decide +kernel
theorem dX2_hashed_81 : decode cX2_hashed 81 = .ok (.if_icmp .gt 26, 3) := by decide +kernel
theorem dX2_hashed_84 : decode cX2_hashed 84 = .ok (.lload_n 3, 1) := by decide +kernel
theorem dX2_hashed_85 : decode cX2_hashed 85 = .ok (.aload_n 0, 1) := by decide +kernel
theorem dX2_hashed_86 : decode cX2_hashed 86 = .ok (.getfield 20, 3) := by decide +kernel
theorem dX2_hashed_89 : decode cX2_hashed 89 = .ok (.iload 5, 2) := by decide +kernel
theorem dX2_hashed_91 : decode cX2_hashed 91 = .ok (.iload 6, 2) := by decide +kernel
theorem dX2_hashed_93 : decode cX2_hashed 93 = .ok (.invokevirtual 164, 3) := by decide +kernel
theorem dX2_hashed_96 : decode cX2_hashed 96 = .ok (.i2l, 1) := by decide +kernel
theorem dX2_hashed_97 : decode cX2_hashed 97 = .ok (.invokestatic 156, 3) := by decide +kernel
theorem dX2_hashed_100 : decode cX2_hashed 100 = .ok (.lstore_n 3, 1) := by decide +kernel
theorem dX2_hashed_101 : decode cX2_hashed 101 = .ok (.iinc 6 1, 3) := by decide +kernel
theorem dX2_hashed_104 : decode cX2_hashed 104 = .ok (.goto (-26), 3) := by decide +kernel
theorem dX2_hashed_107 : decode cX2_hashed 107 = .ok (.iinc 5 1, 3) := by decide +kernel
theorem dX2_hashed_110 : decode cX2_hashed 110 = .ok (.goto (-47), 3) := by decide +kernel
theorem dX2_hashed_113 : decode cX2_hashed 113 = .ok (.iconst 0, 1) := by decide +kernel
theorem dX2_hashed_114 : decode cX2_hashed 114 = .ok (.istore 5, 2) := by decide +kernel
theorem dX2_hashed_116 : decode cX2_hashed 116 = .ok (.iload 5, 2) := by decide +kernel
theorem dX2_hashed_118 : decode cX2_hashed 118 = .ok (.bipush 6, 2) := by decide +kernel
theorem dX2_hashed_120 : decode cX2_hashed 120 = .ok (.if_icmp .gt 24, 3) := by decide +kernel
theorem dX2_hashed_123 : decode cX2_hashed 123 = .ok (.lload_n 3, 1) := by decide +kernel
theorem dX2_hashed_124 : decode cX2_hashed 124 = .ok (.aload_n 0, 1) := by decide +kernel
theorem dX2_hashed_125 : decode cX2_hashed 125 = .ok (.getfield 34, 3) := by decide +kernel
theorem dX2_hashed_128 : decode cX2_hashed 128 = .ok (.iload 5, 2) := by decide +kernel
theorem dX2_hashed_130 : decode cX2_hashed 130 = .ok (.invokevirtual 167, 3) := by decide +kernel
theorem dX2_hashed_133 : decode cX2_hashed 133 = .ok (.i2l, 1) := by decide +kernel
theorem dX2_hashed_134 : decode cX2_hashed 134 = .ok (.invokestatic 156, 3) := by decide +kernel
theorem dX2_hashed_137 : decode cX2_hashed 137 = .ok (.lstore_n 3, 1) := by decide +kernel
theorem dX2_hashed_138 : decode cX2_hashed 138 = .ok (.iinc 5 1, 3) := by decide +kernel
theorem dX2_hashed_141 : decode cX2_hashed 141 = .ok (.goto (-25), 3) := by decide +kernel
theorem dX2_hashed_144 : decode cX2_hashed 144 = .ok (.lload_n 3, 1) := by decide +kernel
theorem dX2_hashed_145 : decode cX2_hashed 145 = .ok (.aload_n 0, 1) := by decide +kernel
theorem dX2_hashed_146 : decode cX2_hashed 146 = .ok (.getfield 34, 3) := by decide +kernel
theorem dX2_hashed_149 : decode cX2_hashed 149 = .ok (.getfield 169, 3) := by decide +kernel
theorem dX2_hashed_152 : decode cX2_hashed 152 = .ok (.i2l, 1) := by decide +kernel
theorem dX2_hashed_153 : decode cX2_hashed 153 = .ok (.invokestatic 156, 3) := by decide +kernel
theorem dX2_hashed_156 : decode cX2_hashed 156 = .ok (.lstore_n 3, 1) := by decide +kernel
theorem dX2_hashed_157 : decode cX2_hashed 157 = .ok (.aload_n 0, 1) := by decide +kernel
theorem dX2_hashed_158 : decode cX2_hashed 158 = .ok (.lload_n 3, 1) := by decide +kernel
theorem dX2_hashed_159 : decode cX2_hashed 159 = .ok (.invokevirtual 172, 3) := by decide +kernel
theorem dX2_hashed_162 : decode cX2_hashed 162 = .ok (.lreturn, 1) := by decide +kernel
theorem dX2_withStation_0 : decode cX2_withStation 0 = .ok (.aload_n 3, 1) := by decide +kernel
theorem dX2_withStation_1 : decode cX2_withStation 1 = .ok (.ifnonnull 5, 3) := by decide +kernel
theorem dX2_withStation_4 : decode cX2_withStation 4 = .ok (.lload_n 1, 1) := by decide +kernel
theorem dX2_withStation_5 : decode cX2_withStation 5 = .ok (.lreturn, 1) := by decide +kernel
theorem dX2_withStation_6 : decode cX2_withStation 6 = .ok (.lload_n 1, 1) := by decide +kernel
theorem dX2_withStation_7 : decode cX2_withStation 7 = .ok (.aload_n 3, 1) := by decide +kernel
theorem dX2_withStation_8 : decode cX2_withStation 8 = .ok (.getfield 104, 3) := by decide +kernel
theorem dX2_withStation_11 : decode cX2_withStation 11 = .ok (.i2l, 1) := by decide +kernel
theorem dX2_withStation_12 : decode cX2_withStation 12 = .ok (.invokestatic 156, 3) := by decide +kernel
theorem dX2_withStation_15 : decode cX2_withStation 15 = .ok (.lstore 4, 2) := by decide +kernel
theorem dX2_withStation_17 : decode cX2_withStation 17 = .ok (.iconst 0, 1) := by decide +kernel
theorem dX2_withStation_18 : decode cX2_withStation 18 = .ok (.istore 6, 2) := by decide +kernel
theorem dX2_withStation_20 : decode cX2_withStation 20 = .ok (.iload 6, 2) := by decide +kernel
theorem dX2_withStation_22 : decode cX2_withStation 22 = .ok (.bipush 6, 2) := by decide +kernel
theorem dX2_withStation_24 : decode cX2_withStation 24 = .ok (.if_icmp .gt 23, 3) := by decide +kernel
theorem dX2_withStation_27 : decode cX2_withStation 27 = .ok (.lload 4, 2) := by decide +kernel
theorem dX2_withStation_29 : decode cX2_withStation 29 = .ok (.aload_n 3, 1) := by decide +kernel
theorem dX2_withStation_30 : decode cX2_withStation 30 = .ok (.iload 6, 2) := by decide +kernel
theorem dX2_withStation_32 : decode cX2_withStation 32 = .ok (.invokevirtual 176, 3) := by decide +kernel
theorem dX2_withStation_35 : decode cX2_withStation 35 = .ok (.i2l, 1) := by decide +kernel
theorem dX2_withStation_36 : decode cX2_withStation 36 = .ok (.invokestatic 156, 3) := by decide +kernel
theorem dX2_withStation_39 : decode cX2_withStation 39 = .ok (.lstore 4, 2) := by decide +kernel
theorem dX2_withStation_41 : decode cX2_withStation 41 = .ok (.iinc 6 1, 3) := by decide +kernel
theorem dX2_withStation_44 : decode cX2_withStation 44 = .ok (.goto (-24), 3) := by decide +kernel
theorem dX2_withStation_47 : decode cX2_withStation 47 = .ok (.aload_n 3, 1) := by decide +kernel
theorem dX2_withStation_48 : decode cX2_withStation 48 = .ok (.getfield 177, 3) := by decide +kernel
theorem dX2_withStation_51 : decode cX2_withStation 51 = .ok (.istore 6, 2) := by decide +kernel
theorem dX2_withStation_53 : decode cX2_withStation 53 = .ok (.iconst 0, 1) := by decide +kernel
theorem dX2_withStation_54 : decode cX2_withStation 54 = .ok (.istore 7, 2) := by decide +kernel
theorem dX2_withStation_56 : decode cX2_withStation 56 = .ok (.iload 7, 2) := by decide +kernel
theorem dX2_withStation_58 : decode cX2_withStation 58 = .ok (.aload_n 3, 1) := by decide +kernel
theorem dX2_withStation_59 : decode cX2_withStation 59 = .ok (.getfield 118, 3) := by decide +kernel
theorem dX2_withStation_62 : decode cX2_withStation 62 = .ok (.if_icmp .ge 30, 3) := by decide +kernel
theorem dX2_withStation_65 : decode cX2_withStation 65 = .ok (.lload 4, 2) := by decide +kernel
theorem dX2_withStation_67 : decode cX2_withStation 67 = .ok (.iload 6, 2) := by decide +kernel
theorem dX2_withStation_69 : decode cX2_withStation 69 = .ok (.i2l, 1) := by decide +kernel
theorem dX2_withStation_70 : decode cX2_withStation 70 = .ok (.invokestatic 156, 3) := by decide +kernel
theorem dX2_withStation_73 : decode cX2_withStation 73 = .ok (.lstore 4, 2) := by decide +kernel
theorem dX2_withStation_75 : decode cX2_withStation 75 = .ok (.aload_n 0, 1) := by decide +kernel
theorem dX2_withStation_76 : decode cX2_withStation 76 = .ok (.getfield 20, 3) := by decide +kernel
theorem dX2_withStation_79 : decode cX2_withStation 79 = .ok (.iload 6, 2) := by decide +kernel
theorem dX2_withStation_81 : decode cX2_withStation 81 = .ok (.invokevirtual 180, 3) := by decide +kernel
theorem dX2_withStation_84 : decode cX2_withStation 84 = .ok (.istore 6, 2) := by decide +kernel
theorem dX2_withStation_86 : decode cX2_withStation 86 = .ok (.iinc 7 1, 3) := by decide +kernel
theorem dX2_withStation_89 : decode cX2_withStation 89 = .ok (.goto (-33), 3) := by decide +kernel
theorem dX2_withStation_92 : decode cX2_withStation 92 = .ok (.lload 4, 2) := by decide +kernel
theorem dX2_withStation_94 : decode cX2_withStation 94 = .ok (.lreturn, 1) := by decide +kernel
theorem dX2_withLog_0 : decode cX2_withLog 0 = .ok (.aload_n 0, 1) := by decide +kernel
theorem dX2_withLog_1 : decode cX2_withLog 1 = .ok (.invokevirtual 86, 3) := by decide +kernel
theorem dX2_withLog_4 : decode cX2_withLog 4 = .ok (.istore_n 3, 1) := by decide +kernel
theorem dX2_withLog_5 : decode cX2_withLog 5 = .ok (.lload_n 1, 1) := by decide +kernel
theorem dX2_withLog_6 : decode cX2_withLog 6 = .ok (.iload_n 3, 1) := by decide +kernel
theorem dX2_withLog_7 : decode cX2_withLog 7 = .ok (.i2l, 1) := by decide +kernel
theorem dX2_withLog_8 : decode cX2_withLog 8 = .ok (.invokestatic 156, 3) := by decide +kernel
theorem dX2_withLog_11 : decode cX2_withLog 11 = .ok (.lstore 4, 2) := by decide +kernel
theorem dX2_withLog_13 : decode cX2_withLog 13 = .ok (.iconst 0, 1) := by decide +kernel
theorem dX2_withLog_14 : decode cX2_withLog 14 = .ok (.istore 6, 2) := by decide +kernel
theorem dX2_withLog_16 : decode cX2_withLog 16 = .ok (.iload 6, 2) := by decide +kernel
theorem dX2_withLog_18 : decode cX2_withLog 18 = .ok (.iload_n 3, 1) := by decide +kernel
theorem dX2_withLog_19 : decode cX2_withLog 19 = .ok (.if_icmp .ge 40, 3) := by decide +kernel
theorem dX2_withLog_22 : decode cX2_withLog 22 = .ok (.iconst 0, 1) := by decide +kernel
theorem dX2_withLog_23 : decode cX2_withLog 23 = .ok (.istore 7, 2) := by decide +kernel
theorem dX2_withLog_25 : decode cX2_withLog 25 = .ok (.iload 7, 2) := by decide +kernel
theorem dX2_withLog_27 : decode cX2_withLog 27 = .ok (.iconst 4, 1) := by decide +kernel
theorem dX2_withLog_28 : decode cX2_withLog 28 = .ok (.if_icmp .ge 25, 3) := by decide +kernel
theorem dX2_withLog_31 : decode cX2_withLog 31 = .ok (.lload 4, 2) := by decide +kernel
theorem dX2_withLog_33 : decode cX2_withLog 33 = .ok (.aload_n 0, 1) := by decide +kernel
theorem dX2_withLog_34 : decode cX2_withLog 34 = .ok (.iload 6, 2) := by decide +kernel
theorem dX2_withLog_36 : decode cX2_withLog 36 = .ok (.iload 7, 2) := by decide +kernel
theorem dX2_withLog_38 : decode cX2_withLog 38 = .ok (.invokevirtual 183, 3) := by decide +kernel
theorem dX2_withLog_41 : decode cX2_withLog 41 = .ok (.i2l, 1) := by decide +kernel
theorem dX2_withLog_42 : decode cX2_withLog 42 = .ok (.invokestatic 156, 3) := by decide +kernel
theorem dX2_withLog_45 : decode cX2_withLog 45 = .ok (.lstore 4, 2) := by decide +kernel
theorem dX2_withLog_47 : decode cX2_withLog 47 = .ok (.iinc 7 1, 3) := by decide +kernel
theorem dX2_withLog_50 : decode cX2_withLog 50 = .ok (.goto (-25), 3) := by decide +kernel
theorem dX2_withLog_53 : decode cX2_withLog 53 = .ok (.iinc 6 1, 3) := by decide +kernel
theorem dX2_withLog_56 : decode cX2_withLog 56 = .ok (.goto (-40), 3) := by decide +kernel
theorem dX2_withLog_59 : decode cX2_withLog 59 = .ok (.lload 4, 2) := by decide +kernel
theorem dX2_withLog_61 : decode cX2_withLog 61 = .ok (.lreturn, 1) := by decide +kernel
theorem dX3_init_0 : decode cX3_init 0 = .ok (.aload_n 0, 1) := by decide +kernel
theorem dX3_init_1 : decode cX3_init 1 = .ok (.invokespecial 3, 3) := by decide +kernel
theorem dX3_init_4 : decode cX3_init 4 = .ok (.aload_n 0, 1) := by decide +kernel
theorem dX3_init_5 : decode cX3_init 5 = .ok (.new 9, 3) := by decide +kernel
theorem dX3_init_8 : decode cX3_init 8 = .ok (.dup, 1) := by decide +kernel
theorem dX3_init_9 : decode cX3_init 9 = .ok (.bipush 100, 2) := by decide +kernel
theorem dX3_init_11 : decode cX3_init 11 = .ok (.bipush 6, 2) := by decide +kernel
theorem dX3_init_13 : decode cX3_init 13 = .ok (.invokespecial 13, 3) := by decide +kernel
theorem dX3_init_16 : decode cX3_init 16 = .ok (.putfield 16, 3) := by decide +kernel
theorem dX3_init_19 : decode cX3_init 19 = .ok (.return_, 1) := by decide +kernel
theorem dX3_number_0 : decode cX3_number 0 = .ok (.aload_n 0, 1) := by decide +kernel
theorem dX3_number_1 : decode cX3_number 1 = .ok (.getfield 20, 3) := by decide +kernel
theorem dX3_number_4 : decode cX3_number 4 = .ok (.ireturn, 1) := by decide +kernel
theorem dX3_isFull_0 : decode cX3_isFull 0 = .ok (.aload_n 0, 1) := by decide +kernel
theorem dX3_isFull_1 : decode cX3_isFull 1 = .ok (.getfield 20, 3) := by decide +kernel
theorem dX3_isFull_4 : decode cX3_isFull 4 = .ok (.bipush 100, 2) := by decide +kernel
theorem dX3_isFull_6 : decode cX3_isFull 6 = .ok (.if_icmp .lt 7, 3) := by decide +kernel
theorem dX3_isFull_9 : decode cX3_isFull 9 = .ok (.iconst 1, 1) := by decide +kernel
theorem dX3_isFull_10 : decode cX3_isFull 10 = .ok (.goto 4, 3) := by decide +kernel
theorem dX3_isFull_13 : decode cX3_isFull 13 = .ok (.iconst 0, 1) := by decide +kernel
theorem dX3_isFull_14 : decode cX3_isFull 14 = .ok (.ireturn, 1) := by decide +kernel
theorem dX3_has_0 : decode cX3_has 0 = .ok (.iload_n 1, 1) := by decide +kernel
theorem dX3_has_1 : decode cX3_has 1 = .ok (.ifCond .lt 15, 3) := by decide +kernel
theorem dX3_has_4 : decode cX3_has 4 = .ok (.iload_n 1, 1) := by decide +kernel
theorem dX3_has_5 : decode cX3_has 5 = .ok (.aload_n 0, 1) := by decide +kernel
theorem dX3_has_6 : decode cX3_has 6 = .ok (.getfield 20, 3) := by decide +kernel
theorem dX3_has_9 : decode cX3_has 9 = .ok (.if_icmp .ge 7, 3) := by decide +kernel
theorem dX3_has_12 : decode cX3_has 12 = .ok (.iconst 1, 1) := by decide +kernel
theorem dX3_has_13 : decode cX3_has 13 = .ok (.goto 4, 3) := by decide +kernel
theorem dX3_has_16 : decode cX3_has 16 = .ok (.iconst 0, 1) := by decide +kernel
theorem dX3_has_17 : decode cX3_has 17 = .ok (.ireturn, 1) := by decide +kernel
theorem dX3_value_0 : decode cX3_value 0 = .ok (.aload_n 0, 1) := by decide +kernel
theorem dX3_value_1 : decode cX3_value 1 = .ok (.getfield 16, 3) := by decide +kernel
theorem dX3_value_4 : decode cX3_value 4 = .ok (.iload_n 1, 1) := by decide +kernel
theorem dX3_value_5 : decode cX3_value 5 = .ok (.iload_n 2, 1) := by decide +kernel
theorem dX3_value_6 : decode cX3_value 6 = .ok (.invokevirtual 24, 3) := by decide +kernel
theorem dX3_value_9 : decode cX3_value 9 = .ok (.ireturn, 1) := by decide +kernel
theorem dX3_follower_0 : decode cX3_follower 0 = .ok (.aload_n 0, 1) := by decide +kernel
theorem dX3_follower_1 : decode cX3_follower 1 = .ok (.getfield 16, 3) := by decide +kernel
theorem dX3_follower_4 : decode cX3_follower 4 = .ok (.iload_n 1, 1) := by decide +kernel
theorem dX3_follower_5 : decode cX3_follower 5 = .ok (.iconst 5, 1) := by decide +kernel
theorem dX3_follower_6 : decode cX3_follower 6 = .ok (.invokevirtual 24, 3) := by decide +kernel
theorem dX3_follower_9 : decode cX3_follower 9 = .ok (.ireturn, 1) := by decide +kernel
theorem dX3_isUrgent_0 : decode cX3_isUrgent 0 = .ok (.aload_n 0, 1) := by decide +kernel
theorem dX3_isUrgent_1 : decode cX3_isUrgent 1 = .ok (.iload_n 1, 1) := by decide +kernel
theorem dX3_isUrgent_2 : decode cX3_isUrgent 2 = .ok (.invokevirtual 28, 3) := by decide +kernel
theorem dX3_isUrgent_5 : decode cX3_isUrgent 5 = .ok (.ifCond .eq 20, 3) := by decide +kernel
theorem dX3_isUrgent_8 : decode cX3_isUrgent 8 = .ok (.aload_n 0, 1) := by decide +kernel
theorem dX3_isUrgent_9 : decode cX3_isUrgent 9 = .ok (.getfield 16, 3) := by decide +kernel
theorem dX3_isUrgent_12 : decode cX3_isUrgent 12 = .ok (.iload_n 1, 1) := by decide +kernel
theorem dX3_isUrgent_13 : decode cX3_isUrgent 13 = .ok (.iconst 1, 1) := by decide +kernel
theorem dX3_isUrgent_14 : decode cX3_isUrgent 14 = .ok (.invokevirtual 24, 3) := by decide +kernel
theorem dX3_isUrgent_17 : decode cX3_isUrgent 17 = .ok (.iconst 5, 1) := by decide +kernel
theorem dX3_isUrgent_18 : decode cX3_isUrgent 18 = .ok (.if_icmp .lt 7, 3) := by decide +kernel
theorem dX3_isUrgent_21 : decode cX3_isUrgent 21 = .ok (.iconst 1, 1) := by decide +kernel
theorem dX3_isUrgent_22 : decode cX3_isUrgent 22 = .ok (.goto 4, 3) := by decide +kernel
theorem dX3_isUrgent_25 : decode cX3_isUrgent 25 = .ok (.iconst 0, 1) := by decide +kernel
theorem dX3_isUrgent_26 : decode cX3_isUrgent 26 = .ok (.ireturn, 1) := by decide +kernel
theorem dX3_clear_0 : decode cX3_clear 0 = .ok (.aload_n 0, 1) := by decide +kernel
theorem dX3_clear_1 : decode cX3_clear 1 = .ok (.iconst 0, 1) := by decide +kernel
theorem dX3_clear_2 : decode cX3_clear 2 = .ok (.putfield 20, 3) := by decide +kernel
theorem dX3_clear_5 : decode cX3_clear 5 = .ok (.return_, 1) := by decide +kernel
theorem dX3_copyFrom_0 : decode cX3_copyFrom 0 = .ok (.aload_n 0, 1) := by decide +kernel
theorem dX3_copyFrom_1 : decode cX3_copyFrom 1 = .ok (.aload_n 1, 1) := by decide +kernel
theorem dX3_copyFrom_2 : decode cX3_copyFrom 2 = .ok (.getfield 20, 3) := by decide +kernel
theorem dX3_copyFrom_5 : decode cX3_copyFrom 5 = .ok (.putfield 20, 3) := by decide +kernel
theorem dX3_copyFrom_8 : decode cX3_copyFrom 8 = .ok (.aload_n 0, 1) := by decide +kernel
theorem dX3_copyFrom_9 : decode cX3_copyFrom 9 = .ok (.getfield 16, 3) := by decide +kernel
theorem dX3_copyFrom_12 : decode cX3_copyFrom 12 = .ok (.aload_n 1, 1) := by decide +kernel
theorem dX3_copyFrom_13 : decode cX3_copyFrom 13 = .ok (.getfield 16, 3) := by decide +kernel
theorem dX3_copyFrom_16 : decode cX3_copyFrom 16 = .ok (.aload_n 1, 1) := by decide +kernel
theorem dX3_copyFrom_17 : decode cX3_copyFrom 17 = .ok (.getfield 20, 3) := by decide +kernel
theorem dX3_copyFrom_20 : decode cX3_copyFrom 20 = .ok (.invokevirtual 32, 3) := by decide +kernel
theorem dX3_copyFrom_23 : decode cX3_copyFrom 23 = .ok (.return_, 1) := by decide +kernel
theorem dX3_add_0 : decode cX3_add 0 = .ok (.aload_n 0, 1) := by decide +kernel
theorem dX3_add_1 : decode cX3_add 1 = .ok (.getfield 20, 3) := by decide +kernel
theorem dX3_add_4 : decode cX3_add 4 = .ok (.istore 5, 2) := by decide +kernel
end
section
theorem dX3_add_6 : decode cX3_add 6 = .ok (.aload_n 0, 1) := by decide +kernel
theorem dX3_add_7 : decode cX3_add 7 = .ok (.dup, 1) := by decide +kernel
theorem dX3_add_8 : decode cX3_add 8 = .ok (.getfield 20, 3) := by decide +kernel
theorem dX3_add_11 : decode cX3_add 11 = .ok (.iconst 1, 1) := by decide +kernel
theorem dX3_add_12 : decode cX3_add 12 = .ok (.iadd, 1) := by decide +kernel
theorem dX3_add_13 : decode cX3_add 13 = .ok (.putfield 20, 3) := by decide +kernel
theorem dX3_add_16 : decode cX3_add 16 = .ok (.aload_n 0, 1) := by decide +kernel
theorem dX3_add_17 : decode cX3_add 17 = .ok (.getfield 16, 3) := by decide +kernel
theorem dX3_add_20 : decode cX3_add 20 = .ok (.iload 5, 2) := by decide +kernel
theorem dX3_add_22 : decode cX3_add 22 = .ok (.iconst 0, 1) := by decide +kernel
theorem dX3_add_23 : decode cX3_add 23 = .ok (.iload_n 2, 1) := by decide +kernel
theorem dX3_add_24 : decode cX3_add 24 = .ok (.invokevirtual 36, 3) := by decide +kernel
theorem dX3_add_27 : decode cX3_add 27 = .ok (.aload_n 0, 1) := by decide +kernel
theorem dX3_add_28 : decode cX3_add 28 = .ok (.getfield 16, 3) := by decide +kernel
theorem dX3_add_31 : decode cX3_add 31 = .ok (.iload 5, 2) := by decide +kernel
theorem dX3_add_33 : decode cX3_add 33 = .ok (.iconst 1, 1) := by decide +kernel
theorem dX3_add_34 : decode cX3_add 34 = .ok (.iload_n 3, 1) := by decide +kernel
theorem dX3_add_35 : decode cX3_add 35 = .ok (.invokevirtual 36, 3) := by decide +kernel
theorem dX3_add_38 : decode cX3_add 38 = .ok (.aload_n 0, 1) := by decide +kernel
theorem dX3_add_39 : decode cX3_add 39 = .ok (.getfield 16, 3) := by decide +kernel
theorem dX3_add_42 : decode cX3_add 42 = .ok (.iload 5, 2) := by decide +kernel
theorem dX3_add_44 : decode cX3_add 44 = .ok (.iconst 2, 1) := by decide +kernel
theorem dX3_add_45 : decode cX3_add 45 = .ok (.aload_n 1, 1) := by decide +kernel
theorem dX3_add_46 : decode cX3_add 46 = .ok (.getfield 40, 3) := by decide +kernel
theorem dX3_add_49 : decode cX3_add 49 = .ok (.invokevirtual 36, 3) := by decide +kernel
theorem dX3_add_52 : decode cX3_add 52 = .ok (.aload_n 0, 1) := by decide +kernel
theorem dX3_add_53 : decode cX3_add 53 = .ok (.getfield 16, 3) := by decide +kernel
theorem dX3_add_56 : decode cX3_add 56 = .ok (.iload 5, 2) := by decide +kernel
theorem dX3_add_58 : decode cX3_add 58 = .ok (.iconst 3, 1) := by decide +kernel
theorem dX3_add_59 : decode cX3_add 59 = .ok (.iload 4, 2) := by decide +kernel
theorem dX3_add_61 : decode cX3_add 61 = .ok (.invokevirtual 36, 3) := by decide +kernel
theorem dX3_add_64 : decode cX3_add 64 = .ok (.aload_n 0, 1) := by decide +kernel
theorem dX3_add_65 : decode cX3_add 65 = .ok (.getfield 16, 3) := by decide +kernel
theorem dX3_add_68 : decode cX3_add 68 = .ok (.iload 5, 2) := by decide +kernel
theorem dX3_add_70 : decode cX3_add 70 = .ok (.iconst 4, 1) := by decide +kernel
theorem dX3_add_71 : decode cX3_add 71 = .ok (.iconst (-1), 1) := by decide +kernel
theorem dX3_add_72 : decode cX3_add 72 = .ok (.invokevirtual 36, 3) := by decide +kernel
theorem dX3_add_75 : decode cX3_add 75 = .ok (.aload_n 0, 1) := by decide +kernel
theorem dX3_add_76 : decode cX3_add 76 = .ok (.aload_n 1, 1) := by decide +kernel
theorem dX3_add_77 : decode cX3_add 77 = .ok (.iload 5, 2) := by decide +kernel
theorem dX3_add_79 : decode cX3_add 79 = .ok (.iload_n 3, 1) := by decide +kernel
theorem dX3_add_80 : decode cX3_add 80 = .ok (.invokevirtual 45, 3) := by decide +kernel
theorem dX3_add_83 : decode cX3_add 83 = .ok (.iload 5, 2) := by decide +kernel
theorem dX3_add_85 : decode cX3_add 85 = .ok (.ireturn, 1) := by decide +kernel
theorem dX3_enqueue_0 : decode cX3_enqueue 0 = .ok (.iconst (-1), 1) := by decide +kernel
theorem dX3_enqueue_1 : decode cX3_enqueue 1 = .ok (.istore 4, 2) := by decide +kernel
theorem dX3_enqueue_3 : decode cX3_enqueue 3 = .ok (.aload_n 1, 1) := by decide +kernel
theorem dX3_enqueue_4 : decode cX3_enqueue 4 = .ok (.getfield 49, 3) := by decide +kernel
theorem dX3_enqueue_7 : decode cX3_enqueue 7 = .ok (.istore 5, 2) := by decide +kernel
theorem dX3_enqueue_9 : decode cX3_enqueue 9 = .ok (.iconst 0, 1) := by decide +kernel
theorem dX3_enqueue_10 : decode cX3_enqueue 10 = .ok (.istore 6, 2) := by decide +kernel
theorem dX3_enqueue_12 : decode cX3_enqueue 12 = .ok (.iload 6, 2) := by decide +kernel
theorem dX3_enqueue_14 : decode cX3_enqueue 14 = .ok (.aload_n 1, 1) := by decide +kernel
theorem dX3_enqueue_15 : decode cX3_enqueue 15 = .ok (.getfield 52, 3) := by decide +kernel
theorem dX3_enqueue_18 : decode cX3_enqueue 18 = .ok (.if_icmp .ge 38, 3) := by decide +kernel
theorem dX3_enqueue_21 : decode cX3_enqueue 21 = .ok (.aload_n 0, 1) := by decide +kernel
theorem dX3_enqueue_22 : decode cX3_enqueue 22 = .ok (.getfield 16, 3) := by decide +kernel
theorem dX3_enqueue_25 : decode cX3_enqueue 25 = .ok (.iload 5, 2) := by decide +kernel
theorem dX3_enqueue_27 : decode cX3_enqueue 27 = .ok (.iconst 1, 1) := by decide +kernel
theorem dX3_enqueue_28 : decode cX3_enqueue 28 = .ok (.invokevirtual 24, 3) := by decide +kernel
theorem dX3_enqueue_31 : decode cX3_enqueue 31 = .ok (.iload_n 3, 1) := by decide +kernel
theorem dX3_enqueue_32 : decode cX3_enqueue 32 = .ok (.if_icmp .ge 6, 3) := by decide +kernel
theorem dX3_enqueue_35 : decode cX3_enqueue 35 = .ok (.goto 21, 3) := by decide +kernel
theorem dX3_enqueue_38 : decode cX3_enqueue 38 = .ok (.iload 5, 2) := by decide +kernel
theorem dX3_enqueue_40 : decode cX3_enqueue 40 = .ok (.istore 4, 2) := by decide +kernel
theorem dX3_enqueue_42 : decode cX3_enqueue 42 = .ok (.aload_n 0, 1) := by decide +kernel
theorem dX3_enqueue_43 : decode cX3_enqueue 43 = .ok (.iload 5, 2) := by decide +kernel
theorem dX3_enqueue_45 : decode cX3_enqueue 45 = .ok (.invokevirtual 55, 3) := by decide +kernel
theorem dX3_enqueue_48 : decode cX3_enqueue 48 = .ok (.istore 5, 2) := by decide +kernel
theorem dX3_enqueue_50 : decode cX3_enqueue 50 = .ok (.iinc 6 1, 3) := by decide +kernel
theorem dX3_enqueue_53 : decode cX3_enqueue 53 = .ok (.goto (-41), 3) := by decide +kernel
theorem dX3_enqueue_56 : decode cX3_enqueue 56 = .ok (.aload_n 0, 1) := by decide +kernel
theorem dX3_enqueue_57 : decode cX3_enqueue 57 = .ok (.getfield 16, 3) := by decide +kernel
theorem dX3_enqueue_60 : decode cX3_enqueue 60 = .ok (.iload_n 2, 1) := by decide +kernel
theorem dX3_enqueue_61 : decode cX3_enqueue 61 = .ok (.iconst 5, 1) := by decide +kernel
theorem dX3_enqueue_62 : decode cX3_enqueue 62 = .ok (.iload 5, 2) := by decide +kernel
theorem dX3_enqueue_64 : decode cX3_enqueue 64 = .ok (.invokevirtual 36, 3) := by decide +kernel
theorem dX3_enqueue_67 : decode cX3_enqueue 67 = .ok (.iload 4, 2) := by decide +kernel
theorem dX3_enqueue_69 : decode cX3_enqueue 69 = .ok (.iconst (-1), 1) := by decide +kernel
theorem dX3_enqueue_70 : decode cX3_enqueue 70 = .ok (.if_icmp .ne 11, 3) := by decide +kernel
theorem dX3_enqueue_73 : decode cX3_enqueue 73 = .ok (.aload_n 1, 1) := by decide +kernel
theorem dX3_enqueue_74 : decode cX3_enqueue 74 = .ok (.iload_n 2, 1) := by decide +kernel
theorem dX3_enqueue_75 : decode cX3_enqueue 75 = .ok (.putfield 49, 3) := by decide +kernel
theorem dX3_enqueue_78 : decode cX3_enqueue 78 = .ok (.goto 14, 3) := by decide +kernel
theorem dX3_enqueue_81 : decode cX3_enqueue 81 = .ok (.aload_n 0, 1) := by decide +kernel
theorem dX3_enqueue_82 : decode cX3_enqueue 82 = .ok (.getfield 16, 3) := by decide +kernel
theorem dX3_enqueue_85 : decode cX3_enqueue 85 = .ok (.iload 4, 2) := by decide +kernel
theorem dX3_enqueue_87 : decode cX3_enqueue 87 = .ok (.iconst 5, 1) := by decide +kernel
theorem dX3_enqueue_88 : decode cX3_enqueue 88 = .ok (.iload_n 2, 1) := by decide +kernel
theorem dX3_enqueue_89 : decode cX3_enqueue 89 = .ok (.invokevirtual 36, 3) := by decide +kernel
theorem dX3_enqueue_92 : decode cX3_enqueue 92 = .ok (.aload_n 1, 1) := by decide +kernel
theorem dX3_enqueue_93 : decode cX3_enqueue 93 = .ok (.dup, 1) := by decide +kernel
theorem dX3_enqueue_94 : decode cX3_enqueue 94 = .ok (.getfield 52, 3) := by decide +kernel
theorem dX3_enqueue_97 : decode cX3_enqueue 97 = .ok (.iconst 1, 1) := by decide +kernel
theorem dX3_enqueue_98 : decode cX3_enqueue 98 = .ok (.iadd, 1) := by decide +kernel
theorem dX3_enqueue_99 : decode cX3_enqueue 99 = .ok (.putfield 52, 3) := by decide +kernel
theorem dX3_enqueue_102 : decode cX3_enqueue 102 = .ok (.return_, 1) := by decide +kernel
theorem dX3_inQueue_0 : decode cX3_inQueue 0 = .ok (.aload_n 1, 1) := by decide +kernel
theorem dX3_inQueue_1 : decode cX3_inQueue 1 = .ok (.getfield 49, 3) := by decide +kernel
theorem dX3_inQueue_4 : decode cX3_inQueue 4 = .ok (.istore_n 3, 1) := by decide +kernel
theorem dX3_inQueue_5 : decode cX3_inQueue 5 = .ok (.iconst 0, 1) := by decide +kernel
theorem dX3_inQueue_6 : decode cX3_inQueue 6 = .ok (.istore 4, 2) := by decide +kernel
theorem dX3_inQueue_8 : decode cX3_inQueue 8 = .ok (.iload 4, 2) := by decide +kernel
theorem dX3_inQueue_10 : decode cX3_inQueue 10 = .ok (.iload_n 2, 1) := by decide +kernel
theorem dX3_inQueue_11 : decode cX3_inQueue 11 = .ok (.if_icmp .ge 15, 3) := by decide +kernel
theorem dX3_inQueue_14 : decode cX3_inQueue 14 = .ok (.aload_n 0, 1) := by decide +kernel
theorem dX3_inQueue_15 : decode cX3_inQueue 15 = .ok (.iload_n 3, 1) := by decide +kernel
theorem dX3_inQueue_16 : decode cX3_inQueue 16 = .ok (.invokevirtual 55, 3) := by decide +kernel
theorem dX3_inQueue_19 : decode cX3_inQueue 19 = .ok (.istore_n 3, 1) := by decide +kernel
theorem dX3_inQueue_20 : decode cX3_inQueue 20 = .ok (.iinc 4 1, 3) := by decide +kernel
theorem dX3_inQueue_23 : decode cX3_inQueue 23 = .ok (.goto (-15), 3) := by decide +kernel
theorem dX3_inQueue_26 : decode cX3_inQueue 26 = .ok (.iload_n 3, 1) := by decide +kernel
theorem dX3_inQueue_27 : decode cX3_inQueue 27 = .ok (.ireturn, 1) := by decide +kernel
theorem dX3_takeFirst_0 : decode cX3_takeFirst 0 = .ok (.aload_n 1, 1) := by decide +kernel
theorem dX3_takeFirst_1 : decode cX3_takeFirst 1 = .ok (.getfield 49, 3) := by decide +kernel
theorem dX3_takeFirst_4 : decode cX3_takeFirst 4 = .ok (.istore_n 3, 1) := by decide +kernel
theorem dX3_takeFirst_5 : decode cX3_takeFirst 5 = .ok (.iload_n 2, 1) := by decide +kernel
theorem dX3_takeFirst_6 : decode cX3_takeFirst 6 = .ok (.aload_n 0, 1) := by decide +kernel
theorem dX3_takeFirst_7 : decode cX3_takeFirst 7 = .ok (.getfield 16, 3) := by decide +kernel
theorem dX3_takeFirst_10 : decode cX3_takeFirst 10 = .ok (.iload_n 3, 1) := by decide +kernel
theorem dX3_takeFirst_11 : decode cX3_takeFirst 11 = .ok (.iconst 3, 1) := by decide +kernel
theorem dX3_takeFirst_12 : decode cX3_takeFirst 12 = .ok (.invokevirtual 24, 3) := by decide +kernel
theorem dX3_takeFirst_15 : decode cX3_takeFirst 15 = .ok (.isub, 1) := by decide +kernel
theorem dX3_takeFirst_16 : decode cX3_takeFirst 16 = .ok (.istore 4, 2) := by decide +kernel
theorem dX3_takeFirst_18 : decode cX3_takeFirst 18 = .ok (.aload_n 0, 1) := by decide +kernel
theorem dX3_takeFirst_19 : decode cX3_takeFirst 19 = .ok (.getfield 16, 3) := by decide +kernel
theorem dX3_takeFirst_22 : decode cX3_takeFirst 22 = .ok (.iload_n 3, 1) := by decide +kernel
theorem dX3_takeFirst_23 : decode cX3_takeFirst 23 = .ok (.iconst 4, 1) := by decide +kernel
theorem dX3_takeFirst_24 : decode cX3_takeFirst 24 = .ok (.iload 4, 2) := by decide +kernel
theorem dX3_takeFirst_26 : decode cX3_takeFirst 26 = .ok (.invokevirtual 36, 3) := by decide +kernel
theorem dX3_takeFirst_29 : decode cX3_takeFirst 29 = .ok (.aload_n 1, 1) := by decide +kernel
theorem dX3_takeFirst_30 : decode cX3_takeFirst 30 = .ok (.aload_n 0, 1) := by decide +kernel
theorem dX3_takeFirst_31 : decode cX3_takeFirst 31 = .ok (.iload_n 3, 1) := by decide +kernel
theorem dX3_takeFirst_32 : decode cX3_takeFirst 32 = .ok (.invokevirtual 55, 3) := by decide +kernel
theorem dX3_takeFirst_35 : decode cX3_takeFirst 35 = .ok (.putfield 49, 3) := by decide +kernel
theorem dX3_takeFirst_38 : decode cX3_takeFirst 38 = .ok (.aload_n 1, 1) := by decide +kernel
theorem dX3_takeFirst_39 : decode cX3_takeFirst 39 = .ok (.dup, 1) := by decide +kernel
theorem dX3_takeFirst_40 : decode cX3_takeFirst 40 = .ok (.getfield 52, 3) := by decide +kernel
theorem dX3_takeFirst_43 : decode cX3_takeFirst 43 = .ok (.iconst 1, 1) := by decide +kernel
theorem dX3_takeFirst_44 : decode cX3_takeFirst 44 = .ok (.isub, 1) := by decide +kernel
theorem dX3_takeFirst_45 : decode cX3_takeFirst 45 = .ok (.putfield 52, 3) := by decide +kernel
theorem dX3_takeFirst_48 : decode cX3_takeFirst 48 = .ok (.iload 4, 2) := by decide +kernel
theorem dX3_takeFirst_50 : decode cX3_takeFirst 50 = .ok (.ireturn, 1) := by decide +kernel
theorem dX4_init_0 : decode cX4_init 0 = .ok (.aload_n 0, 1) := by decide +kernel
theorem dX4_init_1 : decode cX4_init 1 = .ok (.invokespecial 3, 3) := by decide +kernel
theorem dX4_init_4 : decode cX4_init 4 = .ok (.aload_n 0, 1) := by decide +kernel
theorem dX4_init_5 : decode cX4_init 5 = .ok (.bipush 20, 2) := by decide +kernel
theorem dX4_init_7 : decode cX4_init 7 = .ok (.newarray .int, 2) := by decide +kernel
theorem dX4_init_9 : decode cX4_init 9 = .ok (.putfield 9, 3) := by decide +kernel
theorem dX4_init_12 : decode cX4_init 12 = .ok (.aload_n 0, 1) := by decide +kernel
theorem dX4_init_13 : decode cX4_init 13 = .ok (.bipush 20, 2) := by decide +kernel
theorem dX4_init_15 : decode cX4_init 15 = .ok (.newarray .int, 2) := by decide +kernel
theorem dX4_init_17 : decode cX4_init 17 = .ok (.putfield 15, 3) := by decide +kernel
theorem dX4_init_20 : decode cX4_init 20 = .ok (.return_, 1) := by decide +kernel
theorem dX4_isFull_0 : decode cX4_isFull 0 = .ok (.aload_n 0, 1) := by decide +kernel
theorem dX4_isFull_1 : decode cX4_isFull 1 = .ok (.getfield 18, 3) := by decide +kernel
theorem dX4_isFull_4 : decode cX4_isFull 4 = .ok (.bipush 20, 2) := by decide +kernel
theorem dX4_isFull_6 : decode cX4_isFull 6 = .ok (.if_icmp .lt 7, 3) := by decide +kernel
theorem dX4_isFull_9 : decode cX4_isFull 9 = .ok (.iconst 1, 1) := by decide +kernel
theorem dX4_isFull_10 : decode cX4_isFull 10 = .ok (.goto 4, 3) := by decide +kernel
theorem dX4_isFull_13 : decode cX4_isFull 13 = .ok (.iconst 0, 1) := by decide +kernel
theorem dX4_isFull_14 : decode cX4_isFull 14 = .ok (.ireturn, 1) := by decide +kernel
theorem dX4_clear_0 : decode cX4_clear 0 = .ok (.aload_n 0, 1) := by decide +kernel
theorem dX4_clear_1 : decode cX4_clear 1 = .ok (.iconst 0, 1) := by decide +kernel
theorem dX4_clear_2 : decode cX4_clear 2 = .ok (.putfield 18, 3) := by decide +kernel
theorem dX4_clear_5 : decode cX4_clear 5 = .ok (.return_, 1) := by decide +kernel
theorem dX4_copyFrom_0 : decode cX4_copyFrom 0 = .ok (.aload_n 0, 1) := by decide +kernel
theorem dX4_copyFrom_1 : decode cX4_copyFrom 1 = .ok (.aload_n 1, 1) := by decide +kernel
theorem dX4_copyFrom_2 : decode cX4_copyFrom 2 = .ok (.getfield 18, 3) := by decide +kernel
theorem dX4_copyFrom_5 : decode cX4_copyFrom 5 = .ok (.putfield 18, 3) := by decide +kernel
theorem dX4_copyFrom_8 : decode cX4_copyFrom 8 = .ok (.iconst 0, 1) := by decide +kernel
theorem dX4_copyFrom_9 : decode cX4_copyFrom 9 = .ok (.istore_n 2, 1) := by decide +kernel
theorem dX4_copyFrom_10 : decode cX4_copyFrom 10 = .ok (.iload_n 2, 1) := by decide +kernel
theorem dX4_copyFrom_11 : decode cX4_copyFrom 11 = .ok (.aload_n 0, 1) := by decide +kernel
theorem dX4_copyFrom_12 : decode cX4_copyFrom 12 = .ok (.getfield 18, 3) := by decide +kernel
theorem dX4_copyFrom_15 : decode cX4_copyFrom 15 = .ok (.if_icmp .ge 39, 3) := by decide +kernel
theorem dX4_copyFrom_18 : decode cX4_copyFrom 18 = .ok (.iload_n 2, 1) := by decide +kernel
theorem dX4_copyFrom_19 : decode cX4_copyFrom 19 = .ok (.bipush 20, 2) := by decide +kernel
theorem dX4_copyFrom_21 : decode cX4_copyFrom 21 = .ok (.if_icmp .ge 33, 3) := by decide +kernel
theorem dX4_copyFrom_24 : decode cX4_copyFrom 24 = .ok (.aload_n 0, 1) := by decide +kernel
theorem dX4_copyFrom_25 : decode cX4_copyFrom 25 = .ok (.getfield 9, 3) := by decide +kernel
theorem dX4_copyFrom_28 : decode cX4_copyFrom 28 = .ok (.iload_n 2, 1) := by decide +kernel
theorem dX4_copyFrom_29 : decode cX4_copyFrom 29 = .ok (.aload_n 1, 1) := by decide +kernel
theorem dX4_copyFrom_30 : decode cX4_copyFrom 30 = .ok (.getfield 9, 3) := by decide +kernel
theorem dX4_copyFrom_33 : decode cX4_copyFrom 33 = .ok (.iload_n 2, 1) := by decide +kernel
theorem dX4_copyFrom_34 : decode cX4_copyFrom 34 = .ok (.iaload, 1) := by decide +kernel
theorem dX4_copyFrom_35 : decode cX4_copyFrom 35 = .ok (.iastore, 1) := by decide +kernel
theorem dX4_copyFrom_36 : decode cX4_copyFrom 36 = .ok (.aload_n 0, 1) := by decide +kernel
theorem dX4_copyFrom_37 : decode cX4_copyFrom 37 = .ok (.getfield 15, 3) := by decide +kernel
theorem dX4_copyFrom_40 : decode cX4_copyFrom 40 = .ok (.iload_n 2, 1) := by decide +kernel
theorem dX4_copyFrom_41 : decode cX4_copyFrom 41 = .ok (.aload_n 1, 1) := by decide +kernel
theorem dX4_copyFrom_42 : decode cX4_copyFrom 42 = .ok (.getfield 15, 3) := by decide +kernel
theorem dX4_copyFrom_45 : decode cX4_copyFrom 45 = .ok (.iload_n 2, 1) := by decide +kernel
theorem dX4_copyFrom_46 : decode cX4_copyFrom 46 = .ok (.iaload, 1) := by decide +kernel
theorem dX4_copyFrom_47 : decode cX4_copyFrom 47 = .ok (.iastore, 1) := by decide +kernel
theorem dX4_copyFrom_48 : decode cX4_copyFrom 48 = .ok (.iinc 2 1, 3) := by decide +kernel
theorem dX4_copyFrom_51 : decode cX4_copyFrom 51 = .ok (.goto (-41), 3) := by decide +kernel
theorem dX4_copyFrom_54 : decode cX4_copyFrom 54 = .ok (.return_, 1) := by decide +kernel
theorem dX4_add_0 : decode cX4_add 0 = .ok (.aload_n 0, 1) := by decide +kernel
theorem dX4_add_1 : decode cX4_add 1 = .ok (.getfield 18, 3) := by decide +kernel
theorem dX4_add_4 : decode cX4_add 4 = .ok (.ifCond .lt 42, 3) := by decide +kernel
theorem dX4_add_7 : decode cX4_add 7 = .ok (.aload_n 0, 1) := by decide +kernel
theorem dX4_add_8 : decode cX4_add 8 = .ok (.getfield 18, 3) := by decide +kernel
theorem dX4_add_11 : decode cX4_add 11 = .ok (.bipush 20, 2) := by decide +kernel
theorem dX4_add_13 : decode cX4_add 13 = .ok (.if_icmp .ge 33, 3) := by decide +kernel
theorem dX4_add_16 : decode cX4_add 16 = .ok (.aload_n 0, 1) := by decide +kernel
theorem dX4_add_17 : decode cX4_add 17 = .ok (.getfield 9, 3) := by decide +kernel
theorem dX4_add_20 : decode cX4_add 20 = .ok (.aload_n 0, 1) := by decide +kernel
theorem dX4_add_21 : decode cX4_add 21 = .ok (.getfield 18, 3) := by decide +kernel
theorem dX4_add_24 : decode cX4_add 24 = .ok (.iload_n 1, 1) := by decide +kernel
theorem dX4_add_25 : decode cX4_add 25 = .ok (.iastore, 1) := by decide +kernel
theorem dX4_add_26 : decode cX4_add 26 = .ok (.aload_n 0, 1) := by decide +kernel
theorem dX4_add_27 : decode cX4_add 27 = .ok (.getfield 15, 3) := by decide +kernel
theorem dX4_add_30 : decode cX4_add 30 = .ok (.aload_n 0, 1) := by decide +kernel
theorem dX4_add_31 : decode cX4_add 31 = .ok (.getfield 18, 3) := by decide +kernel
theorem dX4_add_34 : decode cX4_add 34 = .ok (.iload_n 2, 1) := by decide +kernel
theorem dX4_add_35 : decode cX4_add 35 = .ok (.iastore, 1) := by decide +kernel
theorem dX4_add_36 : decode cX4_add 36 = .ok (.aload_n 0, 1) := by decide +kernel
theorem dX4_add_37 : decode cX4_add 37 = .ok (.dup, 1) := by decide +kernel
theorem dX4_add_38 : decode cX4_add 38 = .ok (.getfield 18, 3) := by decide +kernel
theorem dX4_add_41 : decode cX4_add 41 = .ok (.iconst 1, 1) := by decide +kernel
theorem dX4_add_42 : decode cX4_add 42 = .ok (.iadd, 1) := by decide +kernel
theorem dX4_add_43 : decode cX4_add 43 = .ok (.putfield 18, 3) := by decide +kernel
theorem dX4_add_46 : decode cX4_add 46 = .ok (.return_, 1) := by decide +kernel
theorem dX4_touch_0 : decode cX4_touch 0 = .ok (.iconst 0, 1) := by decide +kernel
theorem dX4_touch_1 : decode cX4_touch 1 = .ok (.istore_n 3, 1) := by decide +kernel
theorem dX4_touch_2 : decode cX4_touch 2 = .ok (.iload_n 3, 1) := by decide +kernel
theorem dX4_touch_3 : decode cX4_touch 3 = .ok (.aload_n 0, 1) := by decide +kernel
theorem dX4_touch_4 : decode cX4_touch 4 = .ok (.getfield 18, 3) := by decide +kernel
theorem dX4_touch_7 : decode cX4_touch 7 = .ok (.if_icmp .ge 37, 3) := by decide +kernel
theorem dX4_touch_10 : decode cX4_touch 10 = .ok (.iload_n 3, 1) := by decide +kernel
theorem dX4_touch_11 : decode cX4_touch 11 = .ok (.bipush 20, 2) := by decide +kernel
theorem dX4_touch_13 : decode cX4_touch 13 = .ok (.if_icmp .ge 31, 3) := by decide +kernel
theorem dX4_touch_16 : decode cX4_touch 16 = .ok (.aload_n 0, 1) := by decide +kernel
theorem dX4_touch_17 : decode cX4_touch 17 = .ok (.getfield 9, 3) := by decide +kernel
theorem dX4_touch_20 : decode cX4_touch 20 = .ok (.iload_n 3, 1) := by decide +kernel
theorem dX4_touch_21 : decode cX4_touch 21 = .ok (.iaload, 1) := by decide +kernel
theorem dX4_touch_22 : decode cX4_touch 22 = .ok (.iload_n 2, 1) := by decide +kernel
theorem dX4_touch_23 : decode cX4_touch 23 = .ok (.if_icmp .gt 15, 3) := by decide +kernel
theorem dX4_touch_26 : decode cX4_touch 26 = .ok (.aload_n 0, 1) := by decide +kernel
theorem dX4_touch_27 : decode cX4_touch 27 = .ok (.getfield 15, 3) := by decide +kernel
theorem dX4_touch_30 : decode cX4_touch 30 = .ok (.iload_n 3, 1) := by decide +kernel
theorem dX4_touch_31 : decode cX4_touch 31 = .ok (.iaload, 1) := by decide +kernel
theorem dX4_touch_32 : decode cX4_touch 32 = .ok (.iload_n 1, 1) := by decide +kernel
theorem dX4_touch_33 : decode cX4_touch 33 = .ok (.if_icmp .lt 5, 3) := by decide +kernel
theorem dX4_touch_36 : decode cX4_touch 36 = .ok (.iconst 1, 1) := by decide +kernel
theorem dX4_touch_37 : decode cX4_touch 37 = .ok (.ireturn, 1) := by decide +kernel
theorem dX4_touch_38 : decode cX4_touch 38 = .ok (.iinc 3 1, 3) := by decide +kernel
theorem dX4_touch_41 : decode cX4_touch 41 = .ok (.goto (-39), 3) := by decide +kernel
theorem dX4_touch_44 : decode cX4_touch 44 = .ok (.iconst 0, 1) := by decide +kernel
theorem dX4_touch_45 : decode cX4_touch 45 = .ok (.ireturn, 1) := by decide +kernel
theorem dX5_init_0 : decode cX5_init 0 = .ok (.aload_n 0, 1) := by decide +kernel
theorem dX5_init_1 : decode cX5_init 1 = .ok (.invokespecial 3, 3) := by decide +kernel
theorem dX5_init_4 : decode cX5_init 4 = .ok (.aload_n 0, 1) := by decide +kernel
theorem dX5_init_5 : decode cX5_init 5 = .ok (.iconst (-1), 1) := by decide +kernel
theorem dX5_init_6 : decode cX5_init 6 = .ok (.putfield 9, 3) := by decide +kernel
theorem dX5_init_9 : decode cX5_init 9 = .ok (.aload_n 0, 1) := by decide +kernel
theorem dX5_init_10 : decode cX5_init 10 = .ok (.aload_n 1, 1) := by decide +kernel
theorem dX5_init_11 : decode cX5_init 11 = .ok (.putfield 15, 3) := by decide +kernel
theorem dX5_init_14 : decode cX5_init 14 = .ok (.aload_n 0, 1) := by decide +kernel
theorem dX5_init_15 : decode cX5_init 15 = .ok (.iload_n 2, 1) := by decide +kernel
theorem dX5_init_16 : decode cX5_init 16 = .ok (.putfield 19, 3) := by decide +kernel
theorem dX5_init_19 : decode cX5_init 19 = .ok (.aload_n 0, 1) := by decide +kernel
theorem dX5_init_20 : decode cX5_init 20 = .ok (.aload_n 3, 1) := by decide +kernel
theorem dX5_init_21 : decode cX5_init 21 = .ok (.putfield 22, 3) := by decide +kernel
theorem dX5_init_24 : decode cX5_init 24 = .ok (.return_, 1) := by decide +kernel
theorem dX5_readItems_0 : decode cX5_readItems 0 = .ok (.iconst 0, 1) := by decide +kernel
theorem dX5_readItems_1 : decode cX5_readItems 1 = .ok (.istore_n 1, 1) := by decide +kernel
theorem dX5_readItems_2 : decode cX5_readItems 2 = .ok (.iload_n 1, 1) := by decide +kernel
theorem dX5_readItems_3 : decode cX5_readItems 3 = .ok (.aload_n 0, 1) := by decide +kernel
theorem dX5_readItems_4 : decode cX5_readItems 4 = .ok (.getfield 19, 3) := by decide +kernel
theorem dX5_readItems_7 : decode cX5_readItems 7 = .ok (.if_icmp .ge 29, 3) := by decide +kernel
theorem dX5_readItems_10 : decode cX5_readItems 10 = .ok (.aload_n 0, 1) := by decide +kernel
theorem dX5_readItems_11 : decode cX5_readItems 11 = .ok (.getfield 26, 3) := by decide +kernel
theorem dX5_readItems_14 : decode cX5_readItems 14 = .ok (.aload_n 0, 1) := by decide +kernel
theorem dX5_readItems_15 : decode cX5_readItems 15 = .ok (.getfield 19, 3) := by decide +kernel
theorem dX5_readItems_18 : decode cX5_readItems 18 = .ok (.if_icmp .ge 18, 3) := by decide +kernel
theorem dX5_readItems_21 : decode cX5_readItems 21 = .ok (.aload_n 0, 1) := by decide +kernel
theorem dX5_readItems_22 : decode cX5_readItems 22 = .ok (.invokevirtual 29, 3) := by decide +kernel
theorem dX5_readItems_25 : decode cX5_readItems 25 = .ok (.ifCond .ne 5, 3) := by decide +kernel
theorem dX5_readItems_28 : decode cX5_readItems 28 = .ok (.iconst (-1), 1) := by decide +kernel
theorem dX5_readItems_29 : decode cX5_readItems 29 = .ok (.ireturn, 1) := by decide +kernel
theorem dX5_readItems_30 : decode cX5_readItems 30 = .ok (.iinc 1 1, 3) := by decide +kernel
theorem dX5_readItems_33 : decode cX5_readItems 33 = .ok (.goto (-31), 3) := by decide +kernel
theorem dX5_readItems_36 : decode cX5_readItems 36 = .ok (.iload_n 1, 1) := by decide +kernel
theorem dX5_readItems_37 : decode cX5_readItems 37 = .ok (.ireturn, 1) := by decide +kernel
theorem dX5_readItem_0 : decode cX5_readItem 0 = .ok (.aload_n 0, 1) := by decide +kernel
theorem dX5_readItem_1 : decode cX5_readItem 1 = .ok (.invokevirtual 33, 3) := by decide +kernel
theorem dX5_readItem_4 : decode cX5_readItem 4 = .ok (.istore_n 1, 1) := by decide +kernel
theorem dX5_readItem_5 : decode cX5_readItem 5 = .ok (.iload_n 1, 1) := by decide +kernel
theorem dX5_readItem_6 : decode cX5_readItem 6 = .ok (.bipush 115, 2) := by decide +kernel
theorem dX5_readItem_8 : decode cX5_readItem 8 = .ok (.if_icmp .ne 28, 3) := by decide +kernel
theorem dX5_readItem_11 : decode cX5_readItem 11 = .ok (.aload_n 0, 1) := by decide +kernel
theorem dX5_readItem_12 : decode cX5_readItem 12 = .ok (.getfield 22, 3) := by decide +kernel
theorem dX5_readItem_15 : decode cX5_readItem 15 = .ok (.invokevirtual 37, 3) := by decide +kernel
theorem dX5_readItem_18 : decode cX5_readItem 18 = .ok (.ifCond .ne 18, 3) := by decide +kernel
theorem dX5_readItem_21 : decode cX5_readItem 21 = .ok (.aload_n 0, 1) := by decide +kernel
theorem dX5_readItem_22 : decode cX5_readItem 22 = .ok (.dup, 1) := by decide +kernel
theorem dX5_readItem_23 : decode cX5_readItem 23 = .ok (.getfield 26, 3) := by decide +kernel
theorem dX5_readItem_26 : decode cX5_readItem 26 = .ok (.iconst 1, 1) := by decide +kernel
theorem dX5_readItem_27 : decode cX5_readItem 27 = .ok (.iadd, 1) := by decide +kernel
theorem dX5_readItem_28 : decode cX5_readItem 28 = .ok (.putfield 26, 3) := by decide +kernel
theorem dX5_readItem_31 : decode cX5_readItem 31 = .ok (.aload_n 0, 1) := by decide +kernel
theorem dX5_readItem_32 : decode cX5_readItem 32 = .ok (.invokevirtual 42, 3) := by decide +kernel
theorem dX5_readItem_35 : decode cX5_readItem 35 = .ok (.ireturn, 1) := by decide +kernel
theorem dX5_readItem_36 : decode cX5_readItem 36 = .ok (.iload_n 1, 1) := by decide +kernel
theorem dX5_readItem_37 : decode cX5_readItem 37 = .ok (.bipush 109, 2) := by decide +kernel
theorem dX5_readItem_39 : decode cX5_readItem 39 = .ok (.if_icmp .ne 25, 3) := by decide +kernel
theorem dX5_readItem_42 : decode cX5_readItem 42 = .ok (.aload_n 0, 1) := by decide +kernel
theorem dX5_readItem_43 : decode cX5_readItem 43 = .ok (.getfield 45, 3) := by decide +kernel
theorem dX5_readItem_46 : decode cX5_readItem 46 = .ok (.ifnull 18, 3) := by decide +kernel
theorem dX5_readItem_49 : decode cX5_readItem 49 = .ok (.aload_n 0, 1) := by decide +kernel
theorem dX5_readItem_50 : decode cX5_readItem 50 = .ok (.dup, 1) := by decide +kernel
theorem dX5_readItem_51 : decode cX5_readItem 51 = .ok (.getfield 26, 3) := by decide +kernel
theorem dX5_readItem_54 : decode cX5_readItem 54 = .ok (.iconst 1, 1) := by decide +kernel
theorem dX5_readItem_55 : decode cX5_readItem 55 = .ok (.iadd, 1) := by decide +kernel
theorem dX5_readItem_56 : decode cX5_readItem 56 = .ok (.putfield 26, 3) := by decide +kernel
theorem dX5_readItem_59 : decode cX5_readItem 59 = .ok (.aload_n 0, 1) := by decide +kernel
theorem dX5_readItem_60 : decode cX5_readItem 60 = .ok (.invokevirtual 49, 3) := by decide +kernel
theorem dX5_readItem_63 : decode cX5_readItem 63 = .ok (.ireturn, 1) := by decide +kernel
theorem dX5_readItem_64 : decode cX5_readItem 64 = .ok (.aload_n 0, 1) := by decide +kernel
theorem dX5_readItem_65 : decode cX5_readItem 65 = .ok (.aload_n 0, 1) := by decide +kernel
theorem dX5_readItem_66 : decode cX5_readItem 66 = .ok (.getfield 26, 3) := by decide +kernel
theorem dX5_readItem_69 : decode cX5_readItem 69 = .ok (.invokevirtual 52, 3) := by decide +kernel
theorem dX5_readItem_72 : decode cX5_readItem 72 = .ok (.ireturn, 1) := by decide +kernel
theorem dX5_readStation_0 : decode cX5_readStation 0 = .ok (.aload_n 0, 1) := by decide +kernel
theorem dX5_readStation_1 : decode cX5_readStation 1 = .ok (.getfield 26, 3) := by decide +kernel
theorem dX5_readStation_4 : decode cX5_readStation 4 = .ok (.istore_n 1, 1) := by decide +kernel
theorem dX5_readStation_5 : decode cX5_readStation 5 = .ok (.aload_n 0, 1) := by decide +kernel
theorem dX5_readStation_6 : decode cX5_readStation 6 = .ok (.invokevirtual 56, 3) := by decide +kernel
theorem dX5_readStation_9 : decode cX5_readStation 9 = .ok (.istore_n 2, 1) := by decide +kernel
theorem dX5_readStation_10 : decode cX5_readStation 10 = .ok (.iload_n 2, 1) := by decide +kernel
theorem dX5_readStation_11 : decode cX5_readStation 11 = .ok (.iconst (-1), 1) := by decide +kernel
theorem dX5_readStation_12 : decode cX5_readStation 12 = .ok (.if_icmp .ne 5, 3) := by decide +kernel
theorem dX5_readStation_15 : decode cX5_readStation 15 = .ok (.iconst 0, 1) := by decide +kernel
theorem dX5_readStation_16 : decode cX5_readStation 16 = .ok (.ireturn, 1) := by decide +kernel
theorem dX5_readStation_17 : decode cX5_readStation 17 = .ok (.iload_n 2, 1) := by decide +kernel
theorem dX5_readStation_18 : decode cX5_readStation 18 = .ok (.invokestatic 59, 3) := by decide +kernel
theorem dX5_readStation_21 : decode cX5_readStation 21 = .ok (.ifCond .eq 14, 3) := by decide +kernel
theorem dX5_readStation_24 : decode cX5_readStation 24 = .ok (.aload_n 0, 1) := by decide +kernel
theorem dX5_readStation_25 : decode cX5_readStation 25 = .ok (.getfield 22, 3) := by decide +kernel
theorem dX5_readStation_28 : decode cX5_readStation 28 = .ok (.iload_n 2, 1) := by decide +kernel
theorem dX5_readStation_29 : decode cX5_readStation 29 = .ok (.invokevirtual 62, 3) := by decide +kernel
theorem dX5_readStation_32 : decode cX5_readStation 32 = .ok (.ifnull 9, 3) := by decide +kernel
theorem dX5_readStation_35 : decode cX5_readStation 35 = .ok (.aload_n 0, 1) := by decide +kernel
theorem dX5_readStation_36 : decode cX5_readStation 36 = .ok (.iload_n 1, 1) := by decide +kernel
theorem dX5_readStation_37 : decode cX5_readStation 37 = .ok (.invokevirtual 52, 3) := by decide +kernel
theorem dX5_readStation_40 : decode cX5_readStation 40 = .ok (.ireturn, 1) := by decide +kernel
theorem dX5_readStation_41 : decode cX5_readStation 41 = .ok (.aload_n 0, 1) := by decide +kernel
theorem dX5_readStation_42 : decode cX5_readStation 42 = .ok (.bipush 59, 2) := by decide +kernel
theorem dX5_readStation_44 : decode cX5_readStation 44 = .ok (.invokevirtual 66, 3) := by decide +kernel
theorem dX5_readStation_47 : decode cX5_readStation 47 = .ok (.ifCond .ne 5, 3) := by decide +kernel
theorem dX5_readStation_50 : decode cX5_readStation 50 = .ok (.iconst 0, 1) := by decide +kernel
theorem dX5_readStation_51 : decode cX5_readStation 51 = .ok (.ireturn, 1) := by decide +kernel
theorem dX5_readStation_52 : decode cX5_readStation 52 = .ok (.aload_n 0, 1) := by decide +kernel
theorem dX5_readStation_53 : decode cX5_readStation 53 = .ok (.aload_n 0, 1) := by decide +kernel
theorem dX5_readStation_54 : decode cX5_readStation 54 = .ok (.getfield 22, 3) := by decide +kernel
theorem dX5_readStation_57 : decode cX5_readStation 57 = .ok (.iload_n 2, 1) := by decide +kernel
theorem dX5_readStation_58 : decode cX5_readStation 58 = .ok (.invokevirtual 69, 3) := by decide +kernel
theorem dX5_readStation_61 : decode cX5_readStation 61 = .ok (.putfield 45, 3) := by decide +kernel
theorem dX5_readStation_64 : decode cX5_readStation 64 = .ok (.iconst 1, 1) := by decide +kernel
theorem dX5_readStation_65 : decode cX5_readStation 65 = .ok (.ireturn, 1) := by decide +kernel
theorem dX5_readMessage_0 : decode cX5_readMessage 0 = .ok (.aload_n 0, 1) := by decide +kernel
theorem dX5_readMessage_1 : decode cX5_readMessage 1 = .ok (.getfield 26, 3) := by decide +kernel
theorem dX5_readMessage_4 : decode cX5_readMessage 4 = .ok (.istore_n 1, 1) := by decide +kernel
theorem dX5_readMessage_5 : decode cX5_readMessage 5 = .ok (.aload_n 0, 1) := by decide +kernel
theorem dX5_readMessage_6 : decode cX5_readMessage 6 = .ok (.invokevirtual 56, 3) := by decide +kernel
theorem dX5_readMessage_9 : decode cX5_readMessage 9 = .ok (.istore_n 2, 1) := by decide +kernel
theorem dX5_readMessage_10 : decode cX5_readMessage 10 = .ok (.iload_n 2, 1) := by decide +kernel
theorem dX5_readMessage_11 : decode cX5_readMessage 11 = .ok (.iconst (-1), 1) := by decide +kernel
theorem dX5_readMessage_12 : decode cX5_readMessage 12 = .ok (.if_icmp .ne 5, 3) := by decide +kernel
theorem dX5_readMessage_15 : decode cX5_readMessage 15 = .ok (.iconst 0, 1) := by decide +kernel
theorem dX5_readMessage_16 : decode cX5_readMessage 16 = .ok (.ireturn, 1) := by decide +kernel
theorem dX5_readMessage_17 : decode cX5_readMessage 17 = .ok (.iload_n 2, 1) := by decide +kernel
theorem dX5_readMessage_18 : decode cX5_readMessage 18 = .ok (.iconst 1, 1) := by decide +kernel
theorem dX5_readMessage_19 : decode cX5_readMessage 19 = .ok (.bipush 20, 2) := by decide +kernel
theorem dX5_readMessage_21 : decode cX5_readMessage 21 = .ok (.invokestatic 72, 3) := by decide +kernel
theorem dX5_readMessage_24 : decode cX5_readMessage 24 = .ok (.ifCond .ne 9, 3) := by decide +kernel
theorem dX5_readMessage_27 : decode cX5_readMessage 27 = .ok (.aload_n 0, 1) := by decide +kernel
theorem dX5_readMessage_28 : decode cX5_readMessage 28 = .ok (.iload_n 1, 1) := by decide +kernel
theorem dX5_readMessage_29 : decode cX5_readMessage 29 = .ok (.invokevirtual 52, 3) := by decide +kernel
theorem dX5_readMessage_32 : decode cX5_readMessage 32 = .ok (.ireturn, 1) := by decide +kernel
theorem dX5_readMessage_33 : decode cX5_readMessage 33 = .ok (.aload_n 0, 1) := by decide +kernel
theorem dX5_readMessage_34 : decode cX5_readMessage 34 = .ok (.bipush 44, 2) := by decide +kernel
theorem dX5_readMessage_36 : decode cX5_readMessage 36 = .ok (.invokevirtual 66, 3) := by decide +kernel
theorem dX5_readMessage_39 : decode cX5_readMessage 39 = .ok (.ifCond .ne 5, 3) := by decide +kernel
theorem dX5_readMessage_42 : decode cX5_readMessage 42 = .ok (.iconst 0, 1) := by decide +kernel
theorem dX5_readMessage_43 : decode cX5_readMessage 43 = .ok (.ireturn, 1) := by decide +kernel
theorem dX5_readMessage_44 : decode cX5_readMessage 44 = .ok (.aload_n 0, 1) := by decide +kernel
theorem dX5_readMessage_45 : decode cX5_readMessage 45 = .ok (.invokevirtual 76, 3) := by decide +kernel
theorem dX5_readMessage_48 : decode cX5_readMessage 48 = .ok (.istore_n 3, 1) := by decide +kernel
theorem dX5_readMessage_49 : decode cX5_readMessage 49 = .ok (.iload_n 3, 1) := by decide +kernel
theorem dX5_readMessage_50 : decode cX5_readMessage 50 = .ok (.iconst (-1), 1) := by decide +kernel
theorem dX5_readMessage_51 : decode cX5_readMessage 51 = .ok (.if_icmp .ne 12, 3) := by decide +kernel
theorem dX5_readMessage_54 : decode cX5_readMessage 54 = .ok (.aload_n 0, 1) := by decide +kernel
theorem dX5_readMessage_55 : decode cX5_readMessage 55 = .ok (.aload_n 0, 1) := by decide +kernel
theorem dX5_readMessage_56 : decode cX5_readMessage 56 = .ok (.getfield 26, 3) := by decide +kernel
theorem dX5_readMessage_59 : decode cX5_readMessage 59 = .ok (.invokevirtual 52, 3) := by decide +kernel
theorem dX5_readMessage_62 : decode cX5_readMessage 62 = .ok (.ireturn, 1) := by decide +kernel
theorem dX5_readMessage_63 : decode cX5_readMessage 63 = .ok (.aload_n 0, 1) := by decide +kernel
theorem dX5_readMessage_64 : decode cX5_readMessage 64 = .ok (.dup, 1) := by decide +kernel
theorem dX5_readMessage_65 : decode cX5_readMessage 65 = .ok (.getfield 26, 3) := by decide +kernel
theorem dX5_readMessage_68 : decode cX5_readMessage 68 = .ok (.iconst 1, 1) := by decide +kernel
theorem dX5_readMessage_69 : decode cX5_readMessage 69 = .ok (.iadd, 1) := by decide +kernel
theorem dX5_readMessage_70 : decode cX5_readMessage 70 = .ok (.putfield 26, 3) := by decide +kernel
theorem dX5_readMessage_73 : decode cX5_readMessage 73 = .ok (.aload_n 0, 1) := by decide +kernel
theorem dX5_readMessage_74 : decode cX5_readMessage 74 = .ok (.bipush 59, 2) := by decide +kernel
theorem dX5_readMessage_76 : decode cX5_readMessage 76 = .ok (.invokevirtual 66, 3) := by decide +kernel
theorem dX5_readMessage_79 : decode cX5_readMessage 79 = .ok (.ifCond .eq 10, 3) := by decide +kernel
theorem dX5_readMessage_82 : decode cX5_readMessage 82 = .ok (.aload_n 0, 1) := by decide +kernel
theorem dX5_readMessage_83 : decode cX5_readMessage 83 = .ok (.getfield 45, 3) := by decide +kernel
theorem dX5_readMessage_86 : decode cX5_readMessage 86 = .ok (.ifnonnull 5, 3) := by decide +kernel
theorem dX5_readMessage_89 : decode cX5_readMessage 89 = .ok (.iconst 0, 1) := by decide +kernel
theorem dX5_readMessage_90 : decode cX5_readMessage 90 = .ok (.ireturn, 1) := by decide +kernel
theorem dX5_readMessage_91 : decode cX5_readMessage 91 = .ok (.aload_n 0, 1) := by decide +kernel
theorem dX5_readMessage_92 : decode cX5_readMessage 92 = .ok (.getfield 22, 3) := by decide +kernel
theorem dX5_readMessage_95 : decode cX5_readMessage 95 = .ok (.getfield 79, 3) := by decide +kernel
theorem dX5_readMessage_98 : decode cX5_readMessage 98 = .ok (.aload_n 0, 1) := by decide +kernel
theorem dX5_readMessage_99 : decode cX5_readMessage 99 = .ok (.getfield 45, 3) := by decide +kernel
theorem dX5_readMessage_102 : decode cX5_readMessage 102 = .ok (.iload_n 2, 1) := by decide +kernel
theorem dX5_readMessage_103 : decode cX5_readMessage 103 = .ok (.iload_n 3, 1) := by decide +kernel
theorem dX5_readMessage_104 : decode cX5_readMessage 104 = .ok (.aload_n 0, 1) := by decide +kernel
theorem dX5_readMessage_105 : decode cX5_readMessage 105 = .ok (.getfield 22, 3) := by decide +kernel
theorem dX5_readMessage_108 : decode cX5_readMessage 108 = .ok (.getfield 83, 3) := by decide +kernel
theorem dX5_readMessage_111 : decode cX5_readMessage 111 = .ok (.invokevirtual 86, 3) := by decide +kernel
theorem dX5_readMessage_114 : decode cX5_readMessage 114 = .ok (.pop, 1) := by decide +kernel
theorem dX5_readMessage_115 : decode cX5_readMessage 115 = .ok (.iconst 1, 1) := by decide +kernel
theorem dX5_readMessage_116 : decode cX5_readMessage 116 = .ok (.ireturn, 1) := by decide +kernel
theorem dX5_readNumber_0 : decode cX5_readNumber 0 = .ok (.aload_n 0, 1) := by decide +kernel
theorem dX5_readNumber_1 : decode cX5_readNumber 1 = .ok (.invokevirtual 76, 3) := by decide +kernel
theorem dX5_readNumber_4 : decode cX5_readNumber 4 = .ok (.istore_n 1, 1) := by decide +kernel
theorem dX5_readNumber_5 : decode cX5_readNumber 5 = .ok (.iload_n 1, 1) := by decide +kernel
theorem dX5_readNumber_6 : decode cX5_readNumber 6 = .ok (.iconst (-1), 1) := by decide +kernel
theorem dX5_readNumber_7 : decode cX5_readNumber 7 = .ok (.if_icmp .ne 14, 3) := by decide +kernel
theorem dX5_readNumber_10 : decode cX5_readNumber 10 = .ok (.aload_n 0, 1) := by decide +kernel
theorem dX5_readNumber_11 : decode cX5_readNumber 11 = .ok (.aload_n 0, 1) := by decide +kernel
theorem dX5_readNumber_12 : decode cX5_readNumber 12 = .ok (.getfield 26, 3) := by decide +kernel
theorem dX5_readNumber_15 : decode cX5_readNumber 15 = .ok (.invokevirtual 52, 3) := by decide +kernel
theorem dX5_readNumber_18 : decode cX5_readNumber 18 = .ok (.pop, 1) := by decide +kernel
theorem dX5_readNumber_19 : decode cX5_readNumber 19 = .ok (.iconst (-1), 1) := by decide +kernel
theorem dX5_readNumber_20 : decode cX5_readNumber 20 = .ok (.ireturn, 1) := by decide +kernel
theorem dX5_readNumber_21 : decode cX5_readNumber 21 = .ok (.aload_n 0, 1) := by decide +kernel
theorem dX5_readNumber_22 : decode cX5_readNumber 22 = .ok (.dup, 1) := by decide +kernel
theorem dX5_readNumber_23 : decode cX5_readNumber 23 = .ok (.getfield 26, 3) := by decide +kernel
theorem dX5_readNumber_26 : decode cX5_readNumber 26 = .ok (.iconst 1, 1) := by decide +kernel
theorem dX5_readNumber_27 : decode cX5_readNumber 27 = .ok (.iadd, 1) := by decide +kernel
theorem dX5_readNumber_28 : decode cX5_readNumber 28 = .ok (.putfield 26, 3) := by decide +kernel
theorem dX5_readNumber_31 : decode cX5_readNumber 31 = .ok (.aload_n 0, 1) := by decide +kernel
theorem dX5_readNumber_32 : decode cX5_readNumber 32 = .ok (.invokevirtual 76, 3) := by decide +kernel
theorem dX5_readNumber_35 : decode cX5_readNumber 35 = .ok (.istore_n 2, 1) := by decide +kernel
theorem dX5_readNumber_36 : decode cX5_readNumber 36 = .ok (.iload_n 2, 1) := by decide +kernel
theorem dX5_readNumber_37 : decode cX5_readNumber 37 = .ok (.iconst (-1), 1) := by decide +kernel
theorem dX5_readNumber_38 : decode cX5_readNumber 38 = .ok (.if_icmp .ne 5, 3) := by decide +kernel
theorem dX5_readNumber_41 : decode cX5_readNumber 41 = .ok (.iload_n 1, 1) := by decide +kernel
theorem dX5_readNumber_42 : decode cX5_readNumber 42 = .ok (.ireturn, 1) := by decide +kernel
theorem dX5_readNumber_43 : decode cX5_readNumber 43 = .ok (.aload_n 0, 1) := by decide +kernel
theorem dX5_readNumber_44 : decode cX5_readNumber 44 = .ok (.dup, 1) := by decide +kernel
theorem dX5_readNumber_45 : decode cX5_readNumber 45 = .ok (.getfield 26, 3) := by decide +kernel
theorem dX5_readNumber_48 : decode cX5_readNumber 48 = .ok (.iconst 1, 1) := by decide +kernel
theorem dX5_readNumber_49 : decode cX5_readNumber 49 = .ok (.iadd, 1) := by decide +kernel
theorem dX5_readNumber_50 : decode cX5_readNumber 50 = .ok (.putfield 26, 3) := by decide +kernel
theorem dX5_readNumber_53 : decode cX5_readNumber 53 = .ok (.aload_n 0, 1) := by decide +kernel
theorem dX5_readNumber_54 : decode cX5_readNumber 54 = .ok (.invokevirtual 76, 3) := by decide +kernel
theorem dX5_readNumber_57 : decode cX5_readNumber 57 = .ok (.iconst (-1), 1) := by decide +kernel
theorem dX5_readNumber_58 : decode cX5_readNumber 58 = .ok (.if_icmp .eq 14, 3) := by decide +kernel
theorem dX5_readNumber_61 : decode cX5_readNumber 61 = .ok (.aload_n 0, 1) := by decide +kernel
theorem dX5_readNumber_62 : decode cX5_readNumber 62 = .ok (.aload_n 0, 1) := by decide +kernel
theorem dX5_readNumber_63 : decode cX5_readNumber 63 = .ok (.getfield 26, 3) := by decide +kernel
theorem dX5_readNumber_66 : decode cX5_readNumber 66 = .ok (.invokevirtual 52, 3) := by decide +kernel
theorem dX5_readNumber_69 : decode cX5_readNumber 69 = .ok (.pop, 1) := by decide +kernel
theorem dX5_readNumber_70 : decode cX5_readNumber 70 = .ok (.iconst (-1), 1) := by decide +kernel
theorem dX5_readNumber_71 : decode cX5_readNumber 71 = .ok (.ireturn, 1) := by decide +kernel
theorem dX5_readNumber_72 : decode cX5_readNumber 72 = .ok (.bipush 10, 2) := by decide +kernel
theorem dX5_readNumber_74 : decode cX5_readNumber 74 = .ok (.iload_n 1, 1) := by decide +kernel
theorem dX5_readNumber_75 : decode cX5_readNumber 75 = .ok (.imul, 1) := by decide +kernel
theorem dX5_readNumber_76 : decode cX5_readNumber 76 = .ok (.iload_n 2, 1) := by decide +kernel
theorem dX5_readNumber_77 : decode cX5_readNumber 77 = .ok (.iadd, 1) := by decide +kernel
theorem dX5_readNumber_78 : decode cX5_readNumber 78 = .ok (.ireturn, 1) := by decide +kernel
theorem dX5_skips_0 : decode cX5_skips 0 = .ok (.aload_n 0, 1) := by decide +kernel
theorem dX5_skips_1 : decode cX5_skips 1 = .ok (.invokevirtual 33, 3) := by decide +kernel
theorem dX5_skips_4 : decode cX5_skips 4 = .ok (.iload_n 1, 1) := by decide +kernel
theorem dX5_skips_5 : decode cX5_skips 5 = .ok (.if_icmp .eq 12, 3) := by decide +kernel
theorem dX5_skips_8 : decode cX5_skips 8 = .ok (.aload_n 0, 1) := by decide +kernel
theorem dX5_skips_9 : decode cX5_skips 9 = .ok (.aload_n 0, 1) := by decide +kernel
theorem dX5_skips_10 : decode cX5_skips 10 = .ok (.getfield 26, 3) := by decide +kernel
theorem dX5_skips_13 : decode cX5_skips 13 = .ok (.invokevirtual 52, 3) := by decide +kernel
theorem dX5_skips_16 : decode cX5_skips 16 = .ok (.ireturn, 1) := by decide +kernel
theorem dX5_skips_17 : decode cX5_skips 17 = .ok (.aload_n 0, 1) := by decide +kernel
theorem dX5_skips_18 : decode cX5_skips 18 = .ok (.dup, 1) := by decide +kernel
theorem dX5_skips_19 : decode cX5_skips 19 = .ok (.getfield 26, 3) := by decide +kernel
theorem dX5_skips_22 : decode cX5_skips 22 = .ok (.iconst 1, 1) := by decide +kernel
theorem dX5_skips_23 : decode cX5_skips 23 = .ok (.iadd, 1) := by decide +kernel
theorem dX5_skips_24 : decode cX5_skips 24 = .ok (.putfield 26, 3) := by decide +kernel
theorem dX5_skips_27 : decode cX5_skips 27 = .ok (.iconst 1, 1) := by decide +kernel
theorem dX5_skips_28 : decode cX5_skips 28 = .ok (.ireturn, 1) := by decide +kernel
theorem dX5_sign_0 : decode cX5_sign 0 = .ok (.aload_n 0, 1) := by decide +kernel
theorem dX5_sign_1 : decode cX5_sign 1 = .ok (.getfield 26, 3) := by decide +kernel
theorem dX5_sign_4 : decode cX5_sign 4 = .ok (.ifCond .lt 38, 3) := by decide +kernel
theorem dX5_sign_7 : decode cX5_sign 7 = .ok (.aload_n 0, 1) := by decide +kernel
theorem dX5_sign_8 : decode cX5_sign 8 = .ok (.getfield 26, 3) := by decide +kernel
theorem dX5_sign_11 : decode cX5_sign 11 = .ok (.aload_n 0, 1) := by decide +kernel
theorem dX5_sign_12 : decode cX5_sign 12 = .ok (.getfield 19, 3) := by decide +kernel
theorem dX5_sign_15 : decode cX5_sign 15 = .ok (.if_icmp .ge 27, 3) := by decide +kernel
theorem dX5_sign_18 : decode cX5_sign 18 = .ok (.aload_n 0, 1) := by decide +kernel
theorem dX5_sign_19 : decode cX5_sign 19 = .ok (.getfield 26, 3) := by decide +kernel
theorem dX5_sign_22 : decode cX5_sign 22 = .ok (.aload_n 0, 1) := by decide +kernel
theorem dX5_sign_23 : decode cX5_sign 23 = .ok (.getfield 15, 3) := by decide +kernel
theorem dX5_sign_26 : decode cX5_sign 26 = .ok (.arraylength, 1) := by decide +kernel
theorem dX5_sign_27 : decode cX5_sign 27 = .ok (.if_icmp .ge 15, 3) := by decide +kernel
theorem dX5_sign_30 : decode cX5_sign 30 = .ok (.aload_n 0, 1) := by decide +kernel
theorem dX5_sign_31 : decode cX5_sign 31 = .ok (.getfield 15, 3) := by decide +kernel
theorem dX5_sign_34 : decode cX5_sign 34 = .ok (.aload_n 0, 1) := by decide +kernel
theorem dX5_sign_35 : decode cX5_sign 35 = .ok (.getfield 26, 3) := by decide +kernel
theorem dX5_sign_38 : decode cX5_sign 38 = .ok (.baload, 1) := by decide +kernel
theorem dX5_sign_39 : decode cX5_sign 39 = .ok (.goto 4, 3) := by decide +kernel
theorem dX5_sign_42 : decode cX5_sign 42 = .ok (.iconst (-1), 1) := by decide +kernel
theorem dX5_sign_43 : decode cX5_sign 43 = .ok (.ireturn, 1) := by decide +kernel
theorem dX5_digit_0 : decode cX5_digit 0 = .ok (.aload_n 0, 1) := by decide +kernel
theorem dX5_digit_1 : decode cX5_digit 1 = .ok (.invokevirtual 33, 3) := by decide +kernel
theorem dX5_digit_4 : decode cX5_digit 4 = .ok (.istore_n 1, 1) := by decide +kernel
theorem dX5_digit_5 : decode cX5_digit 5 = .ok (.iload_n 1, 1) := by decide +kernel
theorem dX5_digit_6 : decode cX5_digit 6 = .ok (.bipush 48, 2) := by decide +kernel
theorem dX5_digit_8 : decode cX5_digit 8 = .ok (.if_icmp .lt 16, 3) := by decide +kernel
theorem dX5_digit_11 : decode cX5_digit 11 = .ok (.iload_n 1, 1) := by decide +kernel
theorem dX5_digit_12 : decode cX5_digit 12 = .ok (.bipush 57, 2) := by decide +kernel
theorem dX5_digit_14 : decode cX5_digit 14 = .ok (.if_icmp .gt 10, 3) := by decide +kernel
theorem dX5_digit_17 : decode cX5_digit 17 = .ok (.iload_n 1, 1) := by decide +kernel
theorem dX5_digit_18 : decode cX5_digit 18 = .ok (.bipush 48, 2) := by decide +kernel
theorem dX5_digit_20 : decode cX5_digit 20 = .ok (.isub, 1) := by decide +kernel
theorem dX5_digit_21 : decode cX5_digit 21 = .ok (.goto 4, 3) := by decide +kernel
theorem dX5_digit_24 : decode cX5_digit 24 = .ok (.iconst (-1), 1) := by decide +kernel
theorem dX5_digit_25 : decode cX5_digit 25 = .ok (.ireturn, 1) := by decide +kernel
theorem dX5_failsAt_0 : decode cX5_failsAt 0 = .ok (.aload_n 0, 1) := by decide +kernel
theorem dX5_failsAt_1 : decode cX5_failsAt 1 = .ok (.iload_n 1, 1) := by decide +kernel
theorem dX5_failsAt_2 : decode cX5_failsAt 2 = .ok (.putfield 9, 3) := by decide +kernel
theorem dX5_failsAt_5 : decode cX5_failsAt 5 = .ok (.iconst 0, 1) := by decide +kernel
theorem dX5_failsAt_6 : decode cX5_failsAt 6 = .ok (.ireturn, 1) := by decide +kernel
theorem dX6_init_0 : decode cX6_init 0 = .ok (.aload_n 0, 1) := by decide +kernel
theorem dX6_init_1 : decode cX6_init 1 = .ok (.invokespecial 3, 3) := by decide +kernel
theorem dX6_init_4 : decode cX6_init 4 = .ok (.return_, 1) := by decide +kernel
theorem dX6_reset_0 : decode cX6_reset 0 = .ok (.aload_n 0, 1) := by decide +kernel
theorem dX6_reset_1 : decode cX6_reset 1 = .ok (.iload_n 1, 1) := by decide +kernel
theorem dX6_reset_2 : decode cX6_reset 2 = .ok (.putfield 9, 3) := by decide +kernel
theorem dX6_reset_5 : decode cX6_reset 5 = .ok (.aload_n 0, 1) := by decide +kernel
theorem dX6_reset_6 : decode cX6_reset 6 = .ok (.iconst 1, 1) := by decide +kernel
theorem dX6_reset_7 : decode cX6_reset 7 = .ok (.putfield 15, 3) := by decide +kernel
theorem dX6_reset_10 : decode cX6_reset 10 = .ok (.aload_n 0, 1) := by decide +kernel
theorem dX6_reset_11 : decode cX6_reset 11 = .ok (.iconst 0, 1) := by decide +kernel
theorem dX6_reset_12 : decode cX6_reset 12 = .ok (.putfield 19, 3) := by decide +kernel
theorem dX6_reset_15 : decode cX6_reset 15 = .ok (.aload_n 0, 1) := by decide +kernel
theorem dX6_reset_16 : decode cX6_reset 16 = .ok (.iload_n 1, 1) := by decide +kernel
theorem dX6_reset_17 : decode cX6_reset 17 = .ok (.putfield 22, 3) := by decide +kernel
theorem dX6_reset_20 : decode cX6_reset 20 = .ok (.aload_n 0, 1) := by decide +kernel
theorem dX6_reset_21 : decode cX6_reset 21 = .ok (.iload_n 1, 1) := by decide +kernel
theorem dX6_reset_22 : decode cX6_reset 22 = .ok (.putfield 25, 3) := by decide +kernel
theorem dX6_reset_25 : decode cX6_reset 25 = .ok (.aload_n 0, 1) := by decide +kernel
theorem dX6_reset_26 : decode cX6_reset 26 = .ok (.iconst (-1), 1) := by decide +kernel
theorem dX6_reset_27 : decode cX6_reset 27 = .ok (.putfield 28, 3) := by decide +kernel
theorem dX6_reset_30 : decode cX6_reset 30 = .ok (.aload_n 0, 1) := by decide +kernel
theorem dX6_reset_31 : decode cX6_reset 31 = .ok (.iconst 0, 1) := by decide +kernel
theorem dX6_reset_32 : decode cX6_reset 32 = .ok (.putfield 31, 3) := by decide +kernel
theorem dX6_reset_35 : decode cX6_reset 35 = .ok (.aload_n 0, 1) := by decide +kernel
theorem dX6_reset_36 : decode cX6_reset 36 = .ok (.iconst 0, 1) := by decide +kernel
theorem dX6_reset_37 : decode cX6_reset 37 = .ok (.putfield 34, 3) := by decide +kernel
theorem dX6_reset_40 : decode cX6_reset 40 = .ok (.aload_n 0, 1) := by decide +kernel
theorem dX6_reset_41 : decode cX6_reset 41 = .ok (.iconst (-1), 1) := by decide +kernel
theorem dX6_reset_42 : decode cX6_reset 42 = .ok (.putfield 37, 3) := by decide +kernel
theorem dX6_reset_45 : decode cX6_reset 45 = .ok (.return_, 1) := by decide +kernel
theorem dX6_copyFrom_0 : decode cX6_copyFrom 0 = .ok (.aload_n 0, 1) := by decide +kernel
theorem dX6_copyFrom_1 : decode cX6_copyFrom 1 = .ok (.aload_n 1, 1) := by decide +kernel
theorem dX6_copyFrom_2 : decode cX6_copyFrom 2 = .ok (.getfield 9, 3) := by decide +kernel
theorem dX6_copyFrom_5 : decode cX6_copyFrom 5 = .ok (.putfield 9, 3) := by decide +kernel
theorem dX6_copyFrom_8 : decode cX6_copyFrom 8 = .ok (.aload_n 0, 1) := by decide +kernel
theorem dX6_copyFrom_9 : decode cX6_copyFrom 9 = .ok (.aload_n 1, 1) := by decide +kernel
theorem dX6_copyFrom_10 : decode cX6_copyFrom 10 = .ok (.getfield 15, 3) := by decide +kernel
theorem dX6_copyFrom_13 : decode cX6_copyFrom 13 = .ok (.putfield 15, 3) := by decide +kernel
theorem dX6_copyFrom_16 : decode cX6_copyFrom 16 = .ok (.aload_n 0, 1) := by decide +kernel
theorem dX6_copyFrom_17 : decode cX6_copyFrom 17 = .ok (.aload_n 1, 1) := by decide +kernel
theorem dX6_copyFrom_18 : decode cX6_copyFrom 18 = .ok (.getfield 19, 3) := by decide +kernel
theorem dX6_copyFrom_21 : decode cX6_copyFrom 21 = .ok (.putfield 19, 3) := by decide +kernel
theorem dX6_copyFrom_24 : decode cX6_copyFrom 24 = .ok (.aload_n 0, 1) := by decide +kernel
theorem dX6_copyFrom_25 : decode cX6_copyFrom 25 = .ok (.aload_n 1, 1) := by decide +kernel
theorem dX6_copyFrom_26 : decode cX6_copyFrom 26 = .ok (.getfield 22, 3) := by decide +kernel
theorem dX6_copyFrom_29 : decode cX6_copyFrom 29 = .ok (.putfield 22, 3) := by decide +kernel
theorem dX6_copyFrom_32 : decode cX6_copyFrom 32 = .ok (.aload_n 0, 1) := by decide +kernel
theorem dX6_copyFrom_33 : decode cX6_copyFrom 33 = .ok (.aload_n 1, 1) := by decide +kernel
theorem dX6_copyFrom_34 : decode cX6_copyFrom 34 = .ok (.getfield 25, 3) := by decide +kernel
theorem dX6_copyFrom_37 : decode cX6_copyFrom 37 = .ok (.putfield 25, 3) := by decide +kernel
theorem dX6_copyFrom_40 : decode cX6_copyFrom 40 = .ok (.aload_n 0, 1) := by decide +kernel
theorem dX6_copyFrom_41 : decode cX6_copyFrom 41 = .ok (.aload_n 1, 1) := by decide +kernel
theorem dX6_copyFrom_42 : decode cX6_copyFrom 42 = .ok (.getfield 28, 3) := by decide +kernel
theorem dX6_copyFrom_45 : decode cX6_copyFrom 45 = .ok (.putfield 28, 3) := by decide +kernel
theorem dX6_copyFrom_48 : decode cX6_copyFrom 48 = .ok (.aload_n 0, 1) := by decide +kernel
theorem dX6_copyFrom_49 : decode cX6_copyFrom 49 = .ok (.aload_n 1, 1) := by decide +kernel
theorem dX6_copyFrom_50 : decode cX6_copyFrom 50 = .ok (.getfield 31, 3) := by decide +kernel
theorem dX6_copyFrom_53 : decode cX6_copyFrom 53 = .ok (.putfield 31, 3) := by decide +kernel
theorem dX6_copyFrom_56 : decode cX6_copyFrom 56 = .ok (.aload_n 0, 1) := by decide +kernel
theorem dX6_copyFrom_57 : decode cX6_copyFrom 57 = .ok (.aload_n 1, 1) := by decide +kernel
theorem dX6_copyFrom_58 : decode cX6_copyFrom 58 = .ok (.getfield 34, 3) := by decide +kernel
theorem dX6_copyFrom_61 : decode cX6_copyFrom 61 = .ok (.putfield 34, 3) := by decide +kernel
theorem dX6_copyFrom_64 : decode cX6_copyFrom 64 = .ok (.aload_n 0, 1) := by decide +kernel
theorem dX6_copyFrom_65 : decode cX6_copyFrom 65 = .ok (.aload_n 1, 1) := by decide +kernel
theorem dX6_copyFrom_66 : decode cX6_copyFrom 66 = .ok (.getfield 37, 3) := by decide +kernel
theorem dX6_copyFrom_69 : decode cX6_copyFrom 69 = .ok (.putfield 37, 3) := by decide +kernel
theorem dX6_copyFrom_72 : decode cX6_copyFrom 72 = .ok (.return_, 1) := by decide +kernel
theorem dX6_value_0 : decode cX6_value 0 = .ok (.iload_n 1, 1) := by decide +kernel
theorem dX6_value_1 : decode cX6_value 1 = .ok (.tableswitch 85 0 5 #[39, 52, 65, 70, 75, 80], 39) := by decide +kernel
theorem dX6_value_40 : decode cX6_value 40 = .ok (.aload_n 0, 1) := by decide +kernel
theorem dX6_value_41 : decode cX6_value 41 = .ok (.getfield 15, 3) := by decide +kernel
theorem dX6_value_44 : decode cX6_value 44 = .ok (.ifCond .eq 7, 3) := by decide +kernel
theorem dX6_value_47 : decode cX6_value 47 = .ok (.iconst 1, 1) := by decide +kernel
theorem dX6_value_48 : decode cX6_value 48 = .ok (.goto 4, 3) := by decide +kernel
theorem dX6_value_51 : decode cX6_value 51 = .ok (.iconst 0, 1) := by decide +kernel
theorem dX6_value_52 : decode cX6_value 52 = .ok (.ireturn, 1) := by decide +kernel
theorem dX6_value_53 : decode cX6_value 53 = .ok (.aload_n 0, 1) := by decide +kernel
theorem dX6_value_54 : decode cX6_value 54 = .ok (.getfield 19, 3) := by decide +kernel
theorem dX6_value_57 : decode cX6_value 57 = .ok (.ifCond .eq 7, 3) := by decide +kernel
theorem dX6_value_60 : decode cX6_value 60 = .ok (.iconst 1, 1) := by decide +kernel
theorem dX6_value_61 : decode cX6_value 61 = .ok (.goto 4, 3) := by decide +kernel
theorem dX6_value_64 : decode cX6_value 64 = .ok (.iconst 0, 1) := by decide +kernel
theorem dX6_value_65 : decode cX6_value 65 = .ok (.ireturn, 1) := by decide +kernel
theorem dX6_value_66 : decode cX6_value 66 = .ok (.aload_n 0, 1) := by decide +kernel
theorem dX6_value_67 : decode cX6_value 67 = .ok (.getfield 22, 3) := by decide +kernel
theorem dX6_value_70 : decode cX6_value 70 = .ok (.ireturn, 1) := by decide +kernel
theorem dX6_value_71 : decode cX6_value 71 = .ok (.aload_n 0, 1) := by decide +kernel
theorem dX6_value_72 : decode cX6_value 72 = .ok (.getfield 25, 3) := by decide +kernel
theorem dX6_value_75 : decode cX6_value 75 = .ok (.ireturn, 1) := by decide +kernel
theorem dX6_value_76 : decode cX6_value 76 = .ok (.aload_n 0, 1) := by decide +kernel
theorem dX6_value_77 : decode cX6_value 77 = .ok (.getfield 31, 3) := by decide +kernel
theorem dX6_value_80 : decode cX6_value 80 = .ok (.ireturn, 1) := by decide +kernel
theorem dX6_value_81 : decode cX6_value 81 = .ok (.aload_n 0, 1) := by decide +kernel
theorem dX6_value_82 : decode cX6_value 82 = .ok (.getfield 34, 3) := by decide +kernel
theorem dX6_value_85 : decode cX6_value 85 = .ok (.ireturn, 1) := by decide +kernel
theorem dX6_value_86 : decode cX6_value 86 = .ok (.aload_n 0, 1) := by decide +kernel
theorem dX6_value_87 : decode cX6_value 87 = .ok (.getfield 37, 3) := by decide +kernel
theorem dX6_value_90 : decode cX6_value 90 = .ok (.ireturn, 1) := by decide +kernel
theorem dX7_init_0 : decode cX7_init 0 = .ok (.aload_n 0, 1) := by decide +kernel
theorem dX7_init_1 : decode cX7_init 1 = .ok (.invokespecial 3, 3) := by decide +kernel
theorem dX7_init_4 : decode cX7_init 4 = .ok (.aload_n 0, 1) := by decide +kernel
theorem dX7_init_5 : decode cX7_init 5 = .ok (.iload_n 2, 1) := by decide +kernel
theorem dX7_init_6 : decode cX7_init 6 = .ok (.putfield 9, 3) := by decide +kernel
theorem dX7_init_9 : decode cX7_init 9 = .ok (.aload_n 0, 1) := by decide +kernel
theorem dX7_init_10 : decode cX7_init 10 = .ok (.iload_n 1, 1) := by decide +kernel
theorem dX7_init_11 : decode cX7_init 11 = .ok (.iload_n 2, 1) := by decide +kernel
theorem dX7_init_12 : decode cX7_init 12 = .ok (.imul, 1) := by decide +kernel
theorem dX7_init_13 : decode cX7_init 13 = .ok (.newarray .int, 2) := by decide +kernel
theorem dX7_init_15 : decode cX7_init 15 = .ok (.putfield 15, 3) := by decide +kernel
theorem dX7_init_18 : decode cX7_init 18 = .ok (.return_, 1) := by decide +kernel
theorem dX7_at_0 : decode cX7_at 0 = .ok (.iload_n 1, 1) := by decide +kernel
theorem dX7_at_1 : decode cX7_at 1 = .ok (.aload_n 0, 1) := by decide +kernel
theorem dX7_at_2 : decode cX7_at 2 = .ok (.getfield 9, 3) := by decide +kernel
theorem dX7_at_5 : decode cX7_at 5 = .ok (.imul, 1) := by decide +kernel
theorem dX7_at_6 : decode cX7_at 6 = .ok (.iload_n 2, 1) := by decide +kernel
theorem dX7_at_7 : decode cX7_at 7 = .ok (.iadd, 1) := by decide +kernel
theorem dX7_at_8 : decode cX7_at 8 = .ok (.istore_n 3, 1) := by decide +kernel
theorem dX7_at_9 : decode cX7_at 9 = .ok (.iload_n 3, 1) := by decide +kernel
theorem dX7_at_10 : decode cX7_at 10 = .ok (.ifCond .lt 21, 3) := by decide +kernel
theorem dX7_at_13 : decode cX7_at 13 = .ok (.iload_n 3, 1) := by decide +kernel
theorem dX7_at_14 : decode cX7_at 14 = .ok (.aload_n 0, 1) := by decide +kernel
theorem dX7_at_15 : decode cX7_at 15 = .ok (.getfield 15, 3) := by decide +kernel
theorem dX7_at_18 : decode cX7_at 18 = .ok (.arraylength, 1) := by decide +kernel
theorem dX7_at_19 : decode cX7_at 19 = .ok (.if_icmp .ge 12, 3) := by decide +kernel
theorem dX7_at_22 : decode cX7_at 22 = .ok (.aload_n 0, 1) := by decide +kernel
theorem dX7_at_23 : decode cX7_at 23 = .ok (.getfield 15, 3) := by decide +kernel
theorem dX7_at_26 : decode cX7_at 26 = .ok (.iload_n 3, 1) := by decide +kernel
theorem dX7_at_27 : decode cX7_at 27 = .ok (.iaload, 1) := by decide +kernel
theorem dX7_at_28 : decode cX7_at 28 = .ok (.goto 4, 3) := by decide +kernel
theorem dX7_at_31 : decode cX7_at 31 = .ok (.iconst (-1), 1) := by decide +kernel
theorem dX7_at_32 : decode cX7_at 32 = .ok (.ireturn, 1) := by decide +kernel
theorem dX7_put_0 : decode cX7_put 0 = .ok (.iload_n 1, 1) := by decide +kernel
theorem dX7_put_1 : decode cX7_put 1 = .ok (.aload_n 0, 1) := by decide +kernel
theorem dX7_put_2 : decode cX7_put 2 = .ok (.getfield 9, 3) := by decide +kernel
theorem dX7_put_5 : decode cX7_put 5 = .ok (.imul, 1) := by decide +kernel
theorem dX7_put_6 : decode cX7_put 6 = .ok (.iload_n 2, 1) := by decide +kernel
theorem dX7_put_7 : decode cX7_put 7 = .ok (.iadd, 1) := by decide +kernel
theorem dX7_put_8 : decode cX7_put 8 = .ok (.istore 4, 2) := by decide +kernel
theorem dX7_put_10 : decode cX7_put 10 = .ok (.iload 4, 2) := by decide +kernel
theorem dX7_put_12 : decode cX7_put 12 = .ok (.ifCond .lt 21, 3) := by decide +kernel
theorem dX7_put_15 : decode cX7_put 15 = .ok (.iload 4, 2) := by decide +kernel
theorem dX7_put_17 : decode cX7_put 17 = .ok (.aload_n 0, 1) := by decide +kernel
theorem dX7_put_18 : decode cX7_put 18 = .ok (.getfield 15, 3) := by decide +kernel
theorem dX7_put_21 : decode cX7_put 21 = .ok (.arraylength, 1) := by decide +kernel
theorem dX7_put_22 : decode cX7_put 22 = .ok (.if_icmp .ge 11, 3) := by decide +kernel
theorem dX7_put_25 : decode cX7_put 25 = .ok (.aload_n 0, 1) := by decide +kernel
theorem dX7_put_26 : decode cX7_put 26 = .ok (.getfield 15, 3) := by decide +kernel
theorem dX7_put_29 : decode cX7_put 29 = .ok (.iload 4, 2) := by decide +kernel
theorem dX7_put_31 : decode cX7_put 31 = .ok (.iload_n 3, 1) := by decide +kernel
theorem dX7_put_32 : decode cX7_put 32 = .ok (.iastore, 1) := by decide +kernel
theorem dX7_put_33 : decode cX7_put 33 = .ok (.return_, 1) := by decide +kernel
theorem dX7_copyFrom_0 : decode cX7_copyFrom 0 = .ok (.aload_n 0, 1) := by decide +kernel
theorem dX7_copyFrom_1 : decode cX7_copyFrom 1 = .ok (.getfield 15, 3) := by decide +kernel
theorem dX7_copyFrom_4 : decode cX7_copyFrom 4 = .ok (.arraylength, 1) := by decide +kernel
theorem dX7_copyFrom_5 : decode cX7_copyFrom 5 = .ok (.aload_n 1, 1) := by decide +kernel
theorem dX7_copyFrom_6 : decode cX7_copyFrom 6 = .ok (.getfield 15, 3) := by decide +kernel
theorem dX7_copyFrom_9 : decode cX7_copyFrom 9 = .ok (.arraylength, 1) := by decide +kernel
theorem dX7_copyFrom_10 : decode cX7_copyFrom 10 = .ok (.invokestatic 19, 3) := by decide +kernel
theorem dX7_copyFrom_13 : decode cX7_copyFrom 13 = .ok (.istore_n 3, 1) := by decide +kernel
theorem dX7_copyFrom_14 : decode cX7_copyFrom 14 = .ok (.iconst 0, 1) := by decide +kernel
theorem dX7_copyFrom_15 : decode cX7_copyFrom 15 = .ok (.iload_n 3, 1) := by decide +kernel
theorem dX7_copyFrom_16 : decode cX7_copyFrom 16 = .ok (.iload_n 2, 1) := by decide +kernel
theorem dX7_copyFrom_17 : decode cX7_copyFrom 17 = .ok (.aload_n 0, 1) := by decide +kernel
theorem dX7_copyFrom_18 : decode cX7_copyFrom 18 = .ok (.getfield 9, 3) := by decide +kernel
theorem dX7_copyFrom_21 : decode cX7_copyFrom 21 = .ok (.imul, 1) := by decide +kernel
theorem dX7_copyFrom_22 : decode cX7_copyFrom 22 = .ok (.invokestatic 19, 3) := by decide +kernel
theorem dX7_copyFrom_25 : decode cX7_copyFrom 25 = .ok (.invokestatic 25, 3) := by decide +kernel
theorem dX7_copyFrom_28 : decode cX7_copyFrom 28 = .ok (.istore 4, 2) := by decide +kernel
theorem dX7_copyFrom_30 : decode cX7_copyFrom 30 = .ok (.aload_n 1, 1) := by decide +kernel
theorem dX7_copyFrom_31 : decode cX7_copyFrom 31 = .ok (.getfield 15, 3) := by decide +kernel
theorem dX7_copyFrom_34 : decode cX7_copyFrom 34 = .ok (.iconst 0, 1) := by decide +kernel
theorem dX7_copyFrom_35 : decode cX7_copyFrom 35 = .ok (.aload_n 0, 1) := by decide +kernel
theorem dX7_copyFrom_36 : decode cX7_copyFrom 36 = .ok (.getfield 15, 3) := by decide +kernel
theorem dX7_copyFrom_39 : decode cX7_copyFrom 39 = .ok (.iconst 0, 1) := by decide +kernel
theorem dX7_copyFrom_40 : decode cX7_copyFrom 40 = .ok (.iload 4, 2) := by decide +kernel
theorem dX7_copyFrom_42 : decode cX7_copyFrom 42 = .ok (.invokestatic 28, 3) := by decide +kernel
theorem dX7_copyFrom_45 : decode cX7_copyFrom 45 = .ok (.return_, 1) := by decide +kernel
theorem dX8_makeVisit_0 : decode cX8_makeVisit 0 = .ok (.aload_n 0, 1) := by decide +kernel
theorem dX8_makeVisit_1 : decode cX8_makeVisit 1 = .ok (.aload_n 0, 1) := by decide +kernel
theorem dX8_makeVisit_2 : decode cX8_makeVisit 2 = .ok (.getfield 9, 3) := by decide +kernel
theorem dX8_makeVisit_5 : decode cX8_makeVisit 5 = .ok (.invokevirtual 15, 3) := by decide +kernel
theorem dX8_makeVisit_8 : decode cX8_makeVisit 8 = .ok (.astore_n 1, 1) := by decide +kernel
theorem dX8_makeVisit_9 : decode cX8_makeVisit 9 = .ok (.aload_n 1, 1) := by decide +kernel
theorem dX8_makeVisit_10 : decode cX8_makeVisit 10 = .ok (.ifnonnull 8, 3) := by decide +kernel
theorem dX8_makeVisit_13 : decode cX8_makeVisit 13 = .ok (.aload_n 0, 1) := by decide +kernel
theorem dX8_makeVisit_14 : decode cX8_makeVisit 14 = .ok (.invokestatic 19, 3) := by decide +kernel
theorem dX8_makeVisit_17 : decode cX8_makeVisit 17 = .ok (.astore_n 1, 1) := by decide +kernel
theorem dX8_makeVisit_18 : decode cX8_makeVisit 18 = .ok (.aload_n 1, 1) := by decide +kernel
theorem dX8_makeVisit_19 : decode cX8_makeVisit 19 = .ok (.ifnonnull 4, 3) := by decide +kernel
theorem dX8_makeVisit_22 : decode cX8_makeVisit 22 = .ok (.return_, 1) := by decide +kernel
theorem dX8_makeVisit_23 : decode cX8_makeVisit 23 = .ok (.aload_n 0, 1) := by decide +kernel
theorem dX8_makeVisit_24 : decode cX8_makeVisit 24 = .ok (.getfield 25, 3) := by decide +kernel
theorem dX8_makeVisit_27 : decode cX8_makeVisit 27 = .ok (.istore_n 2, 1) := by decide +kernel
theorem dX8_makeVisit_28 : decode cX8_makeVisit 28 = .ok (.aload_n 0, 1) := by decide +kernel
theorem dX8_makeVisit_29 : decode cX8_makeVisit 29 = .ok (.aload_n 1, 1) := by decide +kernel
theorem dX8_makeVisit_30 : decode cX8_makeVisit 30 = .ok (.invokestatic 28, 3) := by decide +kernel
theorem dX8_makeVisit_33 : decode cX8_makeVisit 33 = .ok (.istore_n 3, 1) := by decide +kernel
theorem dX8_makeVisit_34 : decode cX8_makeVisit 34 = .ok (.aload_n 0, 1) := by decide +kernel
theorem dX8_makeVisit_35 : decode cX8_makeVisit 35 = .ok (.aload_n 1, 1) := by decide +kernel
theorem dX8_makeVisit_36 : decode cX8_makeVisit 36 = .ok (.aload_n 0, 1) := by decide +kernel
theorem dX8_makeVisit_37 : decode cX8_makeVisit 37 = .ok (.getfield 32, 3) := by decide +kernel
theorem dX8_makeVisit_40 : decode cX8_makeVisit 40 = .ok (.iload_n 3, 1) := by decide +kernel
theorem dX8_makeVisit_41 : decode cX8_makeVisit 41 = .ok (.isub, 1) := by decide +kernel
theorem dX8_makeVisit_42 : decode cX8_makeVisit 42 = .ok (.invokestatic 35, 3) := by decide +kernel
theorem dX8_makeVisit_45 : decode cX8_makeVisit 45 = .ok (.istore 4, 2) := by decide +kernel
theorem dX8_makeVisit_47 : decode cX8_makeVisit 47 = .ok (.aload_n 0, 1) := by decide +kernel
theorem dX8_makeVisit_48 : decode cX8_makeVisit 48 = .ok (.aload_n 1, 1) := by decide +kernel
theorem dX8_makeVisit_49 : decode cX8_makeVisit 49 = .ok (.invokestatic 39, 3) := by decide +kernel
theorem dX8_makeVisit_52 : decode cX8_makeVisit 52 = .ok (.aload_n 0, 1) := by decide +kernel
theorem dX8_makeVisit_53 : decode cX8_makeVisit 53 = .ok (.aload_n 1, 1) := by decide +kernel
theorem dX8_makeVisit_54 : decode cX8_makeVisit 54 = .ok (.invokestatic 43, 3) := by decide +kernel
theorem dX8_makeVisit_57 : decode cX8_makeVisit 57 = .ok (.ifCond .ne 13, 3) := by decide +kernel
theorem dX8_makeVisit_60 : decode cX8_makeVisit 60 = .ok (.aload_n 0, 1) := by decide +kernel
theorem dX8_makeVisit_61 : decode cX8_makeVisit 61 = .ok (.aload_n 1, 1) := by decide +kernel
theorem dX8_makeVisit_62 : decode cX8_makeVisit 62 = .ok (.invokestatic 47, 3) := by decide +kernel
theorem dX8_makeVisit_65 : decode cX8_makeVisit 65 = .ok (.aload_n 0, 1) := by decide +kernel
theorem dX8_makeVisit_66 : decode cX8_makeVisit 66 = .ok (.aload_n 1, 1) := by decide +kernel
theorem dX8_makeVisit_67 : decode cX8_makeVisit 67 = .ok (.invokestatic 50, 3) := by decide +kernel
theorem dX8_makeVisit_70 : decode cX8_makeVisit 70 = .ok (.aload_n 0, 1) := by decide +kernel
theorem dX8_makeVisit_71 : decode cX8_makeVisit 71 = .ok (.iload_n 2, 1) := by decide +kernel
theorem dX8_makeVisit_72 : decode cX8_makeVisit 72 = .ok (.aload_n 1, 1) := by decide +kernel
theorem dX8_makeVisit_73 : decode cX8_makeVisit 73 = .ok (.getfield 53, 3) := by decide +kernel
theorem dX8_makeVisit_76 : decode cX8_makeVisit 76 = .ok (.iload_n 3, 1) := by decide +kernel
theorem dX8_makeVisit_77 : decode cX8_makeVisit 77 = .ok (.iload 4, 2) := by decide +kernel
theorem dX8_makeVisit_79 : decode cX8_makeVisit 79 = .ok (.invokevirtual 58, 3) := by decide +kernel
theorem dX8_makeVisit_82 : decode cX8_makeVisit 82 = .ok (.return_, 1) := by decide +kernel
theorem dX8_makeAnew_0 : decode cX8_makeAnew 0 = .ok (.aload_n 0, 1) := by decide +kernel
theorem dX8_makeAnew_1 : decode cX8_makeAnew 1 = .ok (.iconst 1, 1) := by decide +kernel
theorem dX8_makeAnew_2 : decode cX8_makeAnew 2 = .ok (.invokestatic 62, 3) := by decide +kernel
theorem dX8_makeAnew_5 : decode cX8_makeAnew 5 = .ok (.astore_n 1, 1) := by decide +kernel
theorem dX8_makeAnew_6 : decode cX8_makeAnew 6 = .ok (.aload_n 1, 1) := by decide +kernel
theorem dX8_makeAnew_7 : decode cX8_makeAnew 7 = .ok (.ifnonnull 9, 3) := by decide +kernel
theorem dX8_makeAnew_10 : decode cX8_makeAnew 10 = .ok (.aload_n 0, 1) := by decide +kernel
theorem dX8_makeAnew_11 : decode cX8_makeAnew 11 = .ok (.iconst 0, 1) := by decide +kernel
theorem dX8_makeAnew_12 : decode cX8_makeAnew 12 = .ok (.invokestatic 62, 3) := by decide +kernel
theorem dX8_makeAnew_15 : decode cX8_makeAnew 15 = .ok (.astore_n 1, 1) := by decide +kernel
theorem dX8_makeAnew_16 : decode cX8_makeAnew 16 = .ok (.aload_n 1, 1) := by decide +kernel
theorem dX8_makeAnew_17 : decode cX8_makeAnew 17 = .ok (.ifnonnull 5, 3) := by decide +kernel
theorem dX8_makeAnew_20 : decode cX8_makeAnew 20 = .ok (.aconst_null, 1) := by decide +kernel
theorem dX8_makeAnew_21 : decode cX8_makeAnew 21 = .ok (.areturn, 1) := by decide +kernel
theorem dX8_makeAnew_22 : decode cX8_makeAnew 22 = .ok (.aload_n 0, 1) := by decide +kernel
theorem dX8_makeAnew_23 : decode cX8_makeAnew 23 = .ok (.dup, 1) := by decide +kernel
theorem dX8_makeAnew_24 : decode cX8_makeAnew 24 = .ok (.getfield 25, 3) := by decide +kernel
theorem dX8_makeAnew_27 : decode cX8_makeAnew 27 = .ok (.aload_n 0, 1) := by decide +kernel
theorem dX8_makeAnew_28 : decode cX8_makeAnew 28 = .ok (.getfield 66, 3) := by decide +kernel
theorem dX8_makeAnew_31 : decode cX8_makeAnew 31 = .ok (.bipush 6, 2) := by decide +kernel
theorem dX8_makeAnew_33 : decode cX8_makeAnew 33 = .ok (.iconst 2, 1) := by decide +kernel
theorem dX8_makeAnew_34 : decode cX8_makeAnew 34 = .ok (.aload_n 1, 1) := by decide +kernel
theorem dX8_makeAnew_35 : decode cX8_makeAnew 35 = .ok (.getfield 53, 3) := by decide +kernel
theorem dX8_makeAnew_38 : decode cX8_makeAnew 38 = .ok (.imul, 1) := by decide +kernel
theorem dX8_makeAnew_39 : decode cX8_makeAnew 39 = .ok (.iadd, 1) := by decide +kernel
theorem dX8_makeAnew_40 : decode cX8_makeAnew 40 = .ok (.imul, 1) := by decide +kernel
theorem dX8_makeAnew_41 : decode cX8_makeAnew 41 = .ok (.iadd, 1) := by decide +kernel
theorem dX8_makeAnew_42 : decode cX8_makeAnew 42 = .ok (.putfield 25, 3) := by decide +kernel
theorem dX8_makeAnew_45 : decode cX8_makeAnew 45 = .ok (.aload_n 1, 1) := by decide +kernel
theorem dX8_makeAnew_46 : decode cX8_makeAnew 46 = .ok (.getfield 69, 3) := by decide +kernel
theorem dX8_makeAnew_49 : decode cX8_makeAnew 49 = .ok (.ifCond .ne 16, 3) := by decide +kernel
theorem dX8_makeAnew_52 : decode cX8_makeAnew 52 = .ok (.aload_n 1, 1) := by decide +kernel
theorem dX8_makeAnew_53 : decode cX8_makeAnew 53 = .ok (.iconst 1, 1) := by decide +kernel
theorem dX8_makeAnew_54 : decode cX8_makeAnew 54 = .ok (.putfield 69, 3) := by decide +kernel
theorem dX8_makeAnew_57 : decode cX8_makeAnew 57 = .ok (.aload_n 1, 1) := by decide +kernel
theorem dX8_makeAnew_58 : decode cX8_makeAnew 58 = .ok (.aload_n 1, 1) := by decide +kernel
theorem dX8_makeAnew_59 : decode cX8_makeAnew 59 = .ok (.getfield 53, 3) := by decide +kernel
theorem dX8_makeAnew_62 : decode cX8_makeAnew 62 = .ok (.putfield 73, 3) := by decide +kernel
theorem dX8_makeAnew_65 : decode cX8_makeAnew 65 = .ok (.aload_n 0, 1) := by decide +kernel
theorem dX8_makeAnew_66 : decode cX8_makeAnew 66 = .ok (.aload_n 1, 1) := by decide +kernel
theorem dX8_makeAnew_67 : decode cX8_makeAnew 67 = .ok (.getfield 53, 3) := by decide +kernel
theorem dX8_makeAnew_70 : decode cX8_makeAnew 70 = .ok (.putfield 9, 3) := by decide +kernel
theorem dX8_makeAnew_73 : decode cX8_makeAnew 73 = .ok (.aload_n 0, 1) := by decide +kernel
theorem dX8_makeAnew_74 : decode cX8_makeAnew 74 = .ok (.getfield 76, 3) := by decide +kernel
theorem dX8_makeAnew_77 : decode cX8_makeAnew 77 = .ok (.dup, 1) := by decide +kernel
theorem dX8_makeAnew_78 : decode cX8_makeAnew 78 = .ok (.getfield 80, 3) := by decide +kernel
theorem dX8_makeAnew_81 : decode cX8_makeAnew 81 = .ok (.iconst 1, 1) := by decide +kernel
theorem dX8_makeAnew_82 : decode cX8_makeAnew 82 = .ok (.iadd, 1) := by decide +kernel
theorem dX8_makeAnew_83 : decode cX8_makeAnew 83 = .ok (.putfield 80, 3) := by decide +kernel
theorem dX8_makeAnew_86 : decode cX8_makeAnew 86 = .ok (.aload_n 1, 1) := by decide +kernel
theorem dX8_makeAnew_87 : decode cX8_makeAnew 87 = .ok (.areturn, 1) := by decide +kernel
theorem dX8_lowest_0 : decode cX8_lowest 0 = .ok (.iconst 0, 1) := by decide +kernel
theorem dX8_lowest_1 : decode cX8_lowest 1 = .ok (.istore_n 2, 1) := by decide +kernel
theorem dX8_lowest_2 : decode cX8_lowest 2 = .ok (.iload_n 2, 1) := by decide +kernel
theorem dX8_lowest_3 : decode cX8_lowest 3 = .ok (.aload_n 0, 1) := by decide +kernel
theorem dX8_lowest_4 : decode cX8_lowest 4 = .ok (.getfield 85, 3) := by decide +kernel
theorem dX8_lowest_7 : decode cX8_lowest 7 = .ok (.if_icmp .ge 39, 3) := by decide +kernel
theorem dX8_lowest_10 : decode cX8_lowest 10 = .ok (.aload_n 0, 1) := by decide +kernel
theorem dX8_lowest_11 : decode cX8_lowest 11 = .ok (.iload_n 2, 1) := by decide +kernel
theorem dX8_lowest_12 : decode cX8_lowest 12 = .ok (.invokevirtual 88, 3) := by decide +kernel
theorem dX8_lowest_15 : decode cX8_lowest 15 = .ok (.astore_n 3, 1) := by decide +kernel
theorem dX8_lowest_16 : decode cX8_lowest 16 = .ok (.aload_n 3, 1) := by decide +kernel
theorem dX8_lowest_17 : decode cX8_lowest 17 = .ok (.ifnull 23, 3) := by decide +kernel
theorem dX8_lowest_20 : decode cX8_lowest 20 = .ok (.aload_n 3, 1) := by decide +kernel
theorem dX8_lowest_21 : decode cX8_lowest 21 = .ok (.getfield 91, 3) := by decide +kernel
theorem dX8_lowest_24 : decode cX8_lowest 24 = .ok (.ifCond .eq 16, 3) := by decide +kernel
theorem dX8_lowest_27 : decode cX8_lowest 27 = .ok (.aload_n 3, 1) := by decide +kernel
theorem dX8_lowest_28 : decode cX8_lowest 28 = .ok (.getfield 69, 3) := by decide +kernel
theorem dX8_lowest_31 : decode cX8_lowest 31 = .ok (.ifCond .ne 7, 3) := by decide +kernel
theorem dX8_lowest_34 : decode cX8_lowest 34 = .ok (.iload_n 1, 1) := by decide +kernel
theorem dX8_lowest_35 : decode cX8_lowest 35 = .ok (.ifCond .ne 5, 3) := by decide +kernel
theorem dX8_lowest_38 : decode cX8_lowest 38 = .ok (.aload_n 3, 1) := by decide +kernel
theorem dX8_lowest_39 : decode cX8_lowest 39 = .ok (.areturn, 1) := by decide +kernel
theorem dX8_lowest_40 : decode cX8_lowest 40 = .ok (.iinc 2 1, 3) := by decide +kernel
theorem dX8_lowest_43 : decode cX8_lowest 43 = .ok (.goto (-41), 3) := by decide +kernel
theorem dX8_lowest_46 : decode cX8_lowest 46 = .ok (.aconst_null, 1) := by decide +kernel
theorem dX8_lowest_47 : decode cX8_lowest 47 = .ok (.areturn, 1) := by decide +kernel
theorem dX8_beginVisit_0 : decode cX8_beginVisit 0 = .ok (.aload_n 1, 1) := by decide +kernel
theorem dX8_beginVisit_1 : decode cX8_beginVisit 1 = .ok (.getfield 94, 3) := by decide +kernel
theorem dX8_beginVisit_4 : decode cX8_beginVisit 4 = .ok (.iconst (-1), 1) := by decide +kernel
theorem dX8_beginVisit_5 : decode cX8_beginVisit 5 = .ok (.if_icmp .ne 7, 3) := by decide +kernel
theorem dX8_beginVisit_8 : decode cX8_beginVisit 8 = .ok (.iconst 0, 1) := by decide +kernel
theorem dX8_beginVisit_9 : decode cX8_beginVisit 9 = .ok (.goto 12, 3) := by decide +kernel
theorem dX8_beginVisit_12 : decode cX8_beginVisit 12 = .ok (.aload_n 0, 1) := by decide +kernel
theorem dX8_beginVisit_13 : decode cX8_beginVisit 13 = .ok (.getfield 25, 3) := by decide +kernel
theorem dX8_beginVisit_16 : decode cX8_beginVisit 16 = .ok (.aload_n 1, 1) := by decide +kernel
theorem dX8_beginVisit_17 : decode cX8_beginVisit 17 = .ok (.getfield 94, 3) := by decide +kernel
theorem dX8_beginVisit_20 : decode cX8_beginVisit 20 = .ok (.isub, 1) := by decide +kernel
theorem dX8_beginVisit_21 : decode cX8_beginVisit 21 = .ok (.istore_n 2, 1) := by decide +kernel
theorem dX8_beginVisit_22 : decode cX8_beginVisit 22 = .ok (.aload_n 1, 1) := by decide +kernel
theorem dX8_beginVisit_23 : decode cX8_beginVisit 23 = .ok (.aload_n 0, 1) := by decide +kernel
theorem dX8_beginVisit_24 : decode cX8_beginVisit 24 = .ok (.getfield 25, 3) := by decide +kernel
theorem dX8_beginVisit_27 : decode cX8_beginVisit 27 = .ok (.putfield 94, 3) := by decide +kernel
theorem dX8_beginVisit_30 : decode cX8_beginVisit 30 = .ok (.aload_n 1, 1) := by decide +kernel
theorem dX8_beginVisit_31 : decode cX8_beginVisit 31 = .ok (.dup, 1) := by decide +kernel
theorem dX8_beginVisit_32 : decode cX8_beginVisit 32 = .ok (.getfield 97, 3) := by decide +kernel
theorem dX8_beginVisit_35 : decode cX8_beginVisit 35 = .ok (.iconst 1, 1) := by decide +kernel
theorem dX8_beginVisit_36 : decode cX8_beginVisit 36 = .ok (.iadd, 1) := by decide +kernel
theorem dX8_beginVisit_37 : decode cX8_beginVisit 37 = .ok (.putfield 97, 3) := by decide +kernel
theorem dX8_beginVisit_40 : decode cX8_beginVisit 40 = .ok (.aload_n 0, 1) := by decide +kernel
theorem dX8_beginVisit_41 : decode cX8_beginVisit 41 = .ok (.getfield 76, 3) := by decide +kernel
theorem dX8_beginVisit_44 : decode cX8_beginVisit 44 = .ok (.dup, 1) := by decide +kernel
theorem dX8_beginVisit_45 : decode cX8_beginVisit 45 = .ok (.getfield 100, 3) := by decide +kernel
theorem dX8_beginVisit_48 : decode cX8_beginVisit 48 = .ok (.iconst 1, 1) := by decide +kernel
theorem dX8_beginVisit_49 : decode cX8_beginVisit 49 = .ok (.iadd, 1) := by decide +kernel
theorem dX8_beginVisit_50 : decode cX8_beginVisit 50 = .ok (.putfield 100, 3) := by decide +kernel
theorem dX8_beginVisit_53 : decode cX8_beginVisit 53 = .ok (.aload_n 0, 1) := by decide +kernel
theorem dX8_beginVisit_54 : decode cX8_beginVisit 54 = .ok (.getfield 76, 3) := by decide +kernel
theorem dX8_beginVisit_57 : decode cX8_beginVisit 57 = .ok (.aload_n 0, 1) := by decide +kernel
theorem dX8_beginVisit_58 : decode cX8_beginVisit 58 = .ok (.getfield 76, 3) := by decide +kernel
theorem dX8_beginVisit_61 : decode cX8_beginVisit 61 = .ok (.getfield 101, 3) := by decide +kernel
theorem dX8_beginVisit_64 : decode cX8_beginVisit 64 = .ok (.iload_n 2, 1) := by decide +kernel
theorem dX8_beginVisit_65 : decode cX8_beginVisit 65 = .ok (.invokestatic 104, 3) := by decide +kernel
theorem dX8_beginVisit_68 : decode cX8_beginVisit 68 = .ok (.putfield 101, 3) := by decide +kernel
theorem dX8_beginVisit_71 : decode cX8_beginVisit 71 = .ok (.iload_n 2, 1) := by decide +kernel
theorem dX8_beginVisit_72 : decode cX8_beginVisit 72 = .ok (.ireturn, 1) := by decide +kernel
theorem dX8_sendMessages_0 : decode cX8_sendMessages 0 = .ok (.aload_n 0, 1) := by decide +kernel
theorem dX8_sendMessages_1 : decode cX8_sendMessages 1 = .ok (.getfield 25, 3) := by decide +kernel
theorem dX8_sendMessages_4 : decode cX8_sendMessages 4 = .ok (.istore_n 3, 1) := by decide +kernel
theorem dX8_sendMessages_5 : decode cX8_sendMessages 5 = .ok (.iconst 0, 1) := by decide +kernel
theorem dX8_sendMessages_6 : decode cX8_sendMessages 6 = .ok (.istore 4, 2) := by decide +kernel
theorem dX8_sendMessages_8 : decode cX8_sendMessages 8 = .ok (.aload_n 0, 1) := by decide +kernel
theorem dX8_sendMessages_9 : decode cX8_sendMessages 9 = .ok (.getfield 110, 3) := by decide +kernel
theorem dX8_sendMessages_12 : decode cX8_sendMessages 12 = .ok (.aload_n 1, 1) := by decide +kernel
theorem dX8_sendMessages_13 : decode cX8_sendMessages 13 = .ok (.getfield 114, 3) := by decide +kernel
theorem dX8_sendMessages_16 : decode cX8_sendMessages 16 = .ok (.invokevirtual 117, 3) := by decide +kernel
theorem dX8_sendMessages_19 : decode cX8_sendMessages 19 = .ok (.istore 5, 2) := by decide +kernel
theorem dX8_sendMessages_21 : decode cX8_sendMessages 21 = .ok (.iload 4, 2) := by decide +kernel
theorem dX8_sendMessages_23 : decode cX8_sendMessages 23 = .ok (.bipush 100, 2) := by decide +kernel
theorem dX8_sendMessages_25 : decode cX8_sendMessages 25 = .ok (.if_icmp .ge 48, 3) := by decide +kernel
theorem dX8_sendMessages_28 : decode cX8_sendMessages 28 = .ok (.aload_n 1, 1) := by decide +kernel
theorem dX8_sendMessages_29 : decode cX8_sendMessages 29 = .ok (.getfield 123, 3) := by decide +kernel
theorem dX8_sendMessages_32 : decode cX8_sendMessages 32 = .ok (.ifCond .le 41, 3) := by decide +kernel
theorem dX8_sendMessages_35 : decode cX8_sendMessages 35 = .ok (.iload 5, 2) := by decide +kernel
theorem dX8_sendMessages_37 : decode cX8_sendMessages 37 = .ok (.ifCond .ne 16, 3) := by decide +kernel
theorem dX8_sendMessages_40 : decode cX8_sendMessages 40 = .ok (.aload_n 0, 1) := by decide +kernel
theorem dX8_sendMessages_41 : decode cX8_sendMessages 41 = .ok (.getfield 25, 3) := by decide +kernel
theorem dX8_sendMessages_44 : decode cX8_sendMessages 44 = .ok (.iload_n 3, 1) := by decide +kernel
theorem dX8_sendMessages_45 : decode cX8_sendMessages 45 = .ok (.isub, 1) := by decide +kernel
theorem dX8_sendMessages_46 : decode cX8_sendMessages 46 = .ok (.iload_n 2, 1) := by decide +kernel
theorem dX8_sendMessages_47 : decode cX8_sendMessages 47 = .ok (.if_icmp .lt 6, 3) := by decide +kernel
theorem dX8_sendMessages_50 : decode cX8_sendMessages 50 = .ok (.goto 23, 3) := by decide +kernel
theorem dX8_sendMessages_53 : decode cX8_sendMessages 53 = .ok (.aload_n 0, 1) := by decide +kernel
theorem dX8_sendMessages_54 : decode cX8_sendMessages 54 = .ok (.aload_n 1, 1) := by decide +kernel
theorem dX8_sendMessages_55 : decode cX8_sendMessages 55 = .ok (.invokestatic 126, 3) := by decide +kernel
theorem dX8_sendMessages_58 : decode cX8_sendMessages 58 = .ok (.ifCond .ne 6, 3) := by decide +kernel
theorem dX8_sendMessages_61 : decode cX8_sendMessages 61 = .ok (.goto 12, 3) := by decide +kernel
theorem dX8_sendMessages_64 : decode cX8_sendMessages 64 = .ok (.iconst 0, 1) := by decide +kernel
theorem dX8_sendMessages_65 : decode cX8_sendMessages 65 = .ok (.istore 5, 2) := by decide +kernel
theorem dX8_sendMessages_67 : decode cX8_sendMessages 67 = .ok (.iinc 4 1, 3) := by decide +kernel
theorem dX8_sendMessages_70 : decode cX8_sendMessages 70 = .ok (.goto (-49), 3) := by decide +kernel
theorem dX8_sendMessages_73 : decode cX8_sendMessages 73 = .ok (.iload 4, 2) := by decide +kernel
theorem dX8_sendMessages_75 : decode cX8_sendMessages 75 = .ok (.ireturn, 1) := by decide +kernel
theorem dX8_sendFirst_0 : decode cX8_sendFirst 0 = .ok (.aload_n 0, 1) := by decide +kernel
theorem dX8_sendFirst_1 : decode cX8_sendFirst 1 = .ok (.getfield 110, 3) := by decide +kernel
theorem dX8_sendFirst_4 : decode cX8_sendFirst 4 = .ok (.aload_n 1, 1) := by decide +kernel
theorem dX8_sendFirst_5 : decode cX8_sendFirst 5 = .ok (.getfield 114, 3) := by decide +kernel
theorem dX8_sendFirst_8 : decode cX8_sendFirst 8 = .ok (.iconst 0, 1) := by decide +kernel
theorem dX8_sendFirst_9 : decode cX8_sendFirst 9 = .ok (.invokevirtual 129, 3) := by decide +kernel
theorem dX8_sendFirst_12 : decode cX8_sendFirst 12 = .ok (.istore_n 2, 1) := by decide +kernel
theorem dX8_sendFirst_13 : decode cX8_sendFirst 13 = .ok (.aload_n 0, 1) := by decide +kernel
theorem dX8_sendFirst_14 : decode cX8_sendFirst 14 = .ok (.getfield 25, 3) := by decide +kernel
theorem dX8_sendFirst_17 : decode cX8_sendFirst 17 = .ok (.istore_n 3, 1) := by decide +kernel
theorem dX8_sendFirst_18 : decode cX8_sendFirst 18 = .ok (.aload_n 0, 1) := by decide +kernel
theorem dX8_sendFirst_19 : decode cX8_sendFirst 19 = .ok (.iload_n 2, 1) := by decide +kernel
theorem dX8_sendFirst_20 : decode cX8_sendFirst 20 = .ok (.invokevirtual 132, 3) := by decide +kernel
theorem dX8_sendFirst_23 : decode cX8_sendFirst 23 = .ok (.ifCond .ne 5, 3) := by decide +kernel
theorem dX8_sendFirst_26 : decode cX8_sendFirst 26 = .ok (.iconst 0, 1) := by decide +kernel
theorem dX8_sendFirst_27 : decode cX8_sendFirst 27 = .ok (.ireturn, 1) := by decide +kernel
theorem dX8_sendFirst_28 : decode cX8_sendFirst 28 = .ok (.aload_n 0, 1) := by decide +kernel
theorem dX8_sendFirst_29 : decode cX8_sendFirst 29 = .ok (.getfield 76, 3) := by decide +kernel
theorem dX8_sendFirst_32 : decode cX8_sendFirst 32 = .ok (.iload_n 2, 1) := by decide +kernel
theorem dX8_sendFirst_33 : decode cX8_sendFirst 33 = .ok (.aload_n 0, 1) := by decide +kernel
theorem dX8_sendFirst_34 : decode cX8_sendFirst 34 = .ok (.getfield 110, 3) := by decide +kernel
theorem dX8_sendFirst_37 : decode cX8_sendFirst 37 = .ok (.aload_n 1, 1) := by decide +kernel
theorem dX8_sendFirst_38 : decode cX8_sendFirst 38 = .ok (.iload_n 3, 1) := by decide +kernel
theorem dX8_sendFirst_39 : decode cX8_sendFirst 39 = .ok (.invokevirtual 135, 3) := by decide +kernel
theorem dX8_sendFirst_42 : decode cX8_sendFirst 42 = .ok (.invokevirtual 139, 3) := by decide +kernel
theorem dX8_sendFirst_45 : decode cX8_sendFirst 45 = .ok (.iconst 1, 1) := by decide +kernel
theorem dX8_sendFirst_46 : decode cX8_sendFirst 46 = .ok (.ireturn, 1) := by decide +kernel
theorem dX8_pollGap_0 : decode cX8_pollGap 0 = .ok (.aload_n 0, 1) := by decide +kernel
theorem dX8_pollGap_1 : decode cX8_pollGap 1 = .ok (.getfield 143, 3) := by decide +kernel
theorem dX8_pollGap_4 : decode cX8_pollGap 4 = .ok (.iconst 1, 1) := by decide +kernel
theorem dX8_pollGap_5 : decode cX8_pollGap 5 = .ok (.if_icmp .lt 15, 3) := by decide +kernel
theorem dX8_pollGap_8 : decode cX8_pollGap 8 = .ok (.aload_n 1, 1) := by decide +kernel
theorem dX8_pollGap_9 : decode cX8_pollGap 9 = .ok (.getfield 97, 3) := by decide +kernel
theorem dX8_pollGap_12 : decode cX8_pollGap 12 = .ok (.aload_n 0, 1) := by decide +kernel
theorem dX8_pollGap_13 : decode cX8_pollGap 13 = .ok (.getfield 143, 3) := by decide +kernel
theorem dX8_pollGap_16 : decode cX8_pollGap 16 = .ok (.irem, 1) := by decide +kernel
theorem dX8_pollGap_17 : decode cX8_pollGap 17 = .ok (.ifCond .eq 4, 3) := by decide +kernel
theorem dX8_pollGap_20 : decode cX8_pollGap 20 = .ok (.return_, 1) := by decide +kernel
theorem dX8_pollGap_21 : decode cX8_pollGap 21 = .ok (.aload_n 1, 1) := by decide +kernel
theorem dX8_pollGap_22 : decode cX8_pollGap 22 = .ok (.getfield 73, 3) := by decide +kernel
theorem dX8_pollGap_25 : decode cX8_pollGap 25 = .ok (.aload_n 1, 1) := by decide +kernel
theorem dX8_pollGap_26 : decode cX8_pollGap 26 = .ok (.getfield 53, 3) := by decide +kernel
theorem dX8_pollGap_29 : decode cX8_pollGap 29 = .ok (.isub, 1) := by decide +kernel
theorem dX8_pollGap_30 : decode cX8_pollGap 30 = .ok (.iconst 1, 1) := by decide +kernel
theorem dX8_pollGap_31 : decode cX8_pollGap 31 = .ok (.isub, 1) := by decide +kernel
theorem dX8_pollGap_32 : decode cX8_pollGap 32 = .ok (.bipush 31, 2) := by decide +kernel
theorem dX8_pollGap_34 : decode cX8_pollGap 34 = .ok (.iand, 1) := by decide +kernel
theorem dX8_pollGap_35 : decode cX8_pollGap 35 = .ok (.istore_n 2, 1) := by decide +kernel
theorem dX8_pollGap_36 : decode cX8_pollGap 36 = .ok (.iload_n 2, 1) := by decide +kernel
theorem dX8_pollGap_37 : decode cX8_pollGap 37 = .ok (.ifCond .ne 4, 3) := by decide +kernel
theorem dX8_pollGap_40 : decode cX8_pollGap 40 = .ok (.return_, 1) := by decide +kernel
theorem dX8_pollGap_41 : decode cX8_pollGap 41 = .ok (.aload_n 1, 1) := by decide +kernel
theorem dX8_pollGap_42 : decode cX8_pollGap 42 = .ok (.getfield 146, 3) := by decide +kernel
theorem dX8_pollGap_45 : decode cX8_pollGap 45 = .ok (.invokestatic 149, 3) := by decide +kernel
end
section
theorem dX8_pollGap_48 : decode cX8_pollGap 48 = .ok (.aload_n 1, 1) := by decide +kernel
theorem dX8_pollGap_49 : decode cX8_pollGap 49 = .ok (.getfield 53, 3) := by decide +kernel
theorem dX8_pollGap_52 : decode cX8_pollGap 52 = .ok (.isub, 1) := by decide +kernel
theorem dX8_pollGap_53 : decode cX8_pollGap 53 = .ok (.bipush 31, 2) := by decide +kernel
theorem dX8_pollGap_55 : decode cX8_pollGap 55 = .ok (.iand, 1) := by decide +kernel
theorem dX8_pollGap_56 : decode cX8_pollGap 56 = .ok (.istore_n 3, 1) := by decide +kernel
theorem dX8_pollGap_57 : decode cX8_pollGap 57 = .ok (.iload_n 3, 1) := by decide +kernel
theorem dX8_pollGap_58 : decode cX8_pollGap 58 = .ok (.iconst 1, 1) := by decide +kernel
theorem dX8_pollGap_59 : decode cX8_pollGap 59 = .ok (.if_icmp .lt 12, 3) := by decide +kernel
theorem dX8_pollGap_62 : decode cX8_pollGap 62 = .ok (.iload_n 3, 1) := by decide +kernel
theorem dX8_pollGap_63 : decode cX8_pollGap 63 = .ok (.iload_n 2, 1) := by decide +kernel
theorem dX8_pollGap_64 : decode cX8_pollGap 64 = .ok (.if_icmp .gt 7, 3) := by decide +kernel
theorem dX8_pollGap_67 : decode cX8_pollGap 67 = .ok (.iconst 1, 1) := by decide +kernel
theorem dX8_pollGap_68 : decode cX8_pollGap 68 = .ok (.goto 4, 3) := by decide +kernel
theorem dX8_pollGap_71 : decode cX8_pollGap 71 = .ok (.iconst 0, 1) := by decide +kernel
theorem dX8_pollGap_72 : decode cX8_pollGap 72 = .ok (.istore 4, 2) := by decide +kernel
theorem dX8_pollGap_74 : decode cX8_pollGap 74 = .ok (.aload_n 1, 1) := by decide +kernel
theorem dX8_pollGap_75 : decode cX8_pollGap 75 = .ok (.iload 4, 2) := by decide +kernel
theorem dX8_pollGap_77 : decode cX8_pollGap 77 = .ok (.ifCond .eq 13, 3) := by decide +kernel
theorem dX8_pollGap_80 : decode cX8_pollGap 80 = .ok (.aload_n 1, 1) := by decide +kernel
theorem dX8_pollGap_81 : decode cX8_pollGap 81 = .ok (.getfield 146, 3) := by decide +kernel
theorem dX8_pollGap_84 : decode cX8_pollGap 84 = .ok (.invokestatic 149, 3) := by decide +kernel
theorem dX8_pollGap_87 : decode cX8_pollGap 87 = .ok (.goto 10, 3) := by decide +kernel
theorem dX8_pollGap_90 : decode cX8_pollGap 90 = .ok (.aload_n 1, 1) := by decide +kernel
theorem dX8_pollGap_91 : decode cX8_pollGap 91 = .ok (.getfield 53, 3) := by decide +kernel
theorem dX8_pollGap_94 : decode cX8_pollGap 94 = .ok (.invokestatic 149, 3) := by decide +kernel
theorem dX8_pollGap_97 : decode cX8_pollGap 97 = .ok (.putfield 146, 3) := by decide +kernel
theorem dX8_pollGap_100 : decode cX8_pollGap 100 = .ok (.aload_n 0, 1) := by decide +kernel
theorem dX8_pollGap_101 : decode cX8_pollGap 101 = .ok (.aload_n 1, 1) := by decide +kernel
theorem dX8_pollGap_102 : decode cX8_pollGap 102 = .ok (.invokestatic 153, 3) := by decide +kernel
theorem dX8_pollGap_105 : decode cX8_pollGap 105 = .ok (.ifCond .ne 16, 3) := by decide +kernel
theorem dX8_pollGap_108 : decode cX8_pollGap 108 = .ok (.aload_n 0, 1) := by decide +kernel
theorem dX8_pollGap_109 : decode cX8_pollGap 109 = .ok (.dup, 1) := by decide +kernel
theorem dX8_pollGap_110 : decode cX8_pollGap 110 = .ok (.getfield 25, 3) := by decide +kernel
theorem dX8_pollGap_113 : decode cX8_pollGap 113 = .ok (.aload_n 0, 1) := by decide +kernel
theorem dX8_pollGap_114 : decode cX8_pollGap 114 = .ok (.getfield 66, 3) := by decide +kernel
theorem dX8_pollGap_117 : decode cX8_pollGap 117 = .ok (.iadd, 1) := by decide +kernel
theorem dX8_pollGap_118 : decode cX8_pollGap 118 = .ok (.putfield 25, 3) := by decide +kernel
theorem dX8_pollGap_121 : decode cX8_pollGap 121 = .ok (.return_, 1) := by decide +kernel
theorem dX8_comesIn_0 : decode cX8_comesIn 0 = .ok (.aload_n 0, 1) := by decide +kernel
theorem dX8_comesIn_1 : decode cX8_comesIn 1 = .ok (.iconst 1, 1) := by decide +kernel
theorem dX8_comesIn_2 : decode cX8_comesIn 2 = .ok (.invokevirtual 132, 3) := by decide +kernel
theorem dX8_comesIn_5 : decode cX8_comesIn 5 = .ok (.ifCond .eq 14, 3) := by decide +kernel
theorem dX8_comesIn_8 : decode cX8_comesIn 8 = .ok (.aload_n 0, 1) := by decide +kernel
theorem dX8_comesIn_9 : decode cX8_comesIn 9 = .ok (.aload_n 1, 1) := by decide +kernel
theorem dX8_comesIn_10 : decode cX8_comesIn 10 = .ok (.getfield 146, 3) := by decide +kernel
theorem dX8_comesIn_13 : decode cX8_comesIn 13 = .ok (.invokevirtual 15, 3) := by decide +kernel
theorem dX8_comesIn_16 : decode cX8_comesIn 16 = .ok (.goto 4, 3) := by decide +kernel
theorem dX8_comesIn_19 : decode cX8_comesIn 19 = .ok (.aconst_null, 1) := by decide +kernel
theorem dX8_comesIn_20 : decode cX8_comesIn 20 = .ok (.astore_n 2, 1) := by decide +kernel
theorem dX8_comesIn_21 : decode cX8_comesIn 21 = .ok (.aload_n 2, 1) := by decide +kernel
theorem dX8_comesIn_22 : decode cX8_comesIn 22 = .ok (.ifnull 17, 3) := by decide +kernel
theorem dX8_comesIn_25 : decode cX8_comesIn 25 = .ok (.aload_n 2, 1) := by decide +kernel
theorem dX8_comesIn_26 : decode cX8_comesIn 26 = .ok (.getfield 91, 3) := by decide +kernel
theorem dX8_comesIn_29 : decode cX8_comesIn 29 = .ok (.ifCond .eq 10, 3) := by decide +kernel
theorem dX8_comesIn_32 : decode cX8_comesIn 32 = .ok (.aload_n 2, 1) := by decide +kernel
theorem dX8_comesIn_33 : decode cX8_comesIn 33 = .ok (.getfield 69, 3) := by decide +kernel
theorem dX8_comesIn_36 : decode cX8_comesIn 36 = .ok (.ifCond .eq 5, 3) := by decide +kernel
theorem dX8_comesIn_39 : decode cX8_comesIn 39 = .ok (.iconst 0, 1) := by decide +kernel
theorem dX8_comesIn_40 : decode cX8_comesIn 40 = .ok (.ireturn, 1) := by decide +kernel
theorem dX8_comesIn_41 : decode cX8_comesIn 41 = .ok (.aload_n 0, 1) := by decide +kernel
theorem dX8_comesIn_42 : decode cX8_comesIn 42 = .ok (.iconst 1, 1) := by decide +kernel
theorem dX8_comesIn_43 : decode cX8_comesIn 43 = .ok (.invokevirtual 132, 3) := by decide +kernel
theorem dX8_comesIn_46 : decode cX8_comesIn 46 = .ok (.ifCond .ne 5, 3) := by decide +kernel
theorem dX8_comesIn_49 : decode cX8_comesIn 49 = .ok (.iconst 0, 1) := by decide +kernel
theorem dX8_comesIn_50 : decode cX8_comesIn 50 = .ok (.ireturn, 1) := by decide +kernel
theorem dX8_comesIn_51 : decode cX8_comesIn 51 = .ok (.aload_n 2, 1) := by decide +kernel
theorem dX8_comesIn_52 : decode cX8_comesIn 52 = .ok (.iconst 1, 1) := by decide +kernel
theorem dX8_comesIn_53 : decode cX8_comesIn 53 = .ok (.putfield 69, 3) := by decide +kernel
theorem dX8_comesIn_56 : decode cX8_comesIn 56 = .ok (.aload_n 2, 1) := by decide +kernel
theorem dX8_comesIn_57 : decode cX8_comesIn 57 = .ok (.aload_n 1, 1) := by decide +kernel
theorem dX8_comesIn_58 : decode cX8_comesIn 58 = .ok (.getfield 73, 3) := by decide +kernel
theorem dX8_comesIn_61 : decode cX8_comesIn 61 = .ok (.putfield 73, 3) := by decide +kernel
theorem dX8_comesIn_64 : decode cX8_comesIn 64 = .ok (.aload_n 2, 1) := by decide +kernel
theorem dX8_comesIn_65 : decode cX8_comesIn 65 = .ok (.aload_n 2, 1) := by decide +kernel
theorem dX8_comesIn_66 : decode cX8_comesIn 66 = .ok (.getfield 53, 3) := by decide +kernel
theorem dX8_comesIn_69 : decode cX8_comesIn 69 = .ok (.putfield 146, 3) := by decide +kernel
theorem dX8_comesIn_72 : decode cX8_comesIn 72 = .ok (.aload_n 1, 1) := by decide +kernel
theorem dX8_comesIn_73 : decode cX8_comesIn 73 = .ok (.aload_n 2, 1) := by decide +kernel
theorem dX8_comesIn_74 : decode cX8_comesIn 74 = .ok (.getfield 53, 3) := by decide +kernel
theorem dX8_comesIn_77 : decode cX8_comesIn 77 = .ok (.putfield 73, 3) := by decide +kernel
theorem dX8_comesIn_80 : decode cX8_comesIn 80 = .ok (.aload_n 0, 1) := by decide +kernel
theorem dX8_comesIn_81 : decode cX8_comesIn 81 = .ok (.getfield 76, 3) := by decide +kernel
theorem dX8_comesIn_84 : decode cX8_comesIn 84 = .ok (.dup, 1) := by decide +kernel
theorem dX8_comesIn_85 : decode cX8_comesIn 85 = .ok (.getfield 156, 3) := by decide +kernel
theorem dX8_comesIn_88 : decode cX8_comesIn 88 = .ok (.iconst 1, 1) := by decide +kernel
theorem dX8_comesIn_89 : decode cX8_comesIn 89 = .ok (.iadd, 1) := by decide +kernel
theorem dX8_comesIn_90 : decode cX8_comesIn 90 = .ok (.putfield 156, 3) := by decide +kernel
theorem dX8_comesIn_93 : decode cX8_comesIn 93 = .ok (.iconst 1, 1) := by decide +kernel
theorem dX8_comesIn_94 : decode cX8_comesIn 94 = .ok (.ireturn, 1) := by decide +kernel
theorem dX8_passToNext_0 : decode cX8_passToNext 0 = .ok (.iconst 0, 1) := by decide +kernel
theorem dX8_passToNext_1 : decode cX8_passToNext 1 = .ok (.istore_n 2, 1) := by decide +kernel
theorem dX8_passToNext_2 : decode cX8_passToNext 2 = .ok (.iload_n 2, 1) := by decide +kernel
theorem dX8_passToNext_3 : decode cX8_passToNext 3 = .ok (.iconst 3, 1) := by decide +kernel
theorem dX8_passToNext_4 : decode cX8_passToNext 4 = .ok (.if_icmp .ge 30, 3) := by decide +kernel
theorem dX8_passToNext_7 : decode cX8_passToNext 7 = .ok (.aload_n 0, 1) := by decide +kernel
theorem dX8_passToNext_8 : decode cX8_passToNext 8 = .ok (.aload_n 1, 1) := by decide +kernel
theorem dX8_passToNext_9 : decode cX8_passToNext 9 = .ok (.getfield 73, 3) := by decide +kernel
theorem dX8_passToNext_12 : decode cX8_passToNext 12 = .ok (.invokestatic 159, 3) := by decide +kernel
theorem dX8_passToNext_15 : decode cX8_passToNext 15 = .ok (.ifCond .eq 13, 3) := by decide +kernel
theorem dX8_passToNext_18 : decode cX8_passToNext 18 = .ok (.aload_n 0, 1) := by decide +kernel
theorem dX8_passToNext_19 : decode cX8_passToNext 19 = .ok (.aload_n 1, 1) := by decide +kernel
theorem dX8_passToNext_20 : decode cX8_passToNext 20 = .ok (.getfield 73, 3) := by decide +kernel
theorem dX8_passToNext_23 : decode cX8_passToNext 23 = .ok (.putfield 9, 3) := by decide +kernel
theorem dX8_passToNext_26 : decode cX8_passToNext 26 = .ok (.iconst 1, 1) := by decide +kernel
theorem dX8_passToNext_27 : decode cX8_passToNext 27 = .ok (.ireturn, 1) := by decide +kernel
theorem dX8_passToNext_28 : decode cX8_passToNext 28 = .ok (.iinc 2 1, 3) := by decide +kernel
theorem dX8_passToNext_31 : decode cX8_passToNext 31 = .ok (.goto (-29), 3) := by decide +kernel
theorem dX8_passToNext_34 : decode cX8_passToNext 34 = .ok (.iconst 0, 1) := by decide +kernel
theorem dX8_passToNext_35 : decode cX8_passToNext 35 = .ok (.ireturn, 1) := by decide +kernel
theorem dX8_reaches_0 : decode cX8_reaches 0 = .ok (.aload_n 0, 1) := by decide +kernel
theorem dX8_reaches_1 : decode cX8_reaches 1 = .ok (.iconst 1, 1) := by decide +kernel
theorem dX8_reaches_2 : decode cX8_reaches 2 = .ok (.invokevirtual 132, 3) := by decide +kernel
theorem dX8_reaches_5 : decode cX8_reaches 5 = .ok (.ifCond .eq 11, 3) := by decide +kernel
theorem dX8_reaches_8 : decode cX8_reaches 8 = .ok (.aload_n 0, 1) := by decide +kernel
theorem dX8_reaches_9 : decode cX8_reaches 9 = .ok (.iload_n 1, 1) := by decide +kernel
theorem dX8_reaches_10 : decode cX8_reaches 10 = .ok (.invokevirtual 15, 3) := by decide +kernel
theorem dX8_reaches_13 : decode cX8_reaches 13 = .ok (.goto 4, 3) := by decide +kernel
theorem dX8_reaches_16 : decode cX8_reaches 16 = .ok (.aconst_null, 1) := by decide +kernel
theorem dX8_reaches_17 : decode cX8_reaches 17 = .ok (.astore_n 2, 1) := by decide +kernel
theorem dX8_reaches_18 : decode cX8_reaches 18 = .ok (.aload_n 2, 1) := by decide +kernel
theorem dX8_reaches_19 : decode cX8_reaches 19 = .ok (.ifnull 19, 3) := by decide +kernel
theorem dX8_reaches_22 : decode cX8_reaches 22 = .ok (.aload_n 2, 1) := by decide +kernel
theorem dX8_reaches_23 : decode cX8_reaches 23 = .ok (.getfield 91, 3) := by decide +kernel
theorem dX8_reaches_26 : decode cX8_reaches 26 = .ok (.ifCond .eq 12, 3) := by decide +kernel
theorem dX8_reaches_29 : decode cX8_reaches 29 = .ok (.aload_n 2, 1) := by decide +kernel
theorem dX8_reaches_30 : decode cX8_reaches 30 = .ok (.getfield 69, 3) := by decide +kernel
theorem dX8_reaches_33 : decode cX8_reaches 33 = .ok (.ifCond .eq 5, 3) := by decide +kernel
theorem dX8_reaches_36 : decode cX8_reaches 36 = .ok (.iconst 1, 1) := by decide +kernel
theorem dX8_reaches_37 : decode cX8_reaches 37 = .ok (.ireturn, 1) := by decide +kernel
theorem dX8_reaches_38 : decode cX8_reaches 38 = .ok (.aload_n 0, 1) := by decide +kernel
theorem dX8_reaches_39 : decode cX8_reaches 39 = .ok (.dup, 1) := by decide +kernel
theorem dX8_reaches_40 : decode cX8_reaches 40 = .ok (.getfield 25, 3) := by decide +kernel
theorem dX8_reaches_43 : decode cX8_reaches 43 = .ok (.aload_n 0, 1) := by decide +kernel
theorem dX8_reaches_44 : decode cX8_reaches 44 = .ok (.getfield 66, 3) := by decide +kernel
theorem dX8_reaches_47 : decode cX8_reaches 47 = .ok (.iadd, 1) := by decide +kernel
theorem dX8_reaches_48 : decode cX8_reaches 48 = .ok (.putfield 25, 3) := by decide +kernel
theorem dX8_reaches_51 : decode cX8_reaches 51 = .ok (.iconst 0, 1) := by decide +kernel
theorem dX8_reaches_52 : decode cX8_reaches 52 = .ok (.ireturn, 1) := by decide +kernel
theorem dX8_dropSilent_0 : decode cX8_dropSilent 0 = .ok (.aload_n 0, 1) := by decide +kernel
theorem dX8_dropSilent_1 : decode cX8_dropSilent 1 = .ok (.aload_n 1, 1) := by decide +kernel
theorem dX8_dropSilent_2 : decode cX8_dropSilent 2 = .ok (.getfield 73, 3) := by decide +kernel
theorem dX8_dropSilent_5 : decode cX8_dropSilent 5 = .ok (.invokevirtual 15, 3) := by decide +kernel
theorem dX8_dropSilent_8 : decode cX8_dropSilent 8 = .ok (.astore_n 2, 1) := by decide +kernel
theorem dX8_dropSilent_9 : decode cX8_dropSilent 9 = .ok (.aload_n 2, 1) := by decide +kernel
theorem dX8_dropSilent_10 : decode cX8_dropSilent 10 = .ok (.ifnull 33, 3) := by decide +kernel
theorem dX8_dropSilent_13 : decode cX8_dropSilent 13 = .ok (.aload_n 2, 1) := by decide +kernel
theorem dX8_dropSilent_14 : decode cX8_dropSilent 14 = .ok (.aload_n 1, 1) := by decide +kernel
theorem dX8_dropSilent_15 : decode cX8_dropSilent 15 = .ok (.if_acmp .eq 28, 3) := by decide +kernel
theorem dX8_dropSilent_18 : decode cX8_dropSilent 18 = .ok (.aload_n 2, 1) := by decide +kernel
theorem dX8_dropSilent_19 : decode cX8_dropSilent 19 = .ok (.getfield 69, 3) := by decide +kernel
theorem dX8_dropSilent_22 : decode cX8_dropSilent 22 = .ok (.ifCond .eq 21, 3) := by decide +kernel
theorem dX8_dropSilent_25 : decode cX8_dropSilent 25 = .ok (.aload_n 2, 1) := by decide +kernel
theorem dX8_dropSilent_26 : decode cX8_dropSilent 26 = .ok (.iconst 0, 1) := by decide +kernel
theorem dX8_dropSilent_27 : decode cX8_dropSilent 27 = .ok (.putfield 69, 3) := by decide +kernel
theorem dX8_dropSilent_30 : decode cX8_dropSilent 30 = .ok (.aload_n 0, 1) := by decide +kernel
theorem dX8_dropSilent_31 : decode cX8_dropSilent 31 = .ok (.getfield 76, 3) := by decide +kernel
theorem dX8_dropSilent_34 : decode cX8_dropSilent 34 = .ok (.dup, 1) := by decide +kernel
theorem dX8_dropSilent_35 : decode cX8_dropSilent 35 = .ok (.getfield 163, 3) := by decide +kernel
theorem dX8_dropSilent_38 : decode cX8_dropSilent 38 = .ok (.iconst 1, 1) := by decide +kernel
theorem dX8_dropSilent_39 : decode cX8_dropSilent 39 = .ok (.iadd, 1) := by decide +kernel
theorem dX8_dropSilent_40 : decode cX8_dropSilent 40 = .ok (.putfield 163, 3) := by decide +kernel
theorem dX8_dropSilent_43 : decode cX8_dropSilent 43 = .ok (.return_, 1) := by decide +kernel
theorem dX8_askOthers_0 : decode cX8_askOthers 0 = .ok (.aload_n 1, 1) := by decide +kernel
theorem dX8_askOthers_1 : decode cX8_askOthers 1 = .ok (.getfield 73, 3) := by decide +kernel
theorem dX8_askOthers_4 : decode cX8_askOthers 4 = .ok (.invokestatic 149, 3) := by decide +kernel
theorem dX8_askOthers_7 : decode cX8_askOthers 7 = .ok (.istore_n 2, 1) := by decide +kernel
theorem dX8_askOthers_8 : decode cX8_askOthers 8 = .ok (.iconst 0, 1) := by decide +kernel
theorem dX8_askOthers_9 : decode cX8_askOthers 9 = .ok (.istore_n 3, 1) := by decide +kernel
theorem dX8_askOthers_10 : decode cX8_askOthers 10 = .ok (.iload_n 3, 1) := by decide +kernel
theorem dX8_askOthers_11 : decode cX8_askOthers 11 = .ok (.bipush 31, 2) := by decide +kernel
theorem dX8_askOthers_13 : decode cX8_askOthers 13 = .ok (.if_icmp .gt 41, 3) := by decide +kernel
theorem dX8_askOthers_16 : decode cX8_askOthers 16 = .ok (.iload_n 2, 1) := by decide +kernel
theorem dX8_askOthers_17 : decode cX8_askOthers 17 = .ok (.aload_n 1, 1) := by decide +kernel
theorem dX8_askOthers_18 : decode cX8_askOthers 18 = .ok (.getfield 53, 3) := by decide +kernel
theorem dX8_askOthers_21 : decode cX8_askOthers 21 = .ok (.if_icmp .eq 33, 3) := by decide +kernel
theorem dX8_askOthers_24 : decode cX8_askOthers 24 = .ok (.aload_n 0, 1) := by decide +kernel
theorem dX8_askOthers_25 : decode cX8_askOthers 25 = .ok (.iload_n 2, 1) := by decide +kernel
theorem dX8_askOthers_26 : decode cX8_askOthers 26 = .ok (.invokestatic 159, 3) := by decide +kernel
theorem dX8_askOthers_29 : decode cX8_askOthers 29 = .ok (.ifCond .eq 14, 3) := by decide +kernel
theorem dX8_askOthers_32 : decode cX8_askOthers 32 = .ok (.aload_n 1, 1) := by decide +kernel
theorem dX8_askOthers_33 : decode cX8_askOthers 33 = .ok (.iload_n 2, 1) := by decide +kernel
theorem dX8_askOthers_34 : decode cX8_askOthers 34 = .ok (.putfield 73, 3) := by decide +kernel
theorem dX8_askOthers_37 : decode cX8_askOthers 37 = .ok (.aload_n 0, 1) := by decide +kernel
theorem dX8_askOthers_38 : decode cX8_askOthers 38 = .ok (.iload_n 2, 1) := by decide +kernel
theorem dX8_askOthers_39 : decode cX8_askOthers 39 = .ok (.putfield 9, 3) := by decide +kernel
theorem dX8_askOthers_42 : decode cX8_askOthers 42 = .ok (.return_, 1) := by decide +kernel
theorem dX8_askOthers_43 : decode cX8_askOthers 43 = .ok (.iload_n 2, 1) := by decide +kernel
theorem dX8_askOthers_44 : decode cX8_askOthers 44 = .ok (.invokestatic 149, 3) := by decide +kernel
theorem dX8_askOthers_47 : decode cX8_askOthers 47 = .ok (.istore_n 2, 1) := by decide +kernel
theorem dX8_askOthers_48 : decode cX8_askOthers 48 = .ok (.iinc 3 1, 3) := by decide +kernel
theorem dX8_askOthers_51 : decode cX8_askOthers 51 = .ok (.goto (-41), 3) := by decide +kernel
theorem dX8_askOthers_54 : decode cX8_askOthers 54 = .ok (.aload_n 1, 1) := by decide +kernel
theorem dX8_askOthers_55 : decode cX8_askOthers 55 = .ok (.aload_n 1, 1) := by decide +kernel
theorem dX8_askOthers_56 : decode cX8_askOthers 56 = .ok (.getfield 53, 3) := by decide +kernel
theorem dX8_askOthers_59 : decode cX8_askOthers 59 = .ok (.putfield 73, 3) := by decide +kernel
theorem dX8_askOthers_62 : decode cX8_askOthers 62 = .ok (.return_, 1) := by decide +kernel
theorem dX9_init_0 : decode cX9_init 0 = .ok (.aload_n 0, 1) := by decide +kernel
theorem dX9_init_1 : decode cX9_init 1 = .ok (.invokespecial 1, 3) := by decide +kernel
theorem dX9_init_4 : decode cX9_init 4 = .ok (.aload_n 0, 1) := by decide +kernel
theorem dX9_init_5 : decode cX9_init 5 = .ok (.new 7, 3) := by decide +kernel
theorem dX9_init_8 : decode cX9_init 8 = .ok (.dup, 1) := by decide +kernel
theorem dX9_init_9 : decode cX9_init 9 = .ok (.invokespecial 9, 3) := by decide +kernel
theorem dX9_init_12 : decode cX9_init 12 = .ok (.putfield 10, 3) := by decide +kernel
theorem dX9_init_15 : decode cX9_init 15 = .ok (.aload_n 0, 1) := by decide +kernel
theorem dX9_init_16 : decode cX9_init 16 = .ok (.new 7, 3) := by decide +kernel
theorem dX9_init_19 : decode cX9_init 19 = .ok (.dup, 1) := by decide +kernel
theorem dX9_init_20 : decode cX9_init 20 = .ok (.invokespecial 9, 3) := by decide +kernel
theorem dX9_init_23 : decode cX9_init 23 = .ok (.putfield 16, 3) := by decide +kernel
theorem dX9_init_26 : decode cX9_init 26 = .ok (.aload_n 0, 1) := by decide +kernel
theorem dX9_init_27 : decode cX9_init 27 = .ok (.new 19, 3) := by decide +kernel
theorem dX9_init_30 : decode cX9_init 30 = .ok (.dup, 1) := by decide +kernel
theorem dX9_init_31 : decode cX9_init 31 = .ok (.invokespecial 21, 3) := by decide +kernel
theorem dX9_init_34 : decode cX9_init 34 = .ok (.putfield 22, 3) := by decide +kernel
theorem dX9_init_37 : decode cX9_init 37 = .ok (.aload_n 0, 1) := by decide +kernel
theorem dX9_init_38 : decode cX9_init 38 = .ok (.bipush 120, 2) := by decide +kernel
theorem dX9_init_40 : decode cX9_init 40 = .ok (.newarray .byte, 2) := by decide +kernel
theorem dX9_init_42 : decode cX9_init 42 = .ok (.putfield 26, 3) := by decide +kernel
theorem dX9_init_45 : decode cX9_init 45 = .ok (.return_, 1) := by decide +kernel
theorem dX9_addStation_0 : decode cX9_addStation 0 = .ok (.iload_n 1, 1) := by decide +kernel
theorem dX9_addStation_1 : decode cX9_addStation 1 = .ok (.invokestatic 30, 3) := by decide +kernel
theorem dX9_addStation_4 : decode cX9_addStation 4 = .ok (.ifCond .ne 13, 3) := by decide +kernel
theorem dX9_addStation_7 : decode cX9_addStation 7 = .ok (.new 34, 3) := by decide +kernel
theorem dX9_addStation_10 : decode cX9_addStation 10 = .ok (.dup, 1) := by decide +kernel
theorem dX9_addStation_11 : decode cX9_addStation 11 = .ok (.ldc 36, 2) := by decide +kernel
theorem dX9_addStation_13 : decode cX9_addStation 13 = .ok (.invokespecial 38, 3) := by decide +kernel
theorem dX9_addStation_16 : decode cX9_addStation 16 = .ok (.athrow, 1) := by decide +kernel
theorem dX9_addStation_17 : decode cX9_addStation 17 = .ok (.aload_n 0, 1) := by decide +kernel
theorem dX9_addStation_18 : decode cX9_addStation 18 = .ok (.getfield 10, 3) := by decide +kernel
theorem dX9_addStation_21 : decode cX9_addStation 21 = .ok (.iload_n 1, 1) := by decide +kernel
theorem dX9_addStation_22 : decode cX9_addStation 22 = .ok (.invokevirtual 41, 3) := by decide +kernel
theorem dX9_addStation_25 : decode cX9_addStation 25 = .ok (.ifnonnull 13, 3) := by decide +kernel
theorem dX9_addStation_28 : decode cX9_addStation 28 = .ok (.aload_n 0, 1) := by decide +kernel
theorem dX9_addStation_29 : decode cX9_addStation 29 = .ok (.getfield 10, 3) := by decide +kernel
theorem dX9_addStation_32 : decode cX9_addStation 32 = .ok (.invokevirtual 45, 3) := by decide +kernel
theorem dX9_addStation_35 : decode cX9_addStation 35 = .ok (.ifCond .eq 13, 3) := by decide +kernel
theorem dX9_addStation_38 : decode cX9_addStation 38 = .ok (.new 49, 3) := by decide +kernel
theorem dX9_addStation_41 : decode cX9_addStation 41 = .ok (.dup, 1) := by decide +kernel
theorem dX9_addStation_42 : decode cX9_addStation 42 = .ok (.ldc 51, 2) := by decide +kernel
theorem dX9_addStation_44 : decode cX9_addStation 44 = .ok (.invokespecial 53, 3) := by decide +kernel
theorem dX9_addStation_47 : decode cX9_addStation 47 = .ok (.athrow, 1) := by decide +kernel
theorem dX9_addStation_48 : decode cX9_addStation 48 = .ok (.aload_n 0, 1) := by decide +kernel
theorem dX9_addStation_49 : decode cX9_addStation 49 = .ok (.getfield 22, 3) := by decide +kernel
theorem dX9_addStation_52 : decode cX9_addStation 52 = .ok (.aload_n 0, 1) := by decide +kernel
theorem dX9_addStation_53 : decode cX9_addStation 53 = .ok (.getfield 10, 3) := by decide +kernel
theorem dX9_addStation_56 : decode cX9_addStation 56 = .ok (.invokevirtual 54, 3) := by decide +kernel
theorem dX9_addStation_59 : decode cX9_addStation 59 = .ok (.aload_n 0, 1) := by decide +kernel
theorem dX9_addStation_60 : decode cX9_addStation 60 = .ok (.getfield 10, 3) := by decide +kernel
theorem dX9_addStation_63 : decode cX9_addStation 63 = .ok (.iload_n 1, 1) := by decide +kernel
theorem dX9_addStation_64 : decode cX9_addStation 64 = .ok (.invokevirtual 58, 3) := by decide +kernel
theorem dX9_addStation_67 : decode cX9_addStation 67 = .ok (.pop, 1) := by decide +kernel
theorem dX9_addStation_68 : decode cX9_addStation 68 = .ok (.aload_n 0, 1) := by decide +kernel
theorem dX9_addStation_69 : decode cX9_addStation 69 = .ok (.getfield 10, 3) := by decide +kernel
theorem dX9_addStation_72 : decode cX9_addStation 72 = .ok (.getfield 61, 3) := by decide +kernel
theorem dX9_addStation_75 : decode cX9_addStation 75 = .ok (.ireturn, 1) := by decide +kernel
theorem dX9_setOn_0 : decode cX9_setOn 0 = .ok (.aload_n 0, 1) := by decide +kernel
theorem dX9_setOn_1 : decode cX9_setOn 1 = .ok (.getfield 10, 3) := by decide +kernel
theorem dX9_setOn_4 : decode cX9_setOn 4 = .ok (.iload_n 1, 1) := by decide +kernel
theorem dX9_setOn_5 : decode cX9_setOn 5 = .ok (.invokevirtual 41, 3) := by decide +kernel
theorem dX9_setOn_8 : decode cX9_setOn 8 = .ok (.astore_n 3, 1) := by decide +kernel
theorem dX9_setOn_9 : decode cX9_setOn 9 = .ok (.aload_n 3, 1) := by decide +kernel
theorem dX9_setOn_10 : decode cX9_setOn 10 = .ok (.ifnonnull 13, 3) := by decide +kernel
theorem dX9_setOn_13 : decode cX9_setOn 13 = .ok (.new 65, 3) := by decide +kernel
theorem dX9_setOn_16 : decode cX9_setOn 16 = .ok (.dup, 1) := by decide +kernel
theorem dX9_setOn_17 : decode cX9_setOn 17 = .ok (.ldc 67, 2) := by decide +kernel
theorem dX9_setOn_19 : decode cX9_setOn 19 = .ok (.invokespecial 69, 3) := by decide +kernel
theorem dX9_setOn_22 : decode cX9_setOn 22 = .ok (.athrow, 1) := by decide +kernel
theorem dX9_setOn_23 : decode cX9_setOn 23 = .ok (.aload_n 3, 1) := by decide +kernel
theorem dX9_setOn_24 : decode cX9_setOn 24 = .ok (.getfield 70, 3) := by decide +kernel
theorem dX9_setOn_27 : decode cX9_setOn 27 = .ok (.istore 4, 2) := by decide +kernel
theorem dX9_setOn_29 : decode cX9_setOn 29 = .ok (.aload_n 0, 1) := by decide +kernel
theorem dX9_setOn_30 : decode cX9_setOn 30 = .ok (.getfield 22, 3) := by decide +kernel
theorem dX9_setOn_33 : decode cX9_setOn 33 = .ok (.aload_n 0, 1) := by decide +kernel
theorem dX9_setOn_34 : decode cX9_setOn 34 = .ok (.getfield 10, 3) := by decide +kernel
theorem dX9_setOn_37 : decode cX9_setOn 37 = .ok (.invokevirtual 54, 3) := by decide +kernel
theorem dX9_setOn_40 : decode cX9_setOn 40 = .ok (.aload_n 0, 1) := by decide +kernel
theorem dX9_setOn_41 : decode cX9_setOn 41 = .ok (.getfield 10, 3) := by decide +kernel
theorem dX9_setOn_44 : decode cX9_setOn 44 = .ok (.aload_n 3, 1) := by decide +kernel
theorem dX9_setOn_45 : decode cX9_setOn 45 = .ok (.iload_n 2, 1) := by decide +kernel
theorem dX9_setOn_46 : decode cX9_setOn 46 = .ok (.invokevirtual 76, 3) := by decide +kernel
theorem dX9_setOn_49 : decode cX9_setOn 49 = .ok (.iload 4, 2) := by decide +kernel
theorem dX9_setOn_51 : decode cX9_setOn 51 = .ok (.ireturn, 1) := by decide +kernel
theorem dX9_setTimes_0 : decode cX9_setTimes 0 = .ok (.iload_n 1, 1) := by decide +kernel
theorem dX9_setTimes_1 : decode cX9_setTimes 1 = .ok (.iconst 1, 1) := by decide +kernel
theorem dX9_setTimes_2 : decode cX9_setTimes 2 = .ok (.sipush 500, 3) := by decide +kernel
theorem dX9_setTimes_5 : decode cX9_setTimes 5 = .ok (.invokestatic 80, 3) := by decide +kernel
theorem dX9_setTimes_8 : decode cX9_setTimes 8 = .ok (.ifCond .eq 23, 3) := by decide +kernel
theorem dX9_setTimes_11 : decode cX9_setTimes 11 = .ok (.iload_n 2, 1) := by decide +kernel
theorem dX9_setTimes_12 : decode cX9_setTimes 12 = .ok (.iconst 1, 1) := by decide +kernel
theorem dX9_setTimes_13 : decode cX9_setTimes 13 = .ok (.bipush 20, 2) := by decide +kernel
theorem dX9_setTimes_15 : decode cX9_setTimes 15 = .ok (.invokestatic 80, 3) := by decide +kernel
theorem dX9_setTimes_18 : decode cX9_setTimes 18 = .ok (.ifCond .eq 13, 3) := by decide +kernel
theorem dX9_setTimes_21 : decode cX9_setTimes 21 = .ok (.iload_n 3, 1) := by decide +kernel
theorem dX9_setTimes_22 : decode cX9_setTimes 22 = .ok (.iconst 1, 1) := by decide +kernel
theorem dX9_setTimes_23 : decode cX9_setTimes 23 = .ok (.bipush 20, 2) := by decide +kernel
theorem dX9_setTimes_25 : decode cX9_setTimes 25 = .ok (.invokestatic 80, 3) := by decide +kernel
theorem dX9_setTimes_28 : decode cX9_setTimes 28 = .ok (.ifCond .ne 13, 3) := by decide +kernel
theorem dX9_setTimes_31 : decode cX9_setTimes 31 = .ok (.new 34, 3) := by decide +kernel
theorem dX9_setTimes_34 : decode cX9_setTimes 34 = .ok (.dup, 1) := by decide +kernel
theorem dX9_setTimes_35 : decode cX9_setTimes 35 = .ok (.ldc 84, 2) := by decide +kernel
theorem dX9_setTimes_37 : decode cX9_setTimes 37 = .ok (.invokespecial 38, 3) := by decide +kernel
theorem dX9_setTimes_40 : decode cX9_setTimes 40 = .ok (.athrow, 1) := by decide +kernel
theorem dX9_setTimes_41 : decode cX9_setTimes 41 = .ok (.aload_n 0, 1) := by decide +kernel
theorem dX9_setTimes_42 : decode cX9_setTimes 42 = .ok (.getfield 10, 3) := by decide +kernel
theorem dX9_setTimes_45 : decode cX9_setTimes 45 = .ok (.getfield 86, 3) := by decide +kernel
theorem dX9_setTimes_48 : decode cX9_setTimes 48 = .ok (.istore 4, 2) := by decide +kernel
theorem dX9_setTimes_50 : decode cX9_setTimes 50 = .ok (.aload_n 0, 1) := by decide +kernel
theorem dX9_setTimes_51 : decode cX9_setTimes 51 = .ok (.getfield 22, 3) := by decide +kernel
theorem dX9_setTimes_54 : decode cX9_setTimes 54 = .ok (.aload_n 0, 1) := by decide +kernel
theorem dX9_setTimes_55 : decode cX9_setTimes 55 = .ok (.getfield 10, 3) := by decide +kernel
theorem dX9_setTimes_58 : decode cX9_setTimes 58 = .ok (.invokevirtual 54, 3) := by decide +kernel
theorem dX9_setTimes_61 : decode cX9_setTimes 61 = .ok (.aload_n 0, 1) := by decide +kernel
theorem dX9_setTimes_62 : decode cX9_setTimes 62 = .ok (.getfield 10, 3) := by decide +kernel
theorem dX9_setTimes_65 : decode cX9_setTimes 65 = .ok (.iload_n 1, 1) := by decide +kernel
theorem dX9_setTimes_66 : decode cX9_setTimes 66 = .ok (.putfield 86, 3) := by decide +kernel
theorem dX9_setTimes_69 : decode cX9_setTimes 69 = .ok (.aload_n 0, 1) := by decide +kernel
theorem dX9_setTimes_70 : decode cX9_setTimes 70 = .ok (.getfield 10, 3) := by decide +kernel
theorem dX9_setTimes_73 : decode cX9_setTimes 73 = .ok (.iload_n 2, 1) := by decide +kernel
theorem dX9_setTimes_74 : decode cX9_setTimes 74 = .ok (.putfield 89, 3) := by decide +kernel
theorem dX9_setTimes_77 : decode cX9_setTimes 77 = .ok (.aload_n 0, 1) := by decide +kernel
theorem dX9_setTimes_78 : decode cX9_setTimes 78 = .ok (.getfield 10, 3) := by decide +kernel
theorem dX9_setTimes_81 : decode cX9_setTimes 81 = .ok (.iload_n 3, 1) := by decide +kernel
theorem dX9_setTimes_82 : decode cX9_setTimes 82 = .ok (.putfield 92, 3) := by decide +kernel
theorem dX9_setTimes_85 : decode cX9_setTimes 85 = .ok (.iload 4, 2) := by decide +kernel
theorem dX9_setTimes_87 : decode cX9_setTimes 87 = .ok (.ireturn, 1) := by decide +kernel
theorem dX9_give_0 : decode cX9_give 0 = .ok (.aload_n 0, 1) := by decide +kernel
theorem dX9_give_1 : decode cX9_give 1 = .ok (.getfield 10, 3) := by decide +kernel
theorem dX9_give_4 : decode cX9_give 4 = .ok (.iload_n 1, 1) := by decide +kernel
theorem dX9_give_5 : decode cX9_give 5 = .ok (.invokevirtual 41, 3) := by decide +kernel
theorem dX9_give_8 : decode cX9_give 8 = .ok (.astore 4, 2) := by decide +kernel
theorem dX9_give_10 : decode cX9_give 10 = .ok (.aload 4, 2) := by decide +kernel
theorem dX9_give_12 : decode cX9_give 12 = .ok (.ifnonnull 13, 3) := by decide +kernel
theorem dX9_give_15 : decode cX9_give 15 = .ok (.new 65, 3) := by decide +kernel
theorem dX9_give_18 : decode cX9_give 18 = .ok (.dup, 1) := by decide +kernel
theorem dX9_give_19 : decode cX9_give 19 = .ok (.ldc 67, 2) := by decide +kernel
theorem dX9_give_21 : decode cX9_give 21 = .ok (.invokespecial 69, 3) := by decide +kernel
theorem dX9_give_24 : decode cX9_give 24 = .ok (.athrow, 1) := by decide +kernel
theorem dX9_give_25 : decode cX9_give 25 = .ok (.iload_n 2, 1) := by decide +kernel
theorem dX9_give_26 : decode cX9_give 26 = .ok (.iconst 1, 1) := by decide +kernel
theorem dX9_give_27 : decode cX9_give 27 = .ok (.bipush 20, 2) := by decide +kernel
theorem dX9_give_29 : decode cX9_give 29 = .ok (.invokestatic 80, 3) := by decide +kernel
theorem dX9_give_32 : decode cX9_give 32 = .ok (.ifCond .eq 13, 3) := by decide +kernel
theorem dX9_give_35 : decode cX9_give 35 = .ok (.iload_n 3, 1) := by decide +kernel
theorem dX9_give_36 : decode cX9_give 36 = .ok (.iconst 0, 1) := by decide +kernel
theorem dX9_give_37 : decode cX9_give 37 = .ok (.bipush 9, 2) := by decide +kernel
theorem dX9_give_39 : decode cX9_give 39 = .ok (.invokestatic 80, 3) := by decide +kernel
theorem dX9_give_42 : decode cX9_give 42 = .ok (.ifCond .ne 13, 3) := by decide +kernel
theorem dX9_give_45 : decode cX9_give 45 = .ok (.new 34, 3) := by decide +kernel
theorem dX9_give_48 : decode cX9_give 48 = .ok (.dup, 1) := by decide +kernel
theorem dX9_give_49 : decode cX9_give 49 = .ok (.ldc 95, 2) := by decide +kernel
theorem dX9_give_51 : decode cX9_give 51 = .ok (.invokespecial 38, 3) := by decide +kernel
theorem dX9_give_54 : decode cX9_give 54 = .ok (.athrow, 1) := by decide +kernel
theorem dX9_give_55 : decode cX9_give 55 = .ok (.aload_n 0, 1) := by decide +kernel
theorem dX9_give_56 : decode cX9_give 56 = .ok (.getfield 10, 3) := by decide +kernel
theorem dX9_give_59 : decode cX9_give 59 = .ok (.getfield 97, 3) := by decide +kernel
theorem dX9_give_62 : decode cX9_give 62 = .ok (.invokevirtual 101, 3) := by decide +kernel
theorem dX9_give_65 : decode cX9_give 65 = .ok (.ifCond .eq 13, 3) := by decide +kernel
theorem dX9_give_68 : decode cX9_give 68 = .ok (.new 49, 3) := by decide +kernel
theorem dX9_give_71 : decode cX9_give 71 = .ok (.dup, 1) := by decide +kernel
theorem dX9_give_72 : decode cX9_give 72 = .ok (.ldc 104, 2) := by decide +kernel
theorem dX9_give_74 : decode cX9_give 74 = .ok (.invokespecial 53, 3) := by decide +kernel
theorem dX9_give_77 : decode cX9_give 77 = .ok (.athrow, 1) := by decide +kernel
theorem dX9_give_78 : decode cX9_give 78 = .ok (.aload_n 0, 1) := by decide +kernel
theorem dX9_give_79 : decode cX9_give 79 = .ok (.getfield 22, 3) := by decide +kernel
theorem dX9_give_82 : decode cX9_give 82 = .ok (.aload_n 0, 1) := by decide +kernel
theorem dX9_give_83 : decode cX9_give 83 = .ok (.getfield 10, 3) := by decide +kernel
theorem dX9_give_86 : decode cX9_give 86 = .ok (.invokevirtual 54, 3) := by decide +kernel
theorem dX9_give_89 : decode cX9_give 89 = .ok (.aload_n 0, 1) := by decide +kernel
theorem dX9_give_90 : decode cX9_give 90 = .ok (.getfield 10, 3) := by decide +kernel
theorem dX9_give_93 : decode cX9_give 93 = .ok (.getfield 97, 3) := by decide +kernel
theorem dX9_give_96 : decode cX9_give 96 = .ok (.aload 4, 2) := by decide +kernel
theorem dX9_give_98 : decode cX9_give 98 = .ok (.iload_n 2, 1) := by decide +kernel
theorem dX9_give_99 : decode cX9_give 99 = .ok (.iload_n 3, 1) := by decide +kernel
theorem dX9_give_100 : decode cX9_give 100 = .ok (.aload_n 0, 1) := by decide +kernel
theorem dX9_give_101 : decode cX9_give 101 = .ok (.getfield 10, 3) := by decide +kernel
theorem dX9_give_104 : decode cX9_give 104 = .ok (.getfield 106, 3) := by decide +kernel
theorem dX9_give_107 : decode cX9_give 107 = .ok (.invokevirtual 109, 3) := by decide +kernel
theorem dX9_give_110 : decode cX9_give 110 = .ok (.ireturn, 1) := by decide +kernel
theorem dX9_addNoise_0 : decode cX9_addNoise 0 = .ok (.iload_n 2, 1) := by decide +kernel
theorem dX9_addNoise_1 : decode cX9_addNoise 1 = .ok (.iconst 0, 1) := by decide +kernel
theorem dX9_addNoise_2 : decode cX9_addNoise 2 = .ok (.ldc 113, 2) := by decide +kernel
theorem dX9_addNoise_4 : decode cX9_addNoise 4 = .ok (.invokestatic 80, 3) := by decide +kernel
theorem dX9_addNoise_7 : decode cX9_addNoise 7 = .ok (.ifCond .eq 12, 3) := by decide +kernel
theorem dX9_addNoise_10 : decode cX9_addNoise 10 = .ok (.iload_n 1, 1) := by decide +kernel
theorem dX9_addNoise_11 : decode cX9_addNoise 11 = .ok (.iconst 0, 1) := by decide +kernel
theorem dX9_addNoise_12 : decode cX9_addNoise 12 = .ok (.iload_n 2, 1) := by decide +kernel
theorem dX9_addNoise_13 : decode cX9_addNoise 13 = .ok (.invokestatic 80, 3) := by decide +kernel
theorem dX9_addNoise_16 : decode cX9_addNoise 16 = .ok (.ifCond .ne 13, 3) := by decide +kernel
theorem dX9_addNoise_19 : decode cX9_addNoise 19 = .ok (.new 34, 3) := by decide +kernel
theorem dX9_addNoise_22 : decode cX9_addNoise 22 = .ok (.dup, 1) := by decide +kernel
theorem dX9_addNoise_23 : decode cX9_addNoise 23 = .ok (.ldc 114, 2) := by decide +kernel
theorem dX9_addNoise_25 : decode cX9_addNoise 25 = .ok (.invokespecial 38, 3) := by decide +kernel
theorem dX9_addNoise_28 : decode cX9_addNoise 28 = .ok (.athrow, 1) := by decide +kernel
theorem dX9_addNoise_29 : decode cX9_addNoise 29 = .ok (.aload_n 0, 1) := by decide +kernel
theorem dX9_addNoise_30 : decode cX9_addNoise 30 = .ok (.getfield 10, 3) := by decide +kernel
theorem dX9_addNoise_33 : decode cX9_addNoise 33 = .ok (.getfield 116, 3) := by decide +kernel
theorem dX9_addNoise_36 : decode cX9_addNoise 36 = .ok (.invokevirtual 120, 3) := by decide +kernel
theorem dX9_addNoise_39 : decode cX9_addNoise 39 = .ok (.ifCond .eq 13, 3) := by decide +kernel
theorem dX9_addNoise_42 : decode cX9_addNoise 42 = .ok (.new 49, 3) := by decide +kernel
theorem dX9_addNoise_45 : decode cX9_addNoise 45 = .ok (.dup, 1) := by decide +kernel
theorem dX9_addNoise_46 : decode cX9_addNoise 46 = .ok (.ldc 123, 2) := by decide +kernel
theorem dX9_addNoise_48 : decode cX9_addNoise 48 = .ok (.invokespecial 53, 3) := by decide +kernel
theorem dX9_addNoise_51 : decode cX9_addNoise 51 = .ok (.athrow, 1) := by decide +kernel
theorem dX9_addNoise_52 : decode cX9_addNoise 52 = .ok (.aload_n 0, 1) := by decide +kernel
theorem dX9_addNoise_53 : decode cX9_addNoise 53 = .ok (.getfield 22, 3) := by decide +kernel
theorem dX9_addNoise_56 : decode cX9_addNoise 56 = .ok (.aload_n 0, 1) := by decide +kernel
theorem dX9_addNoise_57 : decode cX9_addNoise 57 = .ok (.getfield 10, 3) := by decide +kernel
theorem dX9_addNoise_60 : decode cX9_addNoise 60 = .ok (.invokevirtual 54, 3) := by decide +kernel
theorem dX9_addNoise_63 : decode cX9_addNoise 63 = .ok (.aload_n 0, 1) := by decide +kernel
theorem dX9_addNoise_64 : decode cX9_addNoise 64 = .ok (.getfield 10, 3) := by decide +kernel
theorem dX9_addNoise_67 : decode cX9_addNoise 67 = .ok (.getfield 116, 3) := by decide +kernel
theorem dX9_addNoise_70 : decode cX9_addNoise 70 = .ok (.iload_n 1, 1) := by decide +kernel
theorem dX9_addNoise_71 : decode cX9_addNoise 71 = .ok (.iload_n 2, 1) := by decide +kernel
theorem dX9_addNoise_72 : decode cX9_addNoise 72 = .ok (.invokevirtual 125, 3) := by decide +kernel
theorem dX9_addNoise_75 : decode cX9_addNoise 75 = .ok (.aload_n 0, 1) := by decide +kernel
theorem dX9_addNoise_76 : decode cX9_addNoise 76 = .ok (.getfield 10, 3) := by decide +kernel
theorem dX9_addNoise_79 : decode cX9_addNoise 79 = .ok (.getfield 116, 3) := by decide +kernel
theorem dX9_addNoise_82 : decode cX9_addNoise 82 = .ok (.getfield 128, 3) := by decide +kernel
theorem dX9_addNoise_85 : decode cX9_addNoise 85 = .ok (.ireturn, 1) := by decide +kernel
theorem dX9_run_0 : decode cX9_run 0 = .ok (.iload_n 1, 1) := by decide +kernel
theorem dX9_run_1 : decode cX9_run 1 = .ok (.iconst 0, 1) := by decide +kernel
theorem dX9_run_2 : decode cX9_run 2 = .ok (.sipush 200, 3) := by decide +kernel
theorem dX9_run_5 : decode cX9_run 5 = .ok (.invokestatic 80, 3) := by decide +kernel
theorem dX9_run_8 : decode cX9_run 8 = .ok (.ifCond .ne 13, 3) := by decide +kernel
theorem dX9_run_11 : decode cX9_run 11 = .ok (.new 34, 3) := by decide +kernel
theorem dX9_run_14 : decode cX9_run 14 = .ok (.dup, 1) := by decide +kernel
theorem dX9_run_15 : decode cX9_run 15 = .ok (.ldc 131, 2) := by decide +kernel
theorem dX9_run_17 : decode cX9_run 17 = .ok (.invokespecial 38, 3) := by decide +kernel
theorem dX9_run_20 : decode cX9_run 20 = .ok (.athrow, 1) := by decide +kernel
theorem dX9_run_21 : decode cX9_run 21 = .ok (.aload_n 0, 1) := by decide +kernel
theorem dX9_run_22 : decode cX9_run 22 = .ok (.getfield 10, 3) := by decide +kernel
theorem dX9_run_25 : decode cX9_run 25 = .ok (.invokevirtual 133, 3) := by decide +kernel
theorem dX9_run_28 : decode cX9_run 28 = .ok (.ifCond .eq 13, 3) := by decide +kernel
theorem dX9_run_31 : decode cX9_run 31 = .ok (.new 49, 3) := by decide +kernel
theorem dX9_run_34 : decode cX9_run 34 = .ok (.dup, 1) := by decide +kernel
theorem dX9_run_35 : decode cX9_run 35 = .ok (.ldc 136, 2) := by decide +kernel
theorem dX9_run_37 : decode cX9_run 37 = .ok (.invokespecial 53, 3) := by decide +kernel
theorem dX9_run_40 : decode cX9_run 40 = .ok (.athrow, 1) := by decide +kernel
theorem dX9_run_41 : decode cX9_run 41 = .ok (.aload_n 0, 1) := by decide +kernel
theorem dX9_run_42 : decode cX9_run 42 = .ok (.getfield 22, 3) := by decide +kernel
theorem dX9_run_45 : decode cX9_run 45 = .ok (.aload_n 0, 1) := by decide +kernel
theorem dX9_run_46 : decode cX9_run 46 = .ok (.getfield 10, 3) := by decide +kernel
theorem dX9_run_49 : decode cX9_run 49 = .ok (.invokevirtual 54, 3) := by decide +kernel
theorem dX9_run_52 : decode cX9_run 52 = .ok (.iconst 0, 1) := by decide +kernel
theorem dX9_run_53 : decode cX9_run 53 = .ok (.istore_n 2, 1) := by decide +kernel
theorem dX9_run_54 : decode cX9_run 54 = .ok (.iload_n 2, 1) := by decide +kernel
theorem dX9_run_55 : decode cX9_run 55 = .ok (.iload_n 1, 1) := by decide +kernel
theorem dX9_run_56 : decode cX9_run 56 = .ok (.if_icmp .ge 16, 3) := by decide +kernel
theorem dX9_run_59 : decode cX9_run 59 = .ok (.aload_n 0, 1) := by decide +kernel
theorem dX9_run_60 : decode cX9_run 60 = .ok (.getfield 10, 3) := by decide +kernel
theorem dX9_run_63 : decode cX9_run 63 = .ok (.invokestatic 138, 3) := by decide +kernel
theorem dX9_run_66 : decode cX9_run 66 = .ok (.iinc 2 1, 3) := by decide +kernel
theorem dX9_run_69 : decode cX9_run 69 = .ok (.goto (-15), 3) := by decide +kernel
theorem dX9_run_72 : decode cX9_run 72 = .ok (.aload_n 0, 1) := by decide +kernel
theorem dX9_run_73 : decode cX9_run 73 = .ok (.getfield 10, 3) := by decide +kernel
theorem dX9_run_76 : decode cX9_run 76 = .ok (.getfield 106, 3) := by decide +kernel
theorem dX9_run_79 : decode cX9_run 79 = .ok (.ireturn, 1) := by decide +kernel
theorem dX9_loseToken_0 : decode cX9_loseToken 0 = .ok (.aload_n 0, 1) := by decide +kernel
theorem dX9_loseToken_1 : decode cX9_loseToken 1 = .ok (.getfield 10, 3) := by decide +kernel
theorem dX9_loseToken_4 : decode cX9_loseToken 4 = .ok (.getfield 143, 3) := by decide +kernel
theorem dX9_loseToken_7 : decode cX9_loseToken 7 = .ok (.istore_n 1, 1) := by decide +kernel
theorem dX9_loseToken_8 : decode cX9_loseToken 8 = .ok (.aload_n 0, 1) := by decide +kernel
theorem dX9_loseToken_9 : decode cX9_loseToken 9 = .ok (.getfield 22, 3) := by decide +kernel
theorem dX9_loseToken_12 : decode cX9_loseToken 12 = .ok (.aload_n 0, 1) := by decide +kernel
theorem dX9_loseToken_13 : decode cX9_loseToken 13 = .ok (.getfield 10, 3) := by decide +kernel
theorem dX9_loseToken_16 : decode cX9_loseToken 16 = .ok (.invokevirtual 54, 3) := by decide +kernel
theorem dX9_loseToken_19 : decode cX9_loseToken 19 = .ok (.aload_n 0, 1) := by decide +kernel
theorem dX9_loseToken_20 : decode cX9_loseToken 20 = .ok (.getfield 10, 3) := by decide +kernel
theorem dX9_loseToken_23 : decode cX9_loseToken 23 = .ok (.iconst (-1), 1) := by decide +kernel
theorem dX9_loseToken_24 : decode cX9_loseToken 24 = .ok (.putfield 143, 3) := by decide +kernel
theorem dX9_loseToken_27 : decode cX9_loseToken 27 = .ok (.iload_n 1, 1) := by decide +kernel
theorem dX9_loseToken_28 : decode cX9_loseToken 28 = .ok (.ireturn, 1) := by decide +kernel
theorem dX9_setting_0 : decode cX9_setting 0 = .ok (.iload_n 1, 1) := by decide +kernel
theorem dX9_setting_1 : decode cX9_setting 1 = .ok (.iconst 0, 1) := by decide +kernel
theorem dX9_setting_2 : decode cX9_setting 2 = .ok (.bipush 8, 2) := by decide +kernel
theorem dX9_setting_4 : decode cX9_setting 4 = .ok (.invokestatic 80, 3) := by decide +kernel
theorem dX9_setting_7 : decode cX9_setting 7 = .ok (.ifCond .ne 13, 3) := by decide +kernel
theorem dX9_setting_10 : decode cX9_setting 10 = .ok (.new 34, 3) := by decide +kernel
theorem dX9_setting_13 : decode cX9_setting 13 = .ok (.dup, 1) := by decide +kernel
theorem dX9_setting_14 : decode cX9_setting 14 = .ok (.ldc 146, 2) := by decide +kernel
theorem dX9_setting_16 : decode cX9_setting 16 = .ok (.invokespecial 38, 3) := by decide +kernel
theorem dX9_setting_19 : decode cX9_setting 19 = .ok (.athrow, 1) := by decide +kernel
theorem dX9_setting_20 : decode cX9_setting 20 = .ok (.aload_n 0, 1) := by decide +kernel
theorem dX9_setting_21 : decode cX9_setting 21 = .ok (.getfield 10, 3) := by decide +kernel
theorem dX9_setting_24 : decode cX9_setting 24 = .ok (.iload_n 1, 1) := by decide +kernel
theorem dX9_setting_25 : decode cX9_setting 25 = .ok (.invokevirtual 148, 3) := by decide +kernel
theorem dX9_setting_28 : decode cX9_setting 28 = .ok (.ireturn, 1) := by decide +kernel
theorem dX9_station_0 : decode cX9_station 0 = .ok (.aload_n 0, 1) := by decide +kernel
theorem dX9_station_1 : decode cX9_station 1 = .ok (.getfield 10, 3) := by decide +kernel
theorem dX9_station_4 : decode cX9_station 4 = .ok (.iload_n 1, 1) := by decide +kernel
theorem dX9_station_5 : decode cX9_station 5 = .ok (.invokevirtual 41, 3) := by decide +kernel
theorem dX9_station_8 : decode cX9_station 8 = .ok (.astore_n 3, 1) := by decide +kernel
theorem dX9_station_9 : decode cX9_station 9 = .ok (.aload_n 3, 1) := by decide +kernel
theorem dX9_station_10 : decode cX9_station 10 = .ok (.ifnonnull 13, 3) := by decide +kernel
theorem dX9_station_13 : decode cX9_station 13 = .ok (.new 65, 3) := by decide +kernel
theorem dX9_station_16 : decode cX9_station 16 = .ok (.dup, 1) := by decide +kernel
theorem dX9_station_17 : decode cX9_station 17 = .ok (.ldc 67, 2) := by decide +kernel
theorem dX9_station_19 : decode cX9_station 19 = .ok (.invokespecial 69, 3) := by decide +kernel
theorem dX9_station_22 : decode cX9_station 22 = .ok (.athrow, 1) := by decide +kernel
theorem dX9_station_23 : decode cX9_station 23 = .ok (.iload_n 2, 1) := by decide +kernel
theorem dX9_station_24 : decode cX9_station 24 = .ok (.iconst 0, 1) := by decide +kernel
theorem dX9_station_25 : decode cX9_station 25 = .ok (.bipush 6, 2) := by decide +kernel
theorem dX9_station_27 : decode cX9_station 27 = .ok (.invokestatic 80, 3) := by decide +kernel
theorem dX9_station_30 : decode cX9_station 30 = .ok (.ifCond .ne 13, 3) := by decide +kernel
theorem dX9_station_33 : decode cX9_station 33 = .ok (.new 34, 3) := by decide +kernel
theorem dX9_station_36 : decode cX9_station 36 = .ok (.dup, 1) := by decide +kernel
theorem dX9_station_37 : decode cX9_station 37 = .ok (.ldc 152, 2) := by decide +kernel
theorem dX9_station_39 : decode cX9_station 39 = .ok (.invokespecial 38, 3) := by decide +kernel
theorem dX9_station_42 : decode cX9_station 42 = .ok (.athrow, 1) := by decide +kernel
theorem dX9_station_43 : decode cX9_station 43 = .ok (.aload_n 3, 1) := by decide +kernel
theorem dX9_station_44 : decode cX9_station 44 = .ok (.iload_n 2, 1) := by decide +kernel
theorem dX9_station_45 : decode cX9_station 45 = .ok (.invokevirtual 154, 3) := by decide +kernel
theorem dX9_station_48 : decode cX9_station 48 = .ok (.ireturn, 1) := by decide +kernel
theorem dX9_addressAt_0 : decode cX9_addressAt 0 = .ok (.aload_n 0, 1) := by decide +kernel
theorem dX9_addressAt_1 : decode cX9_addressAt 1 = .ok (.getfield 10, 3) := by decide +kernel
theorem dX9_addressAt_4 : decode cX9_addressAt 4 = .ok (.iload_n 1, 1) := by decide +kernel
theorem dX9_addressAt_5 : decode cX9_addressAt 5 = .ok (.invokevirtual 157, 3) := by decide +kernel
theorem dX9_addressAt_8 : decode cX9_addressAt 8 = .ok (.astore_n 2, 1) := by decide +kernel
theorem dX9_addressAt_9 : decode cX9_addressAt 9 = .ok (.aload_n 2, 1) := by decide +kernel
theorem dX9_addressAt_10 : decode cX9_addressAt 10 = .ok (.ifnonnull 13, 3) := by decide +kernel
theorem dX9_addressAt_13 : decode cX9_addressAt 13 = .ok (.new 160, 3) := by decide +kernel
theorem dX9_addressAt_16 : decode cX9_addressAt 16 = .ok (.dup, 1) := by decide +kernel
theorem dX9_addressAt_17 : decode cX9_addressAt 17 = .ok (.ldc 162, 2) := by decide +kernel
theorem dX9_addressAt_19 : decode cX9_addressAt 19 = .ok (.invokespecial 164, 3) := by decide +kernel
theorem dX9_addressAt_22 : decode cX9_addressAt 22 = .ok (.athrow, 1) := by decide +kernel
theorem dX9_addressAt_23 : decode cX9_addressAt 23 = .ok (.aload_n 2, 1) := by decide +kernel
theorem dX9_addressAt_24 : decode cX9_addressAt 24 = .ok (.getfield 165, 3) := by decide +kernel
theorem dX9_addressAt_27 : decode cX9_addressAt 27 = .ok (.ireturn, 1) := by decide +kernel
theorem dX9_queued_0 : decode cX9_queued 0 = .ok (.aload_n 0, 1) := by decide +kernel
theorem dX9_queued_1 : decode cX9_queued 1 = .ok (.getfield 10, 3) := by decide +kernel
theorem dX9_queued_4 : decode cX9_queued 4 = .ok (.iload_n 1, 1) := by decide +kernel
theorem dX9_queued_5 : decode cX9_queued 5 = .ok (.invokevirtual 41, 3) := by decide +kernel
theorem dX9_queued_8 : decode cX9_queued 8 = .ok (.astore_n 3, 1) := by decide +kernel
theorem dX9_queued_9 : decode cX9_queued 9 = .ok (.aload_n 3, 1) := by decide +kernel
theorem dX9_queued_10 : decode cX9_queued 10 = .ok (.ifnonnull 13, 3) := by decide +kernel
theorem dX9_queued_13 : decode cX9_queued 13 = .ok (.new 65, 3) := by decide +kernel
theorem dX9_queued_16 : decode cX9_queued 16 = .ok (.dup, 1) := by decide +kernel
theorem dX9_queued_17 : decode cX9_queued 17 = .ok (.ldc 67, 2) := by decide +kernel
theorem dX9_queued_19 : decode cX9_queued 19 = .ok (.invokespecial 69, 3) := by decide +kernel
theorem dX9_queued_22 : decode cX9_queued 22 = .ok (.athrow, 1) := by decide +kernel
theorem dX9_queued_23 : decode cX9_queued 23 = .ok (.iload_n 2, 1) := by decide +kernel
theorem dX9_queued_24 : decode cX9_queued 24 = .ok (.iconst 0, 1) := by decide +kernel
theorem dX9_queued_25 : decode cX9_queued 25 = .ok (.aload_n 3, 1) := by decide +kernel
theorem dX9_queued_26 : decode cX9_queued 26 = .ok (.getfield 168, 3) := by decide +kernel
theorem dX9_queued_29 : decode cX9_queued 29 = .ok (.iconst 1, 1) := by decide +kernel
theorem dX9_queued_30 : decode cX9_queued 30 = .ok (.isub, 1) := by decide +kernel
theorem dX9_queued_31 : decode cX9_queued 31 = .ok (.invokestatic 80, 3) := by decide +kernel
theorem dX9_queued_34 : decode cX9_queued 34 = .ok (.ifCond .ne 13, 3) := by decide +kernel
theorem dX9_queued_37 : decode cX9_queued 37 = .ok (.new 160, 3) := by decide +kernel
theorem dX9_queued_40 : decode cX9_queued 40 = .ok (.dup, 1) := by decide +kernel
theorem dX9_queued_41 : decode cX9_queued 41 = .ok (.ldc 171, 2) := by decide +kernel
theorem dX9_queued_43 : decode cX9_queued 43 = .ok (.invokespecial 164, 3) := by decide +kernel
theorem dX9_queued_46 : decode cX9_queued 46 = .ok (.athrow, 1) := by decide +kernel
theorem dX9_queued_47 : decode cX9_queued 47 = .ok (.aload_n 0, 1) := by decide +kernel
theorem dX9_queued_48 : decode cX9_queued 48 = .ok (.getfield 10, 3) := by decide +kernel
theorem dX9_queued_51 : decode cX9_queued 51 = .ok (.getfield 97, 3) := by decide +kernel
theorem dX9_queued_54 : decode cX9_queued 54 = .ok (.aload_n 3, 1) := by decide +kernel
theorem dX9_queued_55 : decode cX9_queued 55 = .ok (.iload_n 2, 1) := by decide +kernel
theorem dX9_queued_56 : decode cX9_queued 56 = .ok (.invokevirtual 173, 3) := by decide +kernel
theorem dX9_queued_59 : decode cX9_queued 59 = .ok (.ireturn, 1) := by decide +kernel
theorem dX9_message_0 : decode cX9_message 0 = .ok (.aload_n 0, 1) := by decide +kernel
theorem dX9_message_1 : decode cX9_message 1 = .ok (.getfield 10, 3) := by decide +kernel
theorem dX9_message_4 : decode cX9_message 4 = .ok (.getfield 97, 3) := by decide +kernel
theorem dX9_message_7 : decode cX9_message 7 = .ok (.iload_n 1, 1) := by decide +kernel
theorem dX9_message_8 : decode cX9_message 8 = .ok (.invokevirtual 177, 3) := by decide +kernel
theorem dX9_message_11 : decode cX9_message 11 = .ok (.ifCond .ne 13, 3) := by decide +kernel
theorem dX9_message_14 : decode cX9_message 14 = .ok (.new 160, 3) := by decide +kernel
theorem dX9_message_17 : decode cX9_message 17 = .ok (.dup, 1) := by decide +kernel
theorem dX9_message_18 : decode cX9_message 18 = .ok (.ldc 180, 2) := by decide +kernel
theorem dX9_message_20 : decode cX9_message 20 = .ok (.invokespecial 164, 3) := by decide +kernel
theorem dX9_message_23 : decode cX9_message 23 = .ok (.athrow, 1) := by decide +kernel
theorem dX9_message_24 : decode cX9_message 24 = .ok (.iload_n 2, 1) := by decide +kernel
theorem dX9_message_25 : decode cX9_message 25 = .ok (.iconst 0, 1) := by decide +kernel
theorem dX9_message_26 : decode cX9_message 26 = .ok (.iconst 4, 1) := by decide +kernel
theorem dX9_message_27 : decode cX9_message 27 = .ok (.invokestatic 80, 3) := by decide +kernel
theorem dX9_message_30 : decode cX9_message 30 = .ok (.ifCond .ne 13, 3) := by decide +kernel
theorem dX9_message_33 : decode cX9_message 33 = .ok (.new 34, 3) := by decide +kernel
theorem dX9_message_36 : decode cX9_message 36 = .ok (.dup, 1) := by decide +kernel
theorem dX9_message_37 : decode cX9_message 37 = .ok (.ldc 182, 2) := by decide +kernel
theorem dX9_message_39 : decode cX9_message 39 = .ok (.invokespecial 38, 3) := by decide +kernel
theorem dX9_message_42 : decode cX9_message 42 = .ok (.athrow, 1) := by decide +kernel
theorem dX9_message_43 : decode cX9_message 43 = .ok (.aload_n 0, 1) := by decide +kernel
theorem dX9_message_44 : decode cX9_message 44 = .ok (.getfield 10, 3) := by decide +kernel
theorem dX9_message_47 : decode cX9_message 47 = .ok (.getfield 97, 3) := by decide +kernel
theorem dX9_message_50 : decode cX9_message 50 = .ok (.iload_n 1, 1) := by decide +kernel
theorem dX9_message_51 : decode cX9_message 51 = .ok (.iload_n 2, 1) := by decide +kernel
theorem dX9_message_52 : decode cX9_message 52 = .ok (.invokevirtual 184, 3) := by decide +kernel
theorem dX9_message_55 : decode cX9_message 55 = .ok (.ireturn, 1) := by decide +kernel
theorem dX9_count_0 : decode cX9_count 0 = .ok (.iload_n 1, 1) := by decide +kernel
theorem dX9_count_1 : decode cX9_count 1 = .ok (.iconst 0, 1) := by decide +kernel
theorem dX9_count_2 : decode cX9_count 2 = .ok (.bipush 6, 2) := by decide +kernel
theorem dX9_count_4 : decode cX9_count 4 = .ok (.invokestatic 80, 3) := by decide +kernel
theorem dX9_count_7 : decode cX9_count 7 = .ok (.ifCond .ne 13, 3) := by decide +kernel
theorem dX9_count_10 : decode cX9_count 10 = .ok (.new 34, 3) := by decide +kernel
theorem dX9_count_13 : decode cX9_count 13 = .ok (.dup, 1) := by decide +kernel
theorem dX9_count_14 : decode cX9_count 14 = .ok (.ldc 189, 2) := by decide +kernel
theorem dX9_count_16 : decode cX9_count 16 = .ok (.invokespecial 38, 3) := by decide +kernel
theorem dX9_count_19 : decode cX9_count 19 = .ok (.athrow, 1) := by decide +kernel
theorem dX9_count_20 : decode cX9_count 20 = .ok (.aload_n 0, 1) := by decide +kernel
theorem dX9_count_21 : decode cX9_count 21 = .ok (.getfield 10, 3) := by decide +kernel
theorem dX9_count_24 : decode cX9_count 24 = .ok (.getfield 191, 3) := by decide +kernel
theorem dX9_count_27 : decode cX9_count 27 = .ok (.iload_n 1, 1) := by decide +kernel
theorem dX9_count_28 : decode cX9_count 28 = .ok (.invokevirtual 195, 3) := by decide +kernel
theorem dX9_count_31 : decode cX9_count 31 = .ok (.ireturn, 1) := by decide +kernel
theorem dX9_isNoisy_0 : decode cX9_isNoisy 0 = .ok (.iload_n 1, 1) := by decide +kernel
theorem dX9_isNoisy_1 : decode cX9_isNoisy 1 = .ok (.iconst 0, 1) := by decide +kernel
theorem dX9_isNoisy_2 : decode cX9_isNoisy 2 = .ok (.ldc 113, 2) := by decide +kernel
theorem dX9_isNoisy_4 : decode cX9_isNoisy 4 = .ok (.invokestatic 80, 3) := by decide +kernel
theorem dX9_isNoisy_7 : decode cX9_isNoisy 7 = .ok (.ifCond .ne 13, 3) := by decide +kernel
theorem dX9_isNoisy_10 : decode cX9_isNoisy 10 = .ok (.new 34, 3) := by decide +kernel
theorem dX9_isNoisy_13 : decode cX9_isNoisy 13 = .ok (.dup, 1) := by decide +kernel
theorem dX9_isNoisy_14 : decode cX9_isNoisy 14 = .ok (.ldc 196, 2) := by decide +kernel
theorem dX9_isNoisy_16 : decode cX9_isNoisy 16 = .ok (.invokespecial 38, 3) := by decide +kernel
theorem dX9_isNoisy_19 : decode cX9_isNoisy 19 = .ok (.athrow, 1) := by decide +kernel
theorem dX9_isNoisy_20 : decode cX9_isNoisy 20 = .ok (.aload_n 0, 1) := by decide +kernel
theorem dX9_isNoisy_21 : decode cX9_isNoisy 21 = .ok (.getfield 10, 3) := by decide +kernel
theorem dX9_isNoisy_24 : decode cX9_isNoisy 24 = .ok (.getfield 116, 3) := by decide +kernel
theorem dX9_isNoisy_27 : decode cX9_isNoisy 27 = .ok (.iload_n 1, 1) := by decide +kernel
theorem dX9_isNoisy_28 : decode cX9_isNoisy 28 = .ok (.iload_n 1, 1) := by decide +kernel
theorem dX9_isNoisy_29 : decode cX9_isNoisy 29 = .ok (.invokevirtual 198, 3) := by decide +kernel
theorem dX9_isNoisy_32 : decode cX9_isNoisy 32 = .ok (.ireturn, 1) := by decide +kernel
theorem dX9_logged_0 : decode cX9_logged 0 = .ok (.aload_n 0, 1) := by decide +kernel
theorem dX9_logged_1 : decode cX9_logged 1 = .ok (.getfield 10, 3) := by decide +kernel
theorem dX9_logged_4 : decode cX9_logged 4 = .ok (.invokevirtual 202, 3) := by decide +kernel
theorem dX9_logged_7 : decode cX9_logged 7 = .ok (.ireturn, 1) := by decide +kernel
theorem dX9_visit_0 : decode cX9_visit 0 = .ok (.iload_n 1, 1) := by decide +kernel
theorem dX9_visit_1 : decode cX9_visit 1 = .ok (.iconst 0, 1) := by decide +kernel
theorem dX9_visit_2 : decode cX9_visit 2 = .ok (.aload_n 0, 1) := by decide +kernel
theorem dX9_visit_3 : decode cX9_visit 3 = .ok (.getfield 10, 3) := by decide +kernel
theorem dX9_visit_6 : decode cX9_visit 6 = .ok (.invokevirtual 202, 3) := by decide +kernel
theorem dX9_visit_9 : decode cX9_visit 9 = .ok (.iconst 1, 1) := by decide +kernel
theorem dX9_visit_10 : decode cX9_visit 10 = .ok (.isub, 1) := by decide +kernel
theorem dX9_visit_11 : decode cX9_visit 11 = .ok (.invokestatic 80, 3) := by decide +kernel
theorem dX9_visit_14 : decode cX9_visit 14 = .ok (.ifCond .ne 13, 3) := by decide +kernel
theorem dX9_visit_17 : decode cX9_visit 17 = .ok (.new 160, 3) := by decide +kernel
theorem dX9_visit_20 : decode cX9_visit 20 = .ok (.dup, 1) := by decide +kernel
theorem dX9_visit_21 : decode cX9_visit 21 = .ok (.ldc 206, 2) := by decide +kernel
theorem dX9_visit_23 : decode cX9_visit 23 = .ok (.invokespecial 164, 3) := by decide +kernel
theorem dX9_visit_26 : decode cX9_visit 26 = .ok (.athrow, 1) := by decide +kernel
theorem dX9_visit_27 : decode cX9_visit 27 = .ok (.iload_n 2, 1) := by decide +kernel
theorem dX9_visit_28 : decode cX9_visit 28 = .ok (.iconst 0, 1) := by decide +kernel
theorem dX9_visit_29 : decode cX9_visit 29 = .ok (.iconst 3, 1) := by decide +kernel
theorem dX9_visit_30 : decode cX9_visit 30 = .ok (.invokestatic 80, 3) := by decide +kernel
theorem dX9_visit_33 : decode cX9_visit 33 = .ok (.ifCond .ne 13, 3) := by decide +kernel
theorem dX9_visit_36 : decode cX9_visit 36 = .ok (.new 34, 3) := by decide +kernel
theorem dX9_visit_39 : decode cX9_visit 39 = .ok (.dup, 1) := by decide +kernel
theorem dX9_visit_40 : decode cX9_visit 40 = .ok (.ldc 208, 2) := by decide +kernel
theorem dX9_visit_42 : decode cX9_visit 42 = .ok (.invokespecial 38, 3) := by decide +kernel
theorem dX9_visit_45 : decode cX9_visit 45 = .ok (.athrow, 1) := by decide +kernel
theorem dX9_visit_46 : decode cX9_visit 46 = .ok (.aload_n 0, 1) := by decide +kernel
theorem dX9_visit_47 : decode cX9_visit 47 = .ok (.getfield 10, 3) := by decide +kernel
theorem dX9_visit_50 : decode cX9_visit 50 = .ok (.iload_n 1, 1) := by decide +kernel
theorem dX9_visit_51 : decode cX9_visit 51 = .ok (.iload_n 2, 1) := by decide +kernel
theorem dX9_visit_52 : decode cX9_visit 52 = .ok (.invokevirtual 210, 3) := by decide +kernel
theorem dX9_visit_55 : decode cX9_visit 55 = .ok (.ireturn, 1) := by decide +kernel
theorem dX9_greatestRotation_0 : decode cX9_greatestRotation 0 = .ok (.aload_n 0, 1) := by decide +kernel
theorem dX9_greatestRotation_1 : decode cX9_greatestRotation 1 = .ok (.getfield 10, 3) := by decide +kernel
theorem dX9_greatestRotation_4 : decode cX9_greatestRotation 4 = .ok (.getfield 191, 3) := by decide +kernel
theorem dX9_greatestRotation_7 : decode cX9_greatestRotation 7 = .ok (.getfield 213, 3) := by decide +kernel
theorem dX9_greatestRotation_10 : decode cX9_greatestRotation 10 = .ok (.ireturn, 1) := by decide +kernel
theorem dX9_waits_0 : decode cX9_waits 0 = .ok (.aload_n 0, 1) := by decide +kernel
theorem dX9_waits_1 : decode cX9_waits 1 = .ok (.getfield 10, 3) := by decide +kernel
theorem dX9_waits_4 : decode cX9_waits 4 = .ok (.getfield 191, 3) := by decide +kernel
theorem dX9_waits_7 : decode cX9_waits 7 = .ok (.astore_n 2, 1) := by decide +kernel
theorem dX9_waits_8 : decode cX9_waits 8 = .ok (.aload_n 2, 1) := by decide +kernel
theorem dX9_waits_9 : decode cX9_waits 9 = .ok (.getfield 216, 3) := by decide +kernel
theorem dX9_waits_12 : decode cX9_waits 12 = .ok (.ifCond .ne 5, 3) := by decide +kernel
theorem dX9_waits_15 : decode cX9_waits 15 = .ok (.dconst 0, 1) := by decide +kernel
theorem dX9_waits_16 : decode cX9_waits 16 = .ok (.dreturn, 1) := by decide +kernel
theorem dX9_waits_17 : decode cX9_waits 17 = .ok (.iload_n 1, 1) := by decide +kernel
theorem dX9_waits_18 : decode cX9_waits 18 = .ok (.ifCond .eq 11, 3) := by decide +kernel
theorem dX9_waits_21 : decode cX9_waits 21 = .ok (.aload_n 2, 1) := by decide +kernel
theorem dX9_waits_22 : decode cX9_waits 22 = .ok (.getfield 219, 3) := by decide +kernel
theorem dX9_waits_25 : decode cX9_waits 25 = .ok (.i2d, 1) := by decide +kernel
theorem dX9_waits_26 : decode cX9_waits 26 = .ok (.goto 14, 3) := by decide +kernel
theorem dX9_waits_29 : decode cX9_waits 29 = .ok (.aload_n 2, 1) := by decide +kernel
theorem dX9_waits_30 : decode cX9_waits 30 = .ok (.getfield 222, 3) := by decide +kernel
theorem dX9_waits_33 : decode cX9_waits 33 = .ok (.l2d, 1) := by decide +kernel
theorem dX9_waits_34 : decode cX9_waits 34 = .ok (.aload_n 2, 1) := by decide +kernel
theorem dX9_waits_35 : decode cX9_waits 35 = .ok (.getfield 216, 3) := by decide +kernel
theorem dX9_waits_38 : decode cX9_waits 38 = .ok (.i2d, 1) := by decide +kernel
theorem dX9_waits_39 : decode cX9_waits 39 = .ok (.ddiv, 1) := by decide +kernel
theorem dX9_waits_40 : decode cX9_waits 40 = .ok (.dreturn, 1) := by decide +kernel
theorem dX9_use_0 : decode cX9_use 0 = .ok (.aload_n 0, 1) := by decide +kernel
theorem dX9_use_1 : decode cX9_use 1 = .ok (.getfield 10, 3) := by decide +kernel
theorem dX9_use_4 : decode cX9_use 4 = .ok (.getfield 106, 3) := by decide +kernel
theorem dX9_use_7 : decode cX9_use 7 = .ok (.ifCond .ne 7, 3) := by decide +kernel
theorem dX9_use_10 : decode cX9_use 10 = .ok (.dconst 0, 1) := by decide +kernel
theorem dX9_use_11 : decode cX9_use 11 = .ok (.goto 23, 3) := by decide +kernel
theorem dX9_use_14 : decode cX9_use 14 = .ok (.aload_n 0, 1) := by decide +kernel
theorem dX9_use_15 : decode cX9_use 15 = .ok (.getfield 10, 3) := by decide +kernel
theorem dX9_use_18 : decode cX9_use 18 = .ok (.getfield 191, 3) := by decide +kernel
theorem dX9_use_21 : decode cX9_use 21 = .ok (.getfield 226, 3) := by decide +kernel
theorem dX9_use_24 : decode cX9_use 24 = .ok (.i2d, 1) := by decide +kernel
theorem dX9_use_25 : decode cX9_use 25 = .ok (.aload_n 0, 1) := by decide +kernel
theorem dX9_use_26 : decode cX9_use 26 = .ok (.getfield 10, 3) := by decide +kernel
theorem dX9_use_29 : decode cX9_use 29 = .ok (.getfield 106, 3) := by decide +kernel
theorem dX9_use_32 : decode cX9_use 32 = .ok (.i2d, 1) := by decide +kernel
theorem dX9_use_33 : decode cX9_use 33 = .ok (.ddiv, 1) := by decide +kernel
theorem dX9_use_34 : decode cX9_use 34 = .ok (.dreturn, 1) := by decide +kernel
theorem dX9_waitOf_0 : decode cX9_waitOf 0 = .ok (.aload_n 0, 1) := by decide +kernel
theorem dX9_waitOf_1 : decode cX9_waitOf 1 = .ok (.getfield 10, 3) := by decide +kernel
theorem dX9_waitOf_4 : decode cX9_waitOf 4 = .ok (.getfield 97, 3) := by decide +kernel
theorem dX9_waitOf_7 : decode cX9_waitOf 7 = .ok (.iload_n 1, 1) := by decide +kernel
theorem dX9_waitOf_8 : decode cX9_waitOf 8 = .ok (.invokevirtual 177, 3) := by decide +kernel
theorem dX9_waitOf_11 : decode cX9_waitOf 11 = .ok (.ifCond .ne 13, 3) := by decide +kernel
theorem dX9_waitOf_14 : decode cX9_waitOf 14 = .ok (.new 160, 3) := by decide +kernel
theorem dX9_waitOf_17 : decode cX9_waitOf 17 = .ok (.dup, 1) := by decide +kernel
theorem dX9_waitOf_18 : decode cX9_waitOf 18 = .ok (.ldc 180, 2) := by decide +kernel
theorem dX9_waitOf_20 : decode cX9_waitOf 20 = .ok (.invokespecial 164, 3) := by decide +kernel
theorem dX9_waitOf_23 : decode cX9_waitOf 23 = .ok (.athrow, 1) := by decide +kernel
theorem dX9_waitOf_24 : decode cX9_waitOf 24 = .ok (.aload_n 0, 1) := by decide +kernel
theorem dX9_waitOf_25 : decode cX9_waitOf 25 = .ok (.getfield 10, 3) := by decide +kernel
theorem dX9_waitOf_28 : decode cX9_waitOf 28 = .ok (.getfield 97, 3) := by decide +kernel
theorem dX9_waitOf_31 : decode cX9_waitOf 31 = .ok (.iload_n 1, 1) := by decide +kernel
theorem dX9_waitOf_32 : decode cX9_waitOf 32 = .ok (.iconst 4, 1) := by decide +kernel
theorem dX9_waitOf_33 : decode cX9_waitOf 33 = .ok (.invokevirtual 184, 3) := by decide +kernel
theorem dX9_waitOf_36 : decode cX9_waitOf 36 = .ok (.iconst (-1), 1) := by decide +kernel
theorem dX9_waitOf_37 : decode cX9_waitOf 37 = .ok (.if_icmp .ne 13, 3) := by decide +kernel
theorem dX9_waitOf_40 : decode cX9_waitOf 40 = .ok (.aload_n 0, 1) := by decide +kernel
theorem dX9_waitOf_41 : decode cX9_waitOf 41 = .ok (.getfield 10, 3) := by decide +kernel
theorem dX9_waitOf_44 : decode cX9_waitOf 44 = .ok (.invokevirtual 133, 3) := by decide +kernel
theorem dX9_waitOf_47 : decode cX9_waitOf 47 = .ok (.ifCond .eq 13, 3) := by decide +kernel
theorem dX9_waitOf_50 : decode cX9_waitOf 50 = .ok (.new 49, 3) := by decide +kernel
theorem dX9_waitOf_53 : decode cX9_waitOf 53 = .ok (.dup, 1) := by decide +kernel
theorem dX9_waitOf_54 : decode cX9_waitOf 54 = .ok (.ldc 229, 2) := by decide +kernel
theorem dX9_waitOf_56 : decode cX9_waitOf 56 = .ok (.invokespecial 53, 3) := by decide +kernel
theorem dX9_waitOf_59 : decode cX9_waitOf 59 = .ok (.athrow, 1) := by decide +kernel
theorem dX9_waitOf_60 : decode cX9_waitOf 60 = .ok (.aload_n 0, 1) := by decide +kernel
theorem dX9_waitOf_61 : decode cX9_waitOf 61 = .ok (.getfield 16, 3) := by decide +kernel
theorem dX9_waitOf_64 : decode cX9_waitOf 64 = .ok (.aload_n 0, 1) := by decide +kernel
theorem dX9_waitOf_65 : decode cX9_waitOf 65 = .ok (.getfield 10, 3) := by decide +kernel
theorem dX9_waitOf_68 : decode cX9_waitOf 68 = .ok (.invokevirtual 231, 3) := by decide +kernel
theorem dX9_waitOf_71 : decode cX9_waitOf 71 = .ok (.iconst (-1), 1) := by decide +kernel
theorem dX9_waitOf_72 : decode cX9_waitOf 72 = .ok (.istore_n 2, 1) := by decide +kernel
theorem dX9_waitOf_73 : decode cX9_waitOf 73 = .ok (.iconst 0, 1) := by decide +kernel
theorem dX9_waitOf_74 : decode cX9_waitOf 74 = .ok (.istore_n 3, 1) := by decide +kernel
theorem dX9_waitOf_75 : decode cX9_waitOf 75 = .ok (.iload_n 3, 1) := by decide +kernel
theorem dX9_waitOf_76 : decode cX9_waitOf 76 = .ok (.sipush 300, 3) := by decide +kernel
theorem dX9_waitOf_79 : decode cX9_waitOf 79 = .ok (.if_icmp .ge 34, 3) := by decide +kernel
theorem dX9_waitOf_82 : decode cX9_waitOf 82 = .ok (.iload_n 2, 1) := by decide +kernel
theorem dX9_waitOf_83 : decode cX9_waitOf 83 = .ok (.iconst (-1), 1) := by decide +kernel
theorem dX9_waitOf_84 : decode cX9_waitOf 84 = .ok (.if_icmp .ne 29, 3) := by decide +kernel
theorem dX9_waitOf_87 : decode cX9_waitOf 87 = .ok (.aload_n 0, 1) := by decide +kernel
theorem dX9_waitOf_88 : decode cX9_waitOf 88 = .ok (.getfield 16, 3) := by decide +kernel
theorem dX9_waitOf_91 : decode cX9_waitOf 91 = .ok (.invokestatic 138, 3) := by decide +kernel
theorem dX9_waitOf_94 : decode cX9_waitOf 94 = .ok (.aload_n 0, 1) := by decide +kernel
theorem dX9_waitOf_95 : decode cX9_waitOf 95 = .ok (.getfield 16, 3) := by decide +kernel
theorem dX9_waitOf_98 : decode cX9_waitOf 98 = .ok (.getfield 97, 3) := by decide +kernel
theorem dX9_waitOf_101 : decode cX9_waitOf 101 = .ok (.iload_n 1, 1) := by decide +kernel
theorem dX9_waitOf_102 : decode cX9_waitOf 102 = .ok (.iconst 4, 1) := by decide +kernel
theorem dX9_waitOf_103 : decode cX9_waitOf 103 = .ok (.invokevirtual 184, 3) := by decide +kernel
theorem dX9_waitOf_106 : decode cX9_waitOf 106 = .ok (.istore_n 2, 1) := by decide +kernel
theorem dX9_waitOf_107 : decode cX9_waitOf 107 = .ok (.iinc 3 1, 3) := by decide +kernel
theorem dX9_waitOf_110 : decode cX9_waitOf 110 = .ok (.goto (-35), 3) := by decide +kernel
theorem dX9_waitOf_113 : decode cX9_waitOf 113 = .ok (.iload_n 2, 1) := by decide +kernel
theorem dX9_waitOf_114 : decode cX9_waitOf 114 = .ok (.ireturn, 1) := by decide +kernel
theorem dX9_completeAfter_0 : decode cX9_completeAfter 0 = .ok (.aload_n 0, 1) := by decide +kernel
theorem dX9_completeAfter_1 : decode cX9_completeAfter 1 = .ok (.getfield 10, 3) := by decide +kernel
theorem dX9_completeAfter_4 : decode cX9_completeAfter 4 = .ok (.invokevirtual 133, 3) := by decide +kernel
theorem dX9_completeAfter_7 : decode cX9_completeAfter 7 = .ok (.ifCond .eq 13, 3) := by decide +kernel
theorem dX9_completeAfter_10 : decode cX9_completeAfter 10 = .ok (.new 49, 3) := by decide +kernel
theorem dX9_completeAfter_13 : decode cX9_completeAfter 13 = .ok (.dup, 1) := by decide +kernel
theorem dX9_completeAfter_14 : decode cX9_completeAfter 14 = .ok (.ldc 136, 2) := by decide +kernel
theorem dX9_completeAfter_16 : decode cX9_completeAfter 16 = .ok (.invokespecial 53, 3) := by decide +kernel
theorem dX9_completeAfter_19 : decode cX9_completeAfter 19 = .ok (.athrow, 1) := by decide +kernel
theorem dX9_completeAfter_20 : decode cX9_completeAfter 20 = .ok (.aload_n 0, 1) := by decide +kernel
theorem dX9_completeAfter_21 : decode cX9_completeAfter 21 = .ok (.getfield 16, 3) := by decide +kernel
theorem dX9_completeAfter_24 : decode cX9_completeAfter 24 = .ok (.aload_n 0, 1) := by decide +kernel
theorem dX9_completeAfter_25 : decode cX9_completeAfter 25 = .ok (.getfield 10, 3) := by decide +kernel
theorem dX9_completeAfter_28 : decode cX9_completeAfter 28 = .ok (.invokevirtual 231, 3) := by decide +kernel
theorem dX9_completeAfter_31 : decode cX9_completeAfter 31 = .ok (.iconst 0, 1) := by decide +kernel
theorem dX9_completeAfter_32 : decode cX9_completeAfter 32 = .ok (.istore_n 1, 1) := by decide +kernel
theorem dX9_completeAfter_33 : decode cX9_completeAfter 33 = .ok (.iload_n 1, 1) := by decide +kernel
theorem dX9_completeAfter_34 : decode cX9_completeAfter 34 = .ok (.sipush 300, 3) := by decide +kernel
theorem dX9_completeAfter_37 : decode cX9_completeAfter 37 = .ok (.if_icmp .ge 28, 3) := by decide +kernel
theorem dX9_completeAfter_40 : decode cX9_completeAfter 40 = .ok (.aload_n 0, 1) := by decide +kernel
theorem dX9_completeAfter_41 : decode cX9_completeAfter 41 = .ok (.getfield 16, 3) := by decide +kernel
theorem dX9_completeAfter_44 : decode cX9_completeAfter 44 = .ok (.invokevirtual 234, 3) := by decide +kernel
theorem dX9_completeAfter_47 : decode cX9_completeAfter 47 = .ok (.ifCond .eq 5, 3) := by decide +kernel
theorem dX9_completeAfter_50 : decode cX9_completeAfter 50 = .ok (.iload_n 1, 1) := by decide +kernel
theorem dX9_completeAfter_51 : decode cX9_completeAfter 51 = .ok (.ireturn, 1) := by decide +kernel
theorem dX9_completeAfter_52 : decode cX9_completeAfter 52 = .ok (.aload_n 0, 1) := by decide +kernel
theorem dX9_completeAfter_53 : decode cX9_completeAfter 53 = .ok (.getfield 16, 3) := by decide +kernel
theorem dX9_completeAfter_56 : decode cX9_completeAfter 56 = .ok (.invokestatic 138, 3) := by decide +kernel
theorem dX9_completeAfter_59 : decode cX9_completeAfter 59 = .ok (.iinc 1 1, 3) := by decide +kernel
theorem dX9_completeAfter_62 : decode cX9_completeAfter 62 = .ok (.goto (-29), 3) := by decide +kernel
theorem dX9_completeAfter_65 : decode cX9_completeAfter 65 = .ok (.aload_n 0, 1) := by decide +kernel
theorem dX9_completeAfter_66 : decode cX9_completeAfter 66 = .ok (.getfield 16, 3) := by decide +kernel
theorem dX9_completeAfter_69 : decode cX9_completeAfter 69 = .ok (.invokevirtual 234, 3) := by decide +kernel
theorem dX9_completeAfter_72 : decode cX9_completeAfter 72 = .ok (.ifCond .eq 9, 3) := by decide +kernel
theorem dX9_completeAfter_75 : decode cX9_completeAfter 75 = .ok (.sipush 300, 3) := by decide +kernel
theorem dX9_completeAfter_78 : decode cX9_completeAfter 78 = .ok (.goto 4, 3) := by decide +kernel
theorem dX9_completeAfter_81 : decode cX9_completeAfter 81 = .ok (.iconst (-1), 1) := by decide +kernel
theorem dX9_completeAfter_82 : decode cX9_completeAfter 82 = .ok (.ireturn, 1) := by decide +kernel
theorem dX9_leastTarget_0 : decode cX9_leastTarget 0 = .ok (.iload_n 1, 1) := by decide +kernel
theorem dX9_leastTarget_1 : decode cX9_leastTarget 1 = .ok (.iconst 0, 1) := by decide +kernel
theorem dX9_leastTarget_2 : decode cX9_leastTarget 2 = .ok (.bipush 100, 2) := by decide +kernel
theorem dX9_leastTarget_4 : decode cX9_leastTarget 4 = .ok (.invokestatic 80, 3) := by decide +kernel
theorem dX9_leastTarget_7 : decode cX9_leastTarget 7 = .ok (.ifCond .ne 13, 3) := by decide +kernel
theorem dX9_leastTarget_10 : decode cX9_leastTarget 10 = .ok (.new 34, 3) := by decide +kernel
theorem dX9_leastTarget_13 : decode cX9_leastTarget 13 = .ok (.dup, 1) := by decide +kernel
theorem dX9_leastTarget_14 : decode cX9_leastTarget 14 = .ok (.ldc 131, 2) := by decide +kernel
theorem dX9_leastTarget_16 : decode cX9_leastTarget 16 = .ok (.invokespecial 38, 3) := by decide +kernel
theorem dX9_leastTarget_19 : decode cX9_leastTarget 19 = .ok (.athrow, 1) := by decide +kernel
theorem dX9_leastTarget_20 : decode cX9_leastTarget 20 = .ok (.aload_n 0, 1) := by decide +kernel
theorem dX9_leastTarget_21 : decode cX9_leastTarget 21 = .ok (.getfield 10, 3) := by decide +kernel
theorem dX9_leastTarget_24 : decode cX9_leastTarget 24 = .ok (.invokevirtual 133, 3) := by decide +kernel
theorem dX9_leastTarget_27 : decode cX9_leastTarget 27 = .ok (.ifCond .eq 13, 3) := by decide +kernel
theorem dX9_leastTarget_30 : decode cX9_leastTarget 30 = .ok (.new 49, 3) := by decide +kernel
theorem dX9_leastTarget_33 : decode cX9_leastTarget 33 = .ok (.dup, 1) := by decide +kernel
theorem dX9_leastTarget_34 : decode cX9_leastTarget 34 = .ok (.ldc 136, 2) := by decide +kernel
theorem dX9_leastTarget_36 : decode cX9_leastTarget 36 = .ok (.invokespecial 53, 3) := by decide +kernel
theorem dX9_leastTarget_39 : decode cX9_leastTarget 39 = .ok (.athrow, 1) := by decide +kernel
theorem dX9_leastTarget_40 : decode cX9_leastTarget 40 = .ok (.bipush 20, 2) := by decide +kernel
theorem dX9_leastTarget_42 : decode cX9_leastTarget 42 = .ok (.istore_n 2, 1) := by decide +kernel
theorem dX9_leastTarget_43 : decode cX9_leastTarget 43 = .ok (.iload_n 2, 1) := by decide +kernel
theorem dX9_leastTarget_44 : decode cX9_leastTarget 44 = .ok (.sipush 400, 3) := by decide +kernel
theorem dX9_leastTarget_47 : decode cX9_leastTarget 47 = .ok (.if_icmp .gt 20, 3) := by decide +kernel
theorem dX9_leastTarget_50 : decode cX9_leastTarget 50 = .ok (.aload_n 0, 1) := by decide +kernel
theorem dX9_leastTarget_51 : decode cX9_leastTarget 51 = .ok (.iload_n 2, 1) := by decide +kernel
theorem dX9_leastTarget_52 : decode cX9_leastTarget 52 = .ok (.iload_n 1, 1) := by decide +kernel
theorem dX9_leastTarget_53 : decode cX9_leastTarget 53 = .ok (.invokevirtual 237, 3) := by decide +kernel
theorem dX9_leastTarget_56 : decode cX9_leastTarget 56 = .ok (.ifCond .eq 5, 3) := by decide +kernel
theorem dX9_leastTarget_59 : decode cX9_leastTarget 59 = .ok (.iload_n 2, 1) := by decide +kernel
theorem dX9_leastTarget_60 : decode cX9_leastTarget 60 = .ok (.ireturn, 1) := by decide +kernel
theorem dX9_leastTarget_61 : decode cX9_leastTarget 61 = .ok (.iinc 2 20, 3) := by decide +kernel
theorem dX9_leastTarget_64 : decode cX9_leastTarget 64 = .ok (.goto (-21), 3) := by decide +kernel
theorem dX9_leastTarget_67 : decode cX9_leastTarget 67 = .ok (.iconst (-1), 1) := by decide +kernel
theorem dX9_leastTarget_68 : decode cX9_leastTarget 68 = .ok (.ireturn, 1) := by decide +kernel
theorem dX9_append_0 : decode cX9_append 0 = .ok (.iload_n 1, 1) := by decide +kernel
theorem dX9_append_1 : decode cX9_append 1 = .ok (.iconst 0, 1) := by decide +kernel
theorem dX9_append_2 : decode cX9_append 2 = .ok (.bipush 127, 2) := by decide +kernel
theorem dX9_append_4 : decode cX9_append 4 = .ok (.invokestatic 80, 3) := by decide +kernel
theorem dX9_append_7 : decode cX9_append 7 = .ok (.ifCond .ne 13, 3) := by decide +kernel
theorem dX9_append_10 : decode cX9_append 10 = .ok (.new 34, 3) := by decide +kernel
theorem dX9_append_13 : decode cX9_append 13 = .ok (.dup, 1) := by decide +kernel
theorem dX9_append_14 : decode cX9_append 14 = .ok (.ldc 240, 2) := by decide +kernel
theorem dX9_append_16 : decode cX9_append 16 = .ok (.invokespecial 38, 3) := by decide +kernel
theorem dX9_append_19 : decode cX9_append 19 = .ok (.athrow, 1) := by decide +kernel
theorem dX9_append_20 : decode cX9_append 20 = .ok (.aload_n 0, 1) := by decide +kernel
theorem dX9_append_21 : decode cX9_append 21 = .ok (.getfield 242, 3) := by decide +kernel
theorem dX9_append_24 : decode cX9_append 24 = .ok (.iconst 0, 1) := by decide +kernel
theorem dX9_append_25 : decode cX9_append 25 = .ok (.aload_n 0, 1) := by decide +kernel
theorem dX9_append_26 : decode cX9_append 26 = .ok (.getfield 26, 3) := by decide +kernel
theorem dX9_append_29 : decode cX9_append 29 = .ok (.arraylength, 1) := by decide +kernel
theorem dX9_append_30 : decode cX9_append 30 = .ok (.iconst 1, 1) := by decide +kernel
theorem dX9_append_31 : decode cX9_append 31 = .ok (.isub, 1) := by decide +kernel
theorem dX9_append_32 : decode cX9_append 32 = .ok (.invokestatic 80, 3) := by decide +kernel
theorem dX9_append_35 : decode cX9_append 35 = .ok (.ifCond .ne 13, 3) := by decide +kernel
theorem dX9_append_38 : decode cX9_append 38 = .ok (.new 49, 3) := by decide +kernel
theorem dX9_append_41 : decode cX9_append 41 = .ok (.dup, 1) := by decide +kernel
theorem dX9_append_42 : decode cX9_append 42 = .ok (.ldc 245, 2) := by decide +kernel
theorem dX9_append_44 : decode cX9_append 44 = .ok (.invokespecial 53, 3) := by decide +kernel
theorem dX9_append_47 : decode cX9_append 47 = .ok (.athrow, 1) := by decide +kernel
theorem dX9_append_48 : decode cX9_append 48 = .ok (.aload_n 0, 1) := by decide +kernel
theorem dX9_append_49 : decode cX9_append 49 = .ok (.getfield 26, 3) := by decide +kernel
theorem dX9_append_52 : decode cX9_append 52 = .ok (.aload_n 0, 1) := by decide +kernel
theorem dX9_append_53 : decode cX9_append 53 = .ok (.getfield 242, 3) := by decide +kernel
theorem dX9_append_56 : decode cX9_append 56 = .ok (.iload_n 1, 1) := by decide +kernel
theorem dX9_append_57 : decode cX9_append 57 = .ok (.i2b, 1) := by decide +kernel
theorem dX9_append_58 : decode cX9_append 58 = .ok (.bastore, 1) := by decide +kernel
theorem dX9_append_59 : decode cX9_append 59 = .ok (.aload_n 0, 1) := by decide +kernel
theorem dX9_append_60 : decode cX9_append 60 = .ok (.dup, 1) := by decide +kernel
theorem dX9_append_61 : decode cX9_append 61 = .ok (.getfield 242, 3) := by decide +kernel
theorem dX9_append_64 : decode cX9_append 64 = .ok (.iconst 1, 1) := by decide +kernel
theorem dX9_append_65 : decode cX9_append 65 = .ok (.iadd, 1) := by decide +kernel
theorem dX9_append_66 : decode cX9_append 66 = .ok (.putfield 242, 3) := by decide +kernel
theorem dX9_append_69 : decode cX9_append 69 = .ok (.aload_n 0, 1) := by decide +kernel
theorem dX9_append_70 : decode cX9_append 70 = .ok (.getfield 242, 3) := by decide +kernel
theorem dX9_append_73 : decode cX9_append 73 = .ok (.ireturn, 1) := by decide +kernel
theorem dX9_clearText_0 : decode cX9_clearText 0 = .ok (.aload_n 0, 1) := by decide +kernel
theorem dX9_clearText_1 : decode cX9_clearText 1 = .ok (.getfield 242, 3) := by decide +kernel
theorem dX9_clearText_4 : decode cX9_clearText 4 = .ok (.istore_n 1, 1) := by decide +kernel
theorem dX9_clearText_5 : decode cX9_clearText 5 = .ok (.aload_n 0, 1) := by decide +kernel
theorem dX9_clearText_6 : decode cX9_clearText 6 = .ok (.iconst 0, 1) := by decide +kernel
theorem dX9_clearText_7 : decode cX9_clearText 7 = .ok (.putfield 242, 3) := by decide +kernel
theorem dX9_clearText_10 : decode cX9_clearText 10 = .ok (.iload_n 1, 1) := by decide +kernel
theorem dX9_clearText_11 : decode cX9_clearText 11 = .ok (.ireturn, 1) := by decide +kernel
theorem dX9_parse_0 : decode cX9_parse 0 = .ok (.aload_n 0, 1) := by decide +kernel
theorem dX9_parse_1 : decode cX9_parse 1 = .ok (.getfield 16, 3) := by decide +kernel
theorem dX9_parse_4 : decode cX9_parse 4 = .ok (.invokevirtual 247, 3) := by decide +kernel
theorem dX9_parse_7 : decode cX9_parse 7 = .ok (.aload_n 0, 1) := by decide +kernel
theorem dX9_parse_8 : decode cX9_parse 8 = .ok (.getfield 16, 3) := by decide +kernel
theorem dX9_parse_11 : decode cX9_parse 11 = .ok (.aload_n 0, 1) := by decide +kernel
theorem dX9_parse_12 : decode cX9_parse 12 = .ok (.getfield 10, 3) := by decide +kernel
theorem dX9_parse_15 : decode cX9_parse 15 = .ok (.invokevirtual 250, 3) := by decide +kernel
theorem dX9_parse_18 : decode cX9_parse 18 = .ok (.new 253, 3) := by decide +kernel
theorem dX9_parse_21 : decode cX9_parse 21 = .ok (.dup, 1) := by decide +kernel
theorem dX9_parse_22 : decode cX9_parse 22 = .ok (.aload_n 0, 1) := by decide +kernel
theorem dX9_parse_23 : decode cX9_parse 23 = .ok (.getfield 26, 3) := by decide +kernel
theorem dX9_parse_26 : decode cX9_parse 26 = .ok (.aload_n 0, 1) := by decide +kernel
theorem dX9_parse_27 : decode cX9_parse 27 = .ok (.getfield 242, 3) := by decide +kernel
theorem dX9_parse_30 : decode cX9_parse 30 = .ok (.aload_n 0, 1) := by decide +kernel
theorem dX9_parse_31 : decode cX9_parse 31 = .ok (.getfield 16, 3) := by decide +kernel
theorem dX9_parse_34 : decode cX9_parse 34 = .ok (.invokespecial 255, 3) := by decide +kernel
theorem dX9_parse_37 : decode cX9_parse 37 = .ok (.astore_n 1, 1) := by decide +kernel
theorem dX9_parse_38 : decode cX9_parse 38 = .ok (.aload_n 1, 1) := by decide +kernel
theorem dX9_parse_39 : decode cX9_parse 39 = .ok (.invokevirtual 258, 3) := by decide +kernel
theorem dX9_parse_42 : decode cX9_parse 42 = .ok (.istore_n 2, 1) := by decide +kernel
theorem dX9_parse_43 : decode cX9_parse 43 = .ok (.iload_n 2, 1) := by decide +kernel
theorem dX9_parse_44 : decode cX9_parse 44 = .ok (.iconst (-1), 1) := by decide +kernel
theorem dX9_parse_45 : decode cX9_parse 45 = .ok (.if_icmp .ne 11, 3) := by decide +kernel
theorem dX9_parse_48 : decode cX9_parse 48 = .ok (.bipush (-10), 2) := by decide +kernel
theorem dX9_parse_50 : decode cX9_parse 50 = .ok (.aload_n 1, 1) := by decide +kernel
theorem dX9_parse_51 : decode cX9_parse 51 = .ok (.getfield 261, 3) := by decide +kernel
theorem dX9_parse_54 : decode cX9_parse 54 = .ok (.isub, 1) := by decide +kernel
theorem dX9_parse_55 : decode cX9_parse 55 = .ok (.ireturn, 1) := by decide +kernel
theorem dX9_parse_56 : decode cX9_parse 56 = .ok (.aload_n 0, 1) := by decide +kernel
theorem dX9_parse_57 : decode cX9_parse 57 = .ok (.getfield 22, 3) := by decide +kernel
theorem dX9_parse_60 : decode cX9_parse 60 = .ok (.aload_n 0, 1) := by decide +kernel
theorem dX9_parse_61 : decode cX9_parse 61 = .ok (.getfield 10, 3) := by decide +kernel
theorem dX9_parse_64 : decode cX9_parse 64 = .ok (.invokevirtual 54, 3) := by decide +kernel
theorem dX9_parse_67 : decode cX9_parse 67 = .ok (.aload_n 0, 1) := by decide +kernel
theorem dX9_parse_68 : decode cX9_parse 68 = .ok (.getfield 10, 3) := by decide +kernel
theorem dX9_parse_71 : decode cX9_parse 71 = .ok (.aload_n 0, 1) := by decide +kernel
theorem dX9_parse_72 : decode cX9_parse 72 = .ok (.getfield 16, 3) := by decide +kernel
theorem dX9_parse_75 : decode cX9_parse 75 = .ok (.invokevirtual 231, 3) := by decide +kernel
theorem dX9_parse_78 : decode cX9_parse 78 = .ok (.iload_n 2, 1) := by decide +kernel
theorem dX9_parse_79 : decode cX9_parse 79 = .ok (.ireturn, 1) := by decide +kernel
theorem dX9_undo_0 : decode cX9_undo 0 = .ok (.aload_n 0, 1) := by decide +kernel
theorem dX9_undo_1 : decode cX9_undo 1 = .ok (.getfield 22, 3) := by decide +kernel
theorem dX9_undo_4 : decode cX9_undo 4 = .ok (.getfield 264, 3) := by decide +kernel
theorem dX9_undo_7 : decode cX9_undo 7 = .ok (.ifCond .ne 14, 3) := by decide +kernel
theorem dX9_undo_10 : decode cX9_undo 10 = .ok (.new 49, 3) := by decide +kernel
theorem dX9_undo_13 : decode cX9_undo 13 = .ok (.dup, 1) := by decide +kernel
theorem dX9_undo_14 : decode cX9_undo 14 = .ok (.ldc_w 267, 3) := by decide +kernel
theorem dX9_undo_17 : decode cX9_undo 17 = .ok (.invokespecial 53, 3) := by decide +kernel
theorem dX9_undo_20 : decode cX9_undo 20 = .ok (.athrow, 1) := by decide +kernel
theorem dX9_undo_21 : decode cX9_undo 21 = .ok (.aload_n 0, 1) := by decide +kernel
theorem dX9_undo_22 : decode cX9_undo 22 = .ok (.getfield 22, 3) := by decide +kernel
theorem dX9_undo_25 : decode cX9_undo 25 = .ok (.aload_n 0, 1) := by decide +kernel
theorem dX9_undo_26 : decode cX9_undo 26 = .ok (.getfield 10, 3) := by decide +kernel
theorem dX9_undo_29 : decode cX9_undo 29 = .ok (.invokevirtual 269, 3) := by decide +kernel
theorem dX9_undo_32 : decode cX9_undo 32 = .ok (.aload_n 0, 1) := by decide +kernel
theorem dX9_undo_33 : decode cX9_undo 33 = .ok (.getfield 22, 3) := by decide +kernel
theorem dX9_undo_36 : decode cX9_undo 36 = .ok (.getfield 264, 3) := by decide +kernel
theorem dX9_undo_39 : decode cX9_undo 39 = .ok (.ireturn, 1) := by decide +kernel
theorem dX9_digest_0 : decode cX9_digest 0 = .ok (.ldc2_w 272, 3) := by decide +kernel
theorem dX9_digest_3 : decode cX9_digest 3 = .ok (.aload_n 0, 1) := by decide +kernel
theorem dX9_digest_4 : decode cX9_digest 4 = .ok (.getfield 242, 3) := by decide +kernel
theorem dX9_digest_7 : decode cX9_digest 7 = .ok (.i2l, 1) := by decide +kernel
theorem dX9_digest_8 : decode cX9_digest 8 = .ok (.invokestatic 274, 3) := by decide +kernel
theorem dX9_digest_11 : decode cX9_digest 11 = .ok (.lstore_n 1, 1) := by decide +kernel
theorem dX9_digest_12 : decode cX9_digest 12 = .ok (.aload_n 0, 1) := by decide +kernel
theorem dX9_digest_13 : decode cX9_digest 13 = .ok (.getfield 10, 3) := by decide +kernel
theorem dX9_digest_16 : decode cX9_digest 16 = .ok (.lload_n 1, 1) := by decide +kernel
theorem dX9_digest_17 : decode cX9_digest 17 = .ok (.invokevirtual 278, 3) := by decide +kernel
theorem dX9_digest_20 : decode cX9_digest 20 = .ok (.lstore_n 1, 1) := by decide +kernel
theorem dX9_digest_21 : decode cX9_digest 21 = .ok (.lload_n 1, 1) := by decide +kernel
theorem dX9_digest_22 : decode cX9_digest 22 = .ok (.aload_n 0, 1) := by decide +kernel
theorem dX9_digest_23 : decode cX9_digest 23 = .ok (.getfield 22, 3) := by decide +kernel
theorem dX9_digest_26 : decode cX9_digest 26 = .ok (.getfield 264, 3) := by decide +kernel
theorem dX9_digest_29 : decode cX9_digest 29 = .ok (.i2l, 1) := by decide +kernel
theorem dX9_digest_30 : decode cX9_digest 30 = .ok (.invokestatic 274, 3) := by decide +kernel
theorem dX9_digest_33 : decode cX9_digest 33 = .ok (.lreturn, 1) := by decide +kernel
theorem dX9_isWithin_0 : decode cX9_isWithin 0 = .ok (.iload_n 0, 1) := by decide +kernel
theorem dX9_isWithin_1 : decode cX9_isWithin 1 = .ok (.iload_n 1, 1) := by decide +kernel
theorem dX9_isWithin_2 : decode cX9_isWithin 2 = .ok (.if_icmp .lt 12, 3) := by decide +kernel
theorem dX9_isWithin_5 : decode cX9_isWithin 5 = .ok (.iload_n 0, 1) := by decide +kernel
theorem dX9_isWithin_6 : decode cX9_isWithin 6 = .ok (.iload_n 2, 1) := by decide +kernel
theorem dX9_isWithin_7 : decode cX9_isWithin 7 = .ok (.if_icmp .gt 7, 3) := by decide +kernel
theorem dX9_isWithin_10 : decode cX9_isWithin 10 = .ok (.iconst 1, 1) := by decide +kernel
theorem dX9_isWithin_11 : decode cX9_isWithin 11 = .ok (.goto 4, 3) := by decide +kernel
theorem dX9_isWithin_14 : decode cX9_isWithin 14 = .ok (.iconst 0, 1) := by decide +kernel
theorem dX9_isWithin_15 : decode cX9_isWithin 15 = .ok (.ireturn, 1) := by decide +kernel
theorem dX9_isAddress_0 : decode cX9_isAddress 0 = .ok (.iload_n 0, 1) := by decide +kernel
theorem dX9_isAddress_1 : decode cX9_isAddress 1 = .ok (.iconst 0, 1) := by decide +kernel
theorem dX9_isAddress_2 : decode cX9_isAddress 2 = .ok (.bipush 31, 2) := by decide +kernel
theorem dX9_isAddress_4 : decode cX9_isAddress 4 = .ok (.invokestatic 80, 3) := by decide +kernel
theorem dX9_isAddress_7 : decode cX9_isAddress 7 = .ok (.ireturn, 1) := by decide +kernel
end
section
theorem dX9_addressBehind_0 : decode cX9_addressBehind 0 = .ok (.iload_n 0, 1) := by decide +kernel
theorem dX9_addressBehind_1 : decode cX9_addressBehind 1 = .ok (.iconst 1, 1) := by decide +kernel
theorem dX9_addressBehind_2 : decode cX9_addressBehind 2 = .ok (.iadd, 1) := by decide +kernel
theorem dX9_addressBehind_3 : decode cX9_addressBehind 3 = .ok (.bipush 31, 2) := by decide +kernel
theorem dX9_addressBehind_5 : decode cX9_addressBehind 5 = .ok (.iand, 1) := by decide +kernel
theorem dX9_addressBehind_6 : decode cX9_addressBehind 6 = .ok (.ireturn, 1) := by decide +kernel
theorem dX9_mixed_0 : decode cX9_mixed 0 = .ok (.ldc2_w 282, 3) := by decide +kernel
theorem dX9_mixed_3 : decode cX9_mixed 3 = .ok (.lload_n 0, 1) := by decide +kernel
theorem dX9_mixed_4 : decode cX9_mixed 4 = .ok (.lmul, 1) := by decide +kernel
theorem dX9_mixed_5 : decode cX9_mixed 5 = .ok (.lload_n 2, 1) := by decide +kernel
theorem dX9_mixed_6 : decode cX9_mixed 6 = .ok (.ladd, 1) := by decide +kernel
theorem dX9_mixed_7 : decode cX9_mixed 7 = .ok (.lreturn, 1) := by decide +kernel
theorem dX9_sendsAll_0 : decode cX9_sendsAll 0 = .ok (.aload_n 0, 1) := by decide +kernel
theorem dX9_sendsAll_1 : decode cX9_sendsAll 1 = .ok (.getfield 16, 3) := by decide +kernel
theorem dX9_sendsAll_4 : decode cX9_sendsAll 4 = .ok (.aload_n 0, 1) := by decide +kernel
theorem dX9_sendsAll_5 : decode cX9_sendsAll 5 = .ok (.getfield 10, 3) := by decide +kernel
theorem dX9_sendsAll_8 : decode cX9_sendsAll 8 = .ok (.invokevirtual 231, 3) := by decide +kernel
theorem dX9_sendsAll_11 : decode cX9_sendsAll 11 = .ok (.aload_n 0, 1) := by decide +kernel
theorem dX9_sendsAll_12 : decode cX9_sendsAll 12 = .ok (.getfield 16, 3) := by decide +kernel
theorem dX9_sendsAll_15 : decode cX9_sendsAll 15 = .ok (.iload_n 1, 1) := by decide +kernel
theorem dX9_sendsAll_16 : decode cX9_sendsAll 16 = .ok (.putfield 86, 3) := by decide +kernel
theorem dX9_sendsAll_19 : decode cX9_sendsAll 19 = .ok (.iconst 0, 1) := by decide +kernel
theorem dX9_sendsAll_20 : decode cX9_sendsAll 20 = .ok (.istore_n 3, 1) := by decide +kernel
theorem dX9_sendsAll_21 : decode cX9_sendsAll 21 = .ok (.iload_n 3, 1) := by decide +kernel
theorem dX9_sendsAll_22 : decode cX9_sendsAll 22 = .ok (.iload_n 2, 1) := by decide +kernel
theorem dX9_sendsAll_23 : decode cX9_sendsAll 23 = .ok (.if_icmp .ge 26, 3) := by decide +kernel
theorem dX9_sendsAll_26 : decode cX9_sendsAll 26 = .ok (.aload_n 0, 1) := by decide +kernel
theorem dX9_sendsAll_27 : decode cX9_sendsAll 27 = .ok (.getfield 16, 3) := by decide +kernel
theorem dX9_sendsAll_30 : decode cX9_sendsAll 30 = .ok (.invokevirtual 284, 3) := by decide +kernel
theorem dX9_sendsAll_33 : decode cX9_sendsAll 33 = .ok (.ifCond .eq 16, 3) := by decide +kernel
theorem dX9_sendsAll_36 : decode cX9_sendsAll 36 = .ok (.aload_n 0, 1) := by decide +kernel
theorem dX9_sendsAll_37 : decode cX9_sendsAll 37 = .ok (.getfield 16, 3) := by decide +kernel
theorem dX9_sendsAll_40 : decode cX9_sendsAll 40 = .ok (.invokestatic 138, 3) := by decide +kernel
theorem dX9_sendsAll_43 : decode cX9_sendsAll 43 = .ok (.iinc 3 1, 3) := by decide +kernel
theorem dX9_sendsAll_46 : decode cX9_sendsAll 46 = .ok (.goto (-25), 3) := by decide +kernel
theorem dX9_sendsAll_49 : decode cX9_sendsAll 49 = .ok (.aload_n 0, 1) := by decide +kernel
theorem dX9_sendsAll_50 : decode cX9_sendsAll 50 = .ok (.getfield 16, 3) := by decide +kernel
theorem dX9_sendsAll_53 : decode cX9_sendsAll 53 = .ok (.invokevirtual 284, 3) := by decide +kernel
theorem dX9_sendsAll_56 : decode cX9_sendsAll 56 = .ok (.ifCond .ne 7, 3) := by decide +kernel
theorem dX9_sendsAll_59 : decode cX9_sendsAll 59 = .ok (.iconst 1, 1) := by decide +kernel
theorem dX9_sendsAll_60 : decode cX9_sendsAll 60 = .ok (.goto 4, 3) := by decide +kernel
theorem dX9_sendsAll_63 : decode cX9_sendsAll 63 = .ok (.iconst 0, 1) := by decide +kernel
theorem dX9_sendsAll_64 : decode cX9_sendsAll 64 = .ok (.ireturn, 1) := by decide +kernel
theorem dX10_init_0 : decode cX10_init 0 = .ok (.aload_n 0, 1) := by decide +kernel
theorem dX10_init_1 : decode cX10_init 1 = .ok (.invokespecial 1, 3) := by decide +kernel
theorem dX10_init_4 : decode cX10_init 4 = .ok (.aload_n 0, 1) := by decide +kernel
theorem dX10_init_5 : decode cX10_init 5 = .ok (.sipush 942, 3) := by decide +kernel
theorem dX10_init_8 : decode cX10_init 8 = .ok (.newarray .int, 2) := by decide +kernel
theorem dX10_init_10 : decode cX10_init 10 = .ok (.putfield 7, 3) := by decide +kernel
theorem dX10_init_13 : decode cX10_init 13 = .ok (.aload_n 0, 1) := by decide +kernel
theorem dX10_init_14 : decode cX10_init 14 = .ok (.sipush 3768, 3) := by decide +kernel
theorem dX10_init_17 : decode cX10_init 17 = .ok (.newarray .int, 2) := by decide +kernel
theorem dX10_init_19 : decode cX10_init 19 = .ok (.putfield 13, 3) := by decide +kernel
theorem dX10_init_22 : decode cX10_init 22 = .ok (.aload_n 0, 1) := by decide +kernel
theorem dX10_init_23 : decode cX10_init 23 = .ok (.sipush 942, 3) := by decide +kernel
theorem dX10_init_26 : decode cX10_init 26 = .ok (.newarray .int, 2) := by decide +kernel
theorem dX10_init_28 : decode cX10_init 28 = .ok (.putfield 16, 3) := by decide +kernel
theorem dX10_init_31 : decode cX10_init 31 = .ok (.aload_n 0, 1) := by decide +kernel
theorem dX10_init_32 : decode cX10_init 32 = .ok (.bipush 120, 2) := by decide +kernel
theorem dX10_init_34 : decode cX10_init 34 = .ok (.newarray .int, 2) := by decide +kernel
theorem dX10_init_36 : decode cX10_init 36 = .ok (.putfield 19, 3) := by decide +kernel
theorem dX10_init_39 : decode cX10_init 39 = .ok (.aload_n 0, 1) := by decide +kernel
theorem dX10_init_40 : decode cX10_init 40 = .ok (.getfield 7, 3) := by decide +kernel
theorem dX10_init_43 : decode cX10_init 43 = .ok (.iconst 0, 1) := by decide +kernel
theorem dX10_init_44 : decode cX10_init 44 = .ok (.bipush 60, 2) := by decide +kernel
theorem dX10_init_46 : decode cX10_init 46 = .ok (.iastore, 1) := by decide +kernel
theorem dX10_init_47 : decode cX10_init 47 = .ok (.aload_n 0, 1) := by decide +kernel
theorem dX10_init_48 : decode cX10_init 48 = .ok (.getfield 7, 3) := by decide +kernel
theorem dX10_init_51 : decode cX10_init 51 = .ok (.iconst 1, 1) := by decide +kernel
theorem dX10_init_52 : decode cX10_init 52 = .ok (.iconst 4, 1) := by decide +kernel
theorem dX10_init_53 : decode cX10_init 53 = .ok (.iastore, 1) := by decide +kernel
theorem dX10_init_54 : decode cX10_init 54 = .ok (.aload_n 0, 1) := by decide +kernel
theorem dX10_init_55 : decode cX10_init 55 = .ok (.getfield 7, 3) := by decide +kernel
theorem dX10_init_58 : decode cX10_init 58 = .ok (.iconst 2, 1) := by decide +kernel
theorem dX10_init_59 : decode cX10_init 59 = .ok (.iconst 3, 1) := by decide +kernel
theorem dX10_init_60 : decode cX10_init 60 = .ok (.iastore, 1) := by decide +kernel
theorem dX10_init_61 : decode cX10_init 61 = .ok (.aload_n 0, 1) := by decide +kernel
theorem dX10_init_62 : decode cX10_init 62 = .ok (.getfield 7, 3) := by decide +kernel
theorem dX10_init_65 : decode cX10_init 65 = .ok (.iconst 4, 1) := by decide +kernel
theorem dX10_init_66 : decode cX10_init 66 = .ok (.iconst (-1), 1) := by decide +kernel
theorem dX10_init_67 : decode cX10_init 67 = .ok (.iastore, 1) := by decide +kernel
theorem dX10_init_68 : decode cX10_init 68 = .ok (.return_, 1) := by decide +kernel
theorem dX10_thrown_0 : decode cX10_thrown 0 = .ok (.aload_n 0, 1) := by decide +kernel
theorem dX10_thrown_1 : decode cX10_thrown 1 = .ok (.getfield 22, 3) := by decide +kernel
theorem dX10_thrown_4 : decode cX10_thrown 4 = .ok (.ireturn, 1) := by decide +kernel
theorem dX10_in_0 : decode cX10_in 0 = .ok (.lload_n 0, 1) := by decide +kernel
theorem dX10_in_1 : decode cX10_in 1 = .ok (.lload_n 2, 1) := by decide +kernel
theorem dX10_in_2 : decode cX10_in 2 = .ok (.lcmp, 1) := by decide +kernel
theorem dX10_in_3 : decode cX10_in 3 = .ok (.ifCond .lt 14, 3) := by decide +kernel
theorem dX10_in_6 : decode cX10_in 6 = .ok (.lload_n 0, 1) := by decide +kernel
theorem dX10_in_7 : decode cX10_in 7 = .ok (.lload 4, 2) := by decide +kernel
theorem dX10_in_9 : decode cX10_in 9 = .ok (.lcmp, 1) := by decide +kernel
theorem dX10_in_10 : decode cX10_in 10 = .ok (.ifCond .gt 7, 3) := by decide +kernel
theorem dX10_in_13 : decode cX10_in 13 = .ok (.iconst 1, 1) := by decide +kernel
theorem dX10_in_14 : decode cX10_in 14 = .ok (.goto 4, 3) := by decide +kernel
theorem dX10_in_17 : decode cX10_in 17 = .ok (.iconst 0, 1) := by decide +kernel
theorem dX10_in_18 : decode cX10_in 18 = .ok (.ireturn, 1) := by decide +kernel
theorem dX10_goes_0 : decode cX10_goes 0 = .ok (.aload_n 0, 1) := by decide +kernel
theorem dX10_goes_1 : decode cX10_goes 1 = .ok (.iload_n 1, 1) := by decide +kernel
theorem dX10_goes_2 : decode cX10_goes 2 = .ok (.ifCond .ne 7, 3) := by decide +kernel
theorem dX10_goes_5 : decode cX10_goes 5 = .ok (.iconst 1, 1) := by decide +kernel
theorem dX10_goes_6 : decode cX10_goes 6 = .ok (.goto 20, 3) := by decide +kernel
theorem dX10_goes_9 : decode cX10_goes 9 = .ok (.iload_n 2, 1) := by decide +kernel
theorem dX10_goes_10 : decode cX10_goes 10 = .ok (.ifCond .ne 7, 3) := by decide +kernel
theorem dX10_goes_13 : decode cX10_goes 13 = .ok (.iconst 2, 1) := by decide +kernel
theorem dX10_goes_14 : decode cX10_goes 14 = .ok (.goto 12, 3) := by decide +kernel
theorem dX10_goes_17 : decode cX10_goes 17 = .ok (.iload_n 3, 1) := by decide +kernel
theorem dX10_goes_18 : decode cX10_goes 18 = .ok (.ifCond .ne 7, 3) := by decide +kernel
theorem dX10_goes_21 : decode cX10_goes 21 = .ok (.iconst 3, 1) := by decide +kernel
theorem dX10_goes_22 : decode cX10_goes 22 = .ok (.goto 4, 3) := by decide +kernel
theorem dX10_goes_25 : decode cX10_goes 25 = .ok (.iconst 0, 1) := by decide +kernel
theorem dX10_goes_26 : decode cX10_goes 26 = .ok (.putfield 22, 3) := by decide +kernel
theorem dX10_goes_29 : decode cX10_goes 29 = .ok (.aload_n 0, 1) := by decide +kernel
theorem dX10_goes_30 : decode cX10_goes 30 = .ok (.getfield 22, 3) := by decide +kernel
theorem dX10_goes_33 : decode cX10_goes 33 = .ok (.ifCond .ne 7, 3) := by decide +kernel
theorem dX10_goes_36 : decode cX10_goes 36 = .ok (.iconst 1, 1) := by decide +kernel
theorem dX10_goes_37 : decode cX10_goes 37 = .ok (.goto 4, 3) := by decide +kernel
theorem dX10_goes_40 : decode cX10_goes 40 = .ok (.iconst 0, 1) := by decide +kernel
theorem dX10_goes_41 : decode cX10_goes 41 = .ok (.ireturn, 1) := by decide +kernel
theorem dX10_save_0 : decode cX10_save 0 = .ok (.aload_n 0, 1) := by decide +kernel
theorem dX10_save_1 : decode cX10_save 1 = .ok (.getfield 26, 3) := by decide +kernel
theorem dX10_save_4 : decode cX10_save 4 = .ok (.iconst 4, 1) := by decide +kernel
theorem dX10_save_5 : decode cX10_save 5 = .ok (.if_icmp .ne 44, 3) := by decide +kernel
theorem dX10_save_8 : decode cX10_save 8 = .ok (.iconst 0, 1) := by decide +kernel
theorem dX10_save_9 : decode cX10_save 9 = .ok (.istore_n 1, 1) := by decide +kernel
theorem dX10_save_10 : decode cX10_save 10 = .ok (.iload_n 1, 1) := by decide +kernel
theorem dX10_save_11 : decode cX10_save 11 = .ok (.sipush 2826, 3) := by decide +kernel
theorem dX10_save_14 : decode cX10_save 14 = .ok (.if_icmp .ge 25, 3) := by decide +kernel
theorem dX10_save_17 : decode cX10_save 17 = .ok (.aload_n 0, 1) := by decide +kernel
theorem dX10_save_18 : decode cX10_save 18 = .ok (.getfield 13, 3) := by decide +kernel
theorem dX10_save_21 : decode cX10_save 21 = .ok (.iload_n 1, 1) := by decide +kernel
theorem dX10_save_22 : decode cX10_save 22 = .ok (.aload_n 0, 1) := by decide +kernel
theorem dX10_save_23 : decode cX10_save 23 = .ok (.getfield 13, 3) := by decide +kernel
theorem dX10_save_26 : decode cX10_save 26 = .ok (.iload_n 1, 1) := by decide +kernel
theorem dX10_save_27 : decode cX10_save 27 = .ok (.sipush 942, 3) := by decide +kernel
theorem dX10_save_30 : decode cX10_save 30 = .ok (.iadd, 1) := by decide +kernel
theorem dX10_save_31 : decode cX10_save 31 = .ok (.iaload, 1) := by decide +kernel
theorem dX10_save_32 : decode cX10_save 32 = .ok (.iastore, 1) := by decide +kernel
theorem dX10_save_33 : decode cX10_save 33 = .ok (.iinc 1 1, 3) := by decide +kernel
theorem dX10_save_36 : decode cX10_save 36 = .ok (.goto (-26), 3) := by decide +kernel
theorem dX10_save_39 : decode cX10_save 39 = .ok (.aload_n 0, 1) := by decide +kernel
theorem dX10_save_40 : decode cX10_save 40 = .ok (.dup, 1) := by decide +kernel
theorem dX10_save_41 : decode cX10_save 41 = .ok (.getfield 26, 3) := by decide +kernel
theorem dX10_save_44 : decode cX10_save 44 = .ok (.iconst 1, 1) := by decide +kernel
theorem dX10_save_45 : decode cX10_save 45 = .ok (.isub, 1) := by decide +kernel
theorem dX10_save_46 : decode cX10_save 46 = .ok (.putfield 26, 3) := by decide +kernel
theorem dX10_save_49 : decode cX10_save 49 = .ok (.iconst 0, 1) := by decide +kernel
theorem dX10_save_50 : decode cX10_save 50 = .ok (.istore_n 1, 1) := by decide +kernel
theorem dX10_save_51 : decode cX10_save 51 = .ok (.iload_n 1, 1) := by decide +kernel
theorem dX10_save_52 : decode cX10_save 52 = .ok (.sipush 942, 3) := by decide +kernel
theorem dX10_save_55 : decode cX10_save 55 = .ok (.if_icmp .ge 30, 3) := by decide +kernel
theorem dX10_save_58 : decode cX10_save 58 = .ok (.aload_n 0, 1) := by decide +kernel
theorem dX10_save_59 : decode cX10_save 59 = .ok (.getfield 13, 3) := by decide +kernel
theorem dX10_save_62 : decode cX10_save 62 = .ok (.sipush 942, 3) := by decide +kernel
theorem dX10_save_65 : decode cX10_save 65 = .ok (.aload_n 0, 1) := by decide +kernel
theorem dX10_save_66 : decode cX10_save 66 = .ok (.getfield 26, 3) := by decide +kernel
theorem dX10_save_69 : decode cX10_save 69 = .ok (.imul, 1) := by decide +kernel
theorem dX10_save_70 : decode cX10_save 70 = .ok (.iload_n 1, 1) := by decide +kernel
theorem dX10_save_71 : decode cX10_save 71 = .ok (.iadd, 1) := by decide +kernel
theorem dX10_save_72 : decode cX10_save 72 = .ok (.aload_n 0, 1) := by decide +kernel
theorem dX10_save_73 : decode cX10_save 73 = .ok (.getfield 7, 3) := by decide +kernel
theorem dX10_save_76 : decode cX10_save 76 = .ok (.iload_n 1, 1) := by decide +kernel
theorem dX10_save_77 : decode cX10_save 77 = .ok (.iaload, 1) := by decide +kernel
theorem dX10_save_78 : decode cX10_save 78 = .ok (.iastore, 1) := by decide +kernel
theorem dX10_save_79 : decode cX10_save 79 = .ok (.iinc 1 1, 3) := by decide +kernel
theorem dX10_save_82 : decode cX10_save 82 = .ok (.goto (-31), 3) := by decide +kernel
theorem dX10_save_85 : decode cX10_save 85 = .ok (.aload_n 0, 1) := by decide +kernel
theorem dX10_save_86 : decode cX10_save 86 = .ok (.dup, 1) := by decide +kernel
theorem dX10_save_87 : decode cX10_save 87 = .ok (.getfield 26, 3) := by decide +kernel
theorem dX10_save_90 : decode cX10_save 90 = .ok (.iconst 1, 1) := by decide +kernel
theorem dX10_save_91 : decode cX10_save 91 = .ok (.iadd, 1) := by decide +kernel
theorem dX10_save_92 : decode cX10_save 92 = .ok (.putfield 26, 3) := by decide +kernel
theorem dX10_save_95 : decode cX10_save 95 = .ok (.return_, 1) := by decide +kernel
theorem dX10_lays_0 : decode cX10_lays 0 = .ok (.iconst 0, 1) := by decide +kernel
theorem dX10_lays_1 : decode cX10_lays 1 = .ok (.istore_n 1, 1) := by decide +kernel
theorem dX10_lays_2 : decode cX10_lays 2 = .ok (.iload_n 1, 1) := by decide +kernel
theorem dX10_lays_3 : decode cX10_lays 3 = .ok (.sipush 942, 3) := by decide +kernel
theorem dX10_lays_6 : decode cX10_lays 6 = .ok (.if_icmp .ge 21, 3) := by decide +kernel
theorem dX10_lays_9 : decode cX10_lays 9 = .ok (.aload_n 0, 1) := by decide +kernel
theorem dX10_lays_10 : decode cX10_lays 10 = .ok (.getfield 16, 3) := by decide +kernel
theorem dX10_lays_13 : decode cX10_lays 13 = .ok (.iload_n 1, 1) := by decide +kernel
theorem dX10_lays_14 : decode cX10_lays 14 = .ok (.aload_n 0, 1) := by decide +kernel
theorem dX10_lays_15 : decode cX10_lays 15 = .ok (.getfield 7, 3) := by decide +kernel
theorem dX10_lays_18 : decode cX10_lays 18 = .ok (.iload_n 1, 1) := by decide +kernel
theorem dX10_lays_19 : decode cX10_lays 19 = .ok (.iaload, 1) := by decide +kernel
theorem dX10_lays_20 : decode cX10_lays 20 = .ok (.iastore, 1) := by decide +kernel
theorem dX10_lays_21 : decode cX10_lays 21 = .ok (.iinc 1 1, 3) := by decide +kernel
theorem dX10_lays_24 : decode cX10_lays 24 = .ok (.goto (-22), 3) := by decide +kernel
theorem dX10_lays_27 : decode cX10_lays 27 = .ok (.return_, 1) := by decide +kernel
theorem dX10_takesBack_0 : decode cX10_takesBack 0 = .ok (.iconst 0, 1) := by decide +kernel
theorem dX10_takesBack_1 : decode cX10_takesBack 1 = .ok (.istore_n 1, 1) := by decide +kernel
theorem dX10_takesBack_2 : decode cX10_takesBack 2 = .ok (.iload_n 1, 1) := by decide +kernel
theorem dX10_takesBack_3 : decode cX10_takesBack 3 = .ok (.sipush 942, 3) := by decide +kernel
theorem dX10_takesBack_6 : decode cX10_takesBack 6 = .ok (.if_icmp .ge 21, 3) := by decide +kernel
theorem dX10_takesBack_9 : decode cX10_takesBack 9 = .ok (.aload_n 0, 1) := by decide +kernel
theorem dX10_takesBack_10 : decode cX10_takesBack 10 = .ok (.getfield 7, 3) := by decide +kernel
theorem dX10_takesBack_13 : decode cX10_takesBack 13 = .ok (.iload_n 1, 1) := by decide +kernel
theorem dX10_takesBack_14 : decode cX10_takesBack 14 = .ok (.aload_n 0, 1) := by decide +kernel
theorem dX10_takesBack_15 : decode cX10_takesBack 15 = .ok (.getfield 16, 3) := by decide +kernel
theorem dX10_takesBack_18 : decode cX10_takesBack 18 = .ok (.iload_n 1, 1) := by decide +kernel
theorem dX10_takesBack_19 : decode cX10_takesBack 19 = .ok (.iaload, 1) := by decide +kernel
theorem dX10_takesBack_20 : decode cX10_takesBack 20 = .ok (.iastore, 1) := by decide +kernel
theorem dX10_takesBack_21 : decode cX10_takesBack 21 = .ok (.iinc 1 1, 3) := by decide +kernel
theorem dX10_takesBack_24 : decode cX10_takesBack 24 = .ok (.goto (-22), 3) := by decide +kernel
theorem dX10_takesBack_27 : decode cX10_takesBack 27 = .ok (.return_, 1) := by decide +kernel
theorem dX10_at_0 : decode cX10_at 0 = .ok (.bipush 18, 2) := by decide +kernel
theorem dX10_at_2 : decode cX10_at 2 = .ok (.bipush 7, 2) := by decide +kernel
theorem dX10_at_4 : decode cX10_at 4 = .ok (.iload_n 0, 1) := by decide +kernel
theorem dX10_at_5 : decode cX10_at 5 = .ok (.imul, 1) := by decide +kernel
theorem dX10_at_6 : decode cX10_at 6 = .ok (.iadd, 1) := by decide +kernel
theorem dX10_at_7 : decode cX10_at 7 = .ok (.iload_n 1, 1) := by decide +kernel
theorem dX10_at_8 : decode cX10_at 8 = .ok (.iadd, 1) := by decide +kernel
theorem dX10_at_9 : decode cX10_at 9 = .ok (.ireturn, 1) := by decide +kernel
theorem dX10_of_0 : decode cX10_of 0 = .ok (.aload_n 0, 1) := by decide +kernel
theorem dX10_of_1 : decode cX10_of 1 = .ok (.getfield 7, 3) := by decide +kernel
theorem dX10_of_4 : decode cX10_of 4 = .ok (.iload_n 1, 1) := by decide +kernel
theorem dX10_of_5 : decode cX10_of 5 = .ok (.iload_n 2, 1) := by decide +kernel
theorem dX10_of_6 : decode cX10_of 6 = .ok (.invokestatic 29, 3) := by decide +kernel
theorem dX10_of_9 : decode cX10_of 9 = .ok (.iaload, 1) := by decide +kernel
theorem dX10_of_10 : decode cX10_of 10 = .ok (.ireturn, 1) := by decide +kernel
theorem dX10_isStation_0 : decode cX10_isStation 0 = .ok (.iload_n 1, 1) := by decide +kernel
theorem dX10_isStation_1 : decode cX10_isStation 1 = .ok (.i2l, 1) := by decide +kernel
theorem dX10_isStation_2 : decode cX10_isStation 2 = .ok (.lconst 0, 1) := by decide +kernel
theorem dX10_isStation_3 : decode cX10_isStation 3 = .ok (.ldc2_w 33, 3) := by decide +kernel
theorem dX10_isStation_6 : decode cX10_isStation 6 = .ok (.invokestatic 35, 3) := by decide +kernel
theorem dX10_isStation_9 : decode cX10_isStation 9 = .ok (.ifCond .eq 17, 3) := by decide +kernel
theorem dX10_isStation_12 : decode cX10_isStation 12 = .ok (.aload_n 0, 1) := by decide +kernel
theorem dX10_isStation_13 : decode cX10_isStation 13 = .ok (.iload_n 1, 1) := by decide +kernel
theorem dX10_isStation_14 : decode cX10_isStation 14 = .ok (.iconst 0, 1) := by decide +kernel
theorem dX10_isStation_15 : decode cX10_isStation 15 = .ok (.invokevirtual 39, 3) := by decide +kernel
theorem dX10_isStation_18 : decode cX10_isStation 18 = .ok (.iconst 1, 1) := by decide +kernel
theorem dX10_isStation_19 : decode cX10_isStation 19 = .ok (.if_icmp .ne 7, 3) := by decide +kernel
theorem dX10_isStation_22 : decode cX10_isStation 22 = .ok (.iconst 1, 1) := by decide +kernel
theorem dX10_isStation_23 : decode cX10_isStation 23 = .ok (.goto 4, 3) := by decide +kernel
theorem dX10_isStation_26 : decode cX10_isStation 26 = .ok (.iconst 0, 1) := by decide +kernel
theorem dX10_isStation_27 : decode cX10_isStation 27 = .ok (.ireturn, 1) := by decide +kernel
theorem dX10_isInRing_0 : decode cX10_isInRing 0 = .ok (.aload_n 0, 1) := by decide +kernel
theorem dX10_isInRing_1 : decode cX10_isInRing 1 = .ok (.iload_n 1, 1) := by decide +kernel
theorem dX10_isInRing_2 : decode cX10_isInRing 2 = .ok (.iconst 0, 1) := by decide +kernel
theorem dX10_isInRing_3 : decode cX10_isInRing 3 = .ok (.invokevirtual 39, 3) := by decide +kernel
theorem dX10_isInRing_6 : decode cX10_isInRing 6 = .ok (.iconst 1, 1) := by decide +kernel
theorem dX10_isInRing_7 : decode cX10_isInRing 7 = .ok (.if_icmp .ne 27, 3) := by decide +kernel
theorem dX10_isInRing_10 : decode cX10_isInRing 10 = .ok (.aload_n 0, 1) := by decide +kernel
theorem dX10_isInRing_11 : decode cX10_isInRing 11 = .ok (.iload_n 1, 1) := by decide +kernel
theorem dX10_isInRing_12 : decode cX10_isInRing 12 = .ok (.iconst 1, 1) := by decide +kernel
theorem dX10_isInRing_13 : decode cX10_isInRing 13 = .ok (.invokevirtual 39, 3) := by decide +kernel
theorem dX10_isInRing_16 : decode cX10_isInRing 16 = .ok (.iconst 1, 1) := by decide +kernel
theorem dX10_isInRing_17 : decode cX10_isInRing 17 = .ok (.if_icmp .ne 17, 3) := by decide +kernel
theorem dX10_isInRing_20 : decode cX10_isInRing 20 = .ok (.aload_n 0, 1) := by decide +kernel
theorem dX10_isInRing_21 : decode cX10_isInRing 21 = .ok (.iload_n 1, 1) := by decide +kernel
theorem dX10_isInRing_22 : decode cX10_isInRing 22 = .ok (.iconst 2, 1) := by decide +kernel
theorem dX10_isInRing_23 : decode cX10_isInRing 23 = .ok (.invokevirtual 39, 3) := by decide +kernel
theorem dX10_isInRing_26 : decode cX10_isInRing 26 = .ok (.iconst 1, 1) := by decide +kernel
theorem dX10_isInRing_27 : decode cX10_isInRing 27 = .ok (.if_icmp .ne 7, 3) := by decide +kernel
theorem dX10_isInRing_30 : decode cX10_isInRing 30 = .ok (.iconst 1, 1) := by decide +kernel
theorem dX10_isInRing_31 : decode cX10_isInRing 31 = .ok (.goto 4, 3) := by decide +kernel
theorem dX10_isInRing_34 : decode cX10_isInRing 34 = .ok (.iconst 0, 1) := by decide +kernel
theorem dX10_isInRing_35 : decode cX10_isInRing 35 = .ok (.ireturn, 1) := by decide +kernel
theorem dX10_inMessage_0 : decode cX10_inMessage 0 = .ok (.sipush 242, 3) := by decide +kernel
theorem dX10_inMessage_3 : decode cX10_inMessage 3 = .ok (.iconst 5, 1) := by decide +kernel
theorem dX10_inMessage_4 : decode cX10_inMessage 4 = .ok (.iload_n 0, 1) := by decide +kernel
theorem dX10_inMessage_5 : decode cX10_inMessage 5 = .ok (.imul, 1) := by decide +kernel
theorem dX10_inMessage_6 : decode cX10_inMessage 6 = .ok (.iadd, 1) := by decide +kernel
theorem dX10_inMessage_7 : decode cX10_inMessage 7 = .ok (.iload_n 1, 1) := by decide +kernel
theorem dX10_inMessage_8 : decode cX10_inMessage 8 = .ok (.iadd, 1) := by decide +kernel
theorem dX10_inMessage_9 : decode cX10_inMessage 9 = .ok (.ireturn, 1) := by decide +kernel
theorem dX10_ofMessage_0 : decode cX10_ofMessage 0 = .ok (.aload_n 0, 1) := by decide +kernel
theorem dX10_ofMessage_1 : decode cX10_ofMessage 1 = .ok (.getfield 7, 3) := by decide +kernel
theorem dX10_ofMessage_4 : decode cX10_ofMessage 4 = .ok (.iload_n 1, 1) := by decide +kernel
theorem dX10_ofMessage_5 : decode cX10_ofMessage 5 = .ok (.iload_n 2, 1) := by decide +kernel
theorem dX10_ofMessage_6 : decode cX10_ofMessage 6 = .ok (.invokestatic 42, 3) := by decide +kernel
theorem dX10_ofMessage_9 : decode cX10_ofMessage 9 = .ok (.iaload, 1) := by decide +kernel
theorem dX10_ofMessage_10 : decode cX10_ofMessage 10 = .ok (.ireturn, 1) := by decide +kernel
theorem dX10_stations_0 : decode cX10_stations 0 = .ok (.iconst 0, 1) := by decide +kernel
theorem dX10_stations_1 : decode cX10_stations 1 = .ok (.istore_n 1, 1) := by decide +kernel
theorem dX10_stations_2 : decode cX10_stations 2 = .ok (.iconst 0, 1) := by decide +kernel
theorem dX10_stations_3 : decode cX10_stations 3 = .ok (.istore_n 2, 1) := by decide +kernel
theorem dX10_stations_4 : decode cX10_stations 4 = .ok (.iload_n 2, 1) := by decide +kernel
theorem dX10_stations_5 : decode cX10_stations 5 = .ok (.bipush 32, 2) := by decide +kernel
theorem dX10_stations_7 : decode cX10_stations 7 = .ok (.if_icmp .ge 18, 3) := by decide +kernel
theorem dX10_stations_10 : decode cX10_stations 10 = .ok (.iload_n 1, 1) := by decide +kernel
theorem dX10_stations_11 : decode cX10_stations 11 = .ok (.aload_n 0, 1) := by decide +kernel
theorem dX10_stations_12 : decode cX10_stations 12 = .ok (.iload_n 2, 1) := by decide +kernel
theorem dX10_stations_13 : decode cX10_stations 13 = .ok (.iconst 0, 1) := by decide +kernel
theorem dX10_stations_14 : decode cX10_stations 14 = .ok (.invokevirtual 39, 3) := by decide +kernel
theorem dX10_stations_17 : decode cX10_stations 17 = .ok (.iadd, 1) := by decide +kernel
theorem dX10_stations_18 : decode cX10_stations 18 = .ok (.istore_n 1, 1) := by decide +kernel
theorem dX10_stations_19 : decode cX10_stations 19 = .ok (.iinc 2 1, 3) := by decide +kernel
theorem dX10_stations_22 : decode cX10_stations 22 = .ok (.goto (-18), 3) := by decide +kernel
theorem dX10_stations_25 : decode cX10_stations 25 = .ok (.iload_n 1, 1) := by decide +kernel
theorem dX10_stations_26 : decode cX10_stations 26 = .ok (.ireturn, 1) := by decide +kernel
theorem dX10_adds_0 : decode cX10_adds 0 = .ok (.aload_n 0, 1) := by decide +kernel
theorem dX10_adds_1 : decode cX10_adds 1 = .ok (.getfield 7, 3) := by decide +kernel
theorem dX10_adds_4 : decode cX10_adds 4 = .ok (.iload_n 1, 1) := by decide +kernel
theorem dX10_adds_5 : decode cX10_adds 5 = .ok (.iconst 0, 1) := by decide +kernel
theorem dX10_adds_6 : decode cX10_adds 6 = .ok (.invokestatic 29, 3) := by decide +kernel
theorem dX10_adds_9 : decode cX10_adds 9 = .ok (.iconst 1, 1) := by decide +kernel
theorem dX10_adds_10 : decode cX10_adds 10 = .ok (.iastore, 1) := by decide +kernel
theorem dX10_adds_11 : decode cX10_adds 11 = .ok (.aload_n 0, 1) := by decide +kernel
theorem dX10_adds_12 : decode cX10_adds 12 = .ok (.getfield 7, 3) := by decide +kernel
theorem dX10_adds_15 : decode cX10_adds 15 = .ok (.iload_n 1, 1) := by decide +kernel
theorem dX10_adds_16 : decode cX10_adds 16 = .ok (.iconst 1, 1) := by decide +kernel
theorem dX10_adds_17 : decode cX10_adds 17 = .ok (.invokestatic 29, 3) := by decide +kernel
theorem dX10_adds_20 : decode cX10_adds 20 = .ok (.iconst 1, 1) := by decide +kernel
theorem dX10_adds_21 : decode cX10_adds 21 = .ok (.iastore, 1) := by decide +kernel
theorem dX10_adds_22 : decode cX10_adds 22 = .ok (.aload_n 0, 1) := by decide +kernel
theorem dX10_adds_23 : decode cX10_adds 23 = .ok (.getfield 7, 3) := by decide +kernel
theorem dX10_adds_26 : decode cX10_adds 26 = .ok (.iload_n 1, 1) := by decide +kernel
theorem dX10_adds_27 : decode cX10_adds 27 = .ok (.iconst 2, 1) := by decide +kernel
theorem dX10_adds_28 : decode cX10_adds 28 = .ok (.invokestatic 29, 3) := by decide +kernel
theorem dX10_adds_31 : decode cX10_adds 31 = .ok (.iconst 0, 1) := by decide +kernel
theorem dX10_adds_32 : decode cX10_adds 32 = .ok (.iastore, 1) := by decide +kernel
theorem dX10_adds_33 : decode cX10_adds 33 = .ok (.aload_n 0, 1) := by decide +kernel
theorem dX10_adds_34 : decode cX10_adds 34 = .ok (.getfield 7, 3) := by decide +kernel
theorem dX10_adds_37 : decode cX10_adds 37 = .ok (.iload_n 1, 1) := by decide +kernel
theorem dX10_adds_38 : decode cX10_adds 38 = .ok (.iconst 3, 1) := by decide +kernel
theorem dX10_adds_39 : decode cX10_adds 39 = .ok (.invokestatic 29, 3) := by decide +kernel
theorem dX10_adds_42 : decode cX10_adds 42 = .ok (.iload_n 1, 1) := by decide +kernel
theorem dX10_adds_43 : decode cX10_adds 43 = .ok (.iastore, 1) := by decide +kernel
theorem dX10_adds_44 : decode cX10_adds 44 = .ok (.aload_n 0, 1) := by decide +kernel
theorem dX10_adds_45 : decode cX10_adds 45 = .ok (.getfield 7, 3) := by decide +kernel
theorem dX10_adds_48 : decode cX10_adds 48 = .ok (.iload_n 1, 1) := by decide +kernel
theorem dX10_adds_49 : decode cX10_adds 49 = .ok (.iconst 4, 1) := by decide +kernel
theorem dX10_adds_50 : decode cX10_adds 50 = .ok (.invokestatic 29, 3) := by decide +kernel
theorem dX10_adds_53 : decode cX10_adds 53 = .ok (.iload_n 1, 1) := by decide +kernel
theorem dX10_adds_54 : decode cX10_adds 54 = .ok (.iastore, 1) := by decide +kernel
theorem dX10_adds_55 : decode cX10_adds 55 = .ok (.aload_n 0, 1) := by decide +kernel
theorem dX10_adds_56 : decode cX10_adds 56 = .ok (.getfield 7, 3) := by decide +kernel
theorem dX10_adds_59 : decode cX10_adds 59 = .ok (.iload_n 1, 1) := by decide +kernel
theorem dX10_adds_60 : decode cX10_adds 60 = .ok (.iconst 5, 1) := by decide +kernel
theorem dX10_adds_61 : decode cX10_adds 61 = .ok (.invokestatic 29, 3) := by decide +kernel
theorem dX10_adds_64 : decode cX10_adds 64 = .ok (.iconst 0, 1) := by decide +kernel
theorem dX10_adds_65 : decode cX10_adds 65 = .ok (.iastore, 1) := by decide +kernel
theorem dX10_adds_66 : decode cX10_adds 66 = .ok (.aload_n 0, 1) := by decide +kernel
theorem dX10_adds_67 : decode cX10_adds 67 = .ok (.getfield 7, 3) := by decide +kernel
theorem dX10_adds_70 : decode cX10_adds 70 = .ok (.iload_n 1, 1) := by decide +kernel
theorem dX10_adds_71 : decode cX10_adds 71 = .ok (.bipush 6, 2) := by decide +kernel
theorem dX10_adds_73 : decode cX10_adds 73 = .ok (.invokestatic 29, 3) := by decide +kernel
theorem dX10_adds_76 : decode cX10_adds 76 = .ok (.iconst (-1), 1) := by decide +kernel
theorem dX10_adds_77 : decode cX10_adds 77 = .ok (.iastore, 1) := by decide +kernel
theorem dX10_adds_78 : decode cX10_adds 78 = .ok (.return_, 1) := by decide +kernel
theorem dX10_addStation_0 : decode cX10_addStation 0 = .ok (.iload_n 1, 1) := by decide +kernel
theorem dX10_addStation_1 : decode cX10_addStation 1 = .ok (.i2l, 1) := by decide +kernel
theorem dX10_addStation_2 : decode cX10_addStation 2 = .ok (.lconst 0, 1) := by decide +kernel
theorem dX10_addStation_3 : decode cX10_addStation 3 = .ok (.ldc2_w 33, 3) := by decide +kernel
theorem dX10_addStation_6 : decode cX10_addStation 6 = .ok (.invokestatic 35, 3) := by decide +kernel
theorem dX10_addStation_9 : decode cX10_addStation 9 = .ok (.istore_n 2, 1) := by decide +kernel
theorem dX10_addStation_10 : decode cX10_addStation 10 = .ok (.aload_n 0, 1) := by decide +kernel
theorem dX10_addStation_11 : decode cX10_addStation 11 = .ok (.iload_n 2, 1) := by decide +kernel
theorem dX10_addStation_12 : decode cX10_addStation 12 = .ok (.iload_n 2, 1) := by decide +kernel
theorem dX10_addStation_13 : decode cX10_addStation 13 = .ok (.ifCond .eq 24, 3) := by decide +kernel
theorem dX10_addStation_16 : decode cX10_addStation 16 = .ok (.aload_n 0, 1) := by decide +kernel
theorem dX10_addStation_17 : decode cX10_addStation 17 = .ok (.iload_n 1, 1) := by decide +kernel
theorem dX10_addStation_18 : decode cX10_addStation 18 = .ok (.invokevirtual 45, 3) := by decide +kernel
theorem dX10_addStation_21 : decode cX10_addStation 21 = .ok (.ifCond .ne 16, 3) := by decide +kernel
theorem dX10_addStation_24 : decode cX10_addStation 24 = .ok (.aload_n 0, 1) := by decide +kernel
theorem dX10_addStation_25 : decode cX10_addStation 25 = .ok (.invokevirtual 49, 3) := by decide +kernel
theorem dX10_addStation_28 : decode cX10_addStation 28 = .ok (.bipush 8, 2) := by decide +kernel
theorem dX10_addStation_30 : decode cX10_addStation 30 = .ok (.if_icmp .ge 7, 3) := by decide +kernel
theorem dX10_addStation_33 : decode cX10_addStation 33 = .ok (.iconst 1, 1) := by decide +kernel
theorem dX10_addStation_34 : decode cX10_addStation 34 = .ok (.goto 4, 3) := by decide +kernel
theorem dX10_addStation_37 : decode cX10_addStation 37 = .ok (.iconst 0, 1) := by decide +kernel
theorem dX10_addStation_38 : decode cX10_addStation 38 = .ok (.iconst 1, 1) := by decide +kernel
theorem dX10_addStation_39 : decode cX10_addStation 39 = .ok (.invokevirtual 53, 3) := by decide +kernel
theorem dX10_addStation_42 : decode cX10_addStation 42 = .ok (.ifCond .ne 5, 3) := by decide +kernel
theorem dX10_addStation_45 : decode cX10_addStation 45 = .ok (.iconst 0, 1) := by decide +kernel
theorem dX10_addStation_46 : decode cX10_addStation 46 = .ok (.ireturn, 1) := by decide +kernel
theorem dX10_addStation_47 : decode cX10_addStation 47 = .ok (.aload_n 0, 1) := by decide +kernel
theorem dX10_addStation_48 : decode cX10_addStation 48 = .ok (.invokevirtual 57, 3) := by decide +kernel
theorem dX10_addStation_51 : decode cX10_addStation 51 = .ok (.aload_n 0, 1) := by decide +kernel
theorem dX10_addStation_52 : decode cX10_addStation 52 = .ok (.iload_n 1, 1) := by decide +kernel
theorem dX10_addStation_53 : decode cX10_addStation 53 = .ok (.invokevirtual 60, 3) := by decide +kernel
theorem dX10_addStation_56 : decode cX10_addStation 56 = .ok (.aload_n 0, 1) := by decide +kernel
theorem dX10_addStation_57 : decode cX10_addStation 57 = .ok (.invokevirtual 49, 3) := by decide +kernel
theorem dX10_addStation_60 : decode cX10_addStation 60 = .ok (.ireturn, 1) := by decide +kernel
theorem dX10_setOn_0 : decode cX10_setOn 0 = .ok (.aload_n 0, 1) := by decide +kernel
theorem dX10_setOn_1 : decode cX10_setOn 1 = .ok (.aload_n 0, 1) := by decide +kernel
theorem dX10_setOn_2 : decode cX10_setOn 2 = .ok (.iload_n 1, 1) := by decide +kernel
theorem dX10_setOn_3 : decode cX10_setOn 3 = .ok (.invokevirtual 45, 3) := by decide +kernel
theorem dX10_setOn_6 : decode cX10_setOn 6 = .ok (.iconst 1, 1) := by decide +kernel
theorem dX10_setOn_7 : decode cX10_setOn 7 = .ok (.iconst 1, 1) := by decide +kernel
theorem dX10_setOn_8 : decode cX10_setOn 8 = .ok (.invokevirtual 53, 3) := by decide +kernel
theorem dX10_setOn_11 : decode cX10_setOn 11 = .ok (.ifCond .ne 5, 3) := by decide +kernel
theorem dX10_setOn_14 : decode cX10_setOn 14 = .ok (.iconst 0, 1) := by decide +kernel
theorem dX10_setOn_15 : decode cX10_setOn 15 = .ok (.ireturn, 1) := by decide +kernel
theorem dX10_setOn_16 : decode cX10_setOn 16 = .ok (.aload_n 0, 1) := by decide +kernel
theorem dX10_setOn_17 : decode cX10_setOn 17 = .ok (.invokevirtual 57, 3) := by decide +kernel
theorem dX10_setOn_20 : decode cX10_setOn 20 = .ok (.aload_n 0, 1) := by decide +kernel
theorem dX10_setOn_21 : decode cX10_setOn 21 = .ok (.iload_n 1, 1) := by decide +kernel
theorem dX10_setOn_22 : decode cX10_setOn 22 = .ok (.iconst 1, 1) := by decide +kernel
theorem dX10_setOn_23 : decode cX10_setOn 23 = .ok (.invokevirtual 39, 3) := by decide +kernel
theorem dX10_setOn_26 : decode cX10_setOn 26 = .ok (.iconst 1, 1) := by decide +kernel
theorem dX10_setOn_27 : decode cX10_setOn 27 = .ok (.if_icmp .ne 7, 3) := by decide +kernel
theorem dX10_setOn_30 : decode cX10_setOn 30 = .ok (.iconst 1, 1) := by decide +kernel
theorem dX10_setOn_31 : decode cX10_setOn 31 = .ok (.goto 4, 3) := by decide +kernel
theorem dX10_setOn_34 : decode cX10_setOn 34 = .ok (.iconst 0, 1) := by decide +kernel
theorem dX10_setOn_35 : decode cX10_setOn 35 = .ok (.istore_n 3, 1) := by decide +kernel
theorem dX10_setOn_36 : decode cX10_setOn 36 = .ok (.iload_n 3, 1) := by decide +kernel
theorem dX10_setOn_37 : decode cX10_setOn 37 = .ok (.ifCond .eq 55, 3) := by decide +kernel
theorem dX10_setOn_40 : decode cX10_setOn 40 = .ok (.iload_n 2, 1) := by decide +kernel
theorem dX10_setOn_41 : decode cX10_setOn 41 = .ok (.ifCond .ne 51, 3) := by decide +kernel
theorem dX10_setOn_44 : decode cX10_setOn 44 = .ok (.aload_n 0, 1) := by decide +kernel
theorem dX10_setOn_45 : decode cX10_setOn 45 = .ok (.getfield 7, 3) := by decide +kernel
theorem dX10_setOn_48 : decode cX10_setOn 48 = .ok (.iload_n 1, 1) := by decide +kernel
theorem dX10_setOn_49 : decode cX10_setOn 49 = .ok (.iconst 1, 1) := by decide +kernel
theorem dX10_setOn_50 : decode cX10_setOn 50 = .ok (.invokestatic 29, 3) := by decide +kernel
theorem dX10_setOn_53 : decode cX10_setOn 53 = .ok (.iconst 0, 1) := by decide +kernel
theorem dX10_setOn_54 : decode cX10_setOn 54 = .ok (.iastore, 1) := by decide +kernel
theorem dX10_setOn_55 : decode cX10_setOn 55 = .ok (.aload_n 0, 1) := by decide +kernel
theorem dX10_setOn_56 : decode cX10_setOn 56 = .ok (.getfield 7, 3) := by decide +kernel
theorem dX10_setOn_59 : decode cX10_setOn 59 = .ok (.iload_n 1, 1) := by decide +kernel
theorem dX10_setOn_60 : decode cX10_setOn 60 = .ok (.iconst 2, 1) := by decide +kernel
theorem dX10_setOn_61 : decode cX10_setOn 61 = .ok (.invokestatic 29, 3) := by decide +kernel
theorem dX10_setOn_64 : decode cX10_setOn 64 = .ok (.iconst 0, 1) := by decide +kernel
theorem dX10_setOn_65 : decode cX10_setOn 65 = .ok (.iastore, 1) := by decide +kernel
theorem dX10_setOn_66 : decode cX10_setOn 66 = .ok (.aload_n 0, 1) := by decide +kernel
theorem dX10_setOn_67 : decode cX10_setOn 67 = .ok (.getfield 7, 3) := by decide +kernel
theorem dX10_setOn_70 : decode cX10_setOn 70 = .ok (.iconst 4, 1) := by decide +kernel
theorem dX10_setOn_71 : decode cX10_setOn 71 = .ok (.aload_n 0, 1) := by decide +kernel
theorem dX10_setOn_72 : decode cX10_setOn 72 = .ok (.getfield 7, 3) := by decide +kernel
theorem dX10_setOn_75 : decode cX10_setOn 75 = .ok (.iconst 4, 1) := by decide +kernel
theorem dX10_setOn_76 : decode cX10_setOn 76 = .ok (.iaload, 1) := by decide +kernel
theorem dX10_setOn_77 : decode cX10_setOn 77 = .ok (.iload_n 1, 1) := by decide +kernel
theorem dX10_setOn_78 : decode cX10_setOn 78 = .ok (.if_icmp .ne 7, 3) := by decide +kernel
theorem dX10_setOn_81 : decode cX10_setOn 81 = .ok (.iconst (-1), 1) := by decide +kernel
theorem dX10_setOn_82 : decode cX10_setOn 82 = .ok (.goto 9, 3) := by decide +kernel
theorem dX10_setOn_85 : decode cX10_setOn 85 = .ok (.aload_n 0, 1) := by decide +kernel
theorem dX10_setOn_86 : decode cX10_setOn 86 = .ok (.getfield 7, 3) := by decide +kernel
theorem dX10_setOn_89 : decode cX10_setOn 89 = .ok (.iconst 4, 1) := by decide +kernel
theorem dX10_setOn_90 : decode cX10_setOn 90 = .ok (.iaload, 1) := by decide +kernel
theorem dX10_setOn_91 : decode cX10_setOn 91 = .ok (.iastore, 1) := by decide +kernel
theorem dX10_setOn_92 : decode cX10_setOn 92 = .ok (.iload_n 3, 1) := by decide +kernel
theorem dX10_setOn_93 : decode cX10_setOn 93 = .ok (.ifCond .ne 18, 3) := by decide +kernel
theorem dX10_setOn_96 : decode cX10_setOn 96 = .ok (.iload_n 2, 1) := by decide +kernel
theorem dX10_setOn_97 : decode cX10_setOn 97 = .ok (.ifCond .eq 14, 3) := by decide +kernel
theorem dX10_setOn_100 : decode cX10_setOn 100 = .ok (.aload_n 0, 1) := by decide +kernel
theorem dX10_setOn_101 : decode cX10_setOn 101 = .ok (.getfield 7, 3) := by decide +kernel
theorem dX10_setOn_104 : decode cX10_setOn 104 = .ok (.iload_n 1, 1) := by decide +kernel
theorem dX10_setOn_105 : decode cX10_setOn 105 = .ok (.iconst 1, 1) := by decide +kernel
theorem dX10_setOn_106 : decode cX10_setOn 106 = .ok (.invokestatic 29, 3) := by decide +kernel
theorem dX10_setOn_109 : decode cX10_setOn 109 = .ok (.iconst 1, 1) := by decide +kernel
theorem dX10_setOn_110 : decode cX10_setOn 110 = .ok (.iastore, 1) := by decide +kernel
theorem dX10_setOn_111 : decode cX10_setOn 111 = .ok (.iload_n 3, 1) := by decide +kernel
theorem dX10_setOn_112 : decode cX10_setOn 112 = .ok (.ireturn, 1) := by decide +kernel
theorem dX10_setTimes_0 : decode cX10_setTimes 0 = .ok (.aload_n 0, 1) := by decide +kernel
theorem dX10_setTimes_1 : decode cX10_setTimes 1 = .ok (.iload_n 1, 1) := by decide +kernel
theorem dX10_setTimes_2 : decode cX10_setTimes 2 = .ok (.i2l, 1) := by decide +kernel
theorem dX10_setTimes_3 : decode cX10_setTimes 3 = .ok (.lconst 1, 1) := by decide +kernel
theorem dX10_setTimes_4 : decode cX10_setTimes 4 = .ok (.ldc2_w 64, 3) := by decide +kernel
theorem dX10_setTimes_7 : decode cX10_setTimes 7 = .ok (.invokestatic 35, 3) := by decide +kernel
theorem dX10_setTimes_10 : decode cX10_setTimes 10 = .ok (.ifCond .eq 31, 3) := by decide +kernel
theorem dX10_setTimes_13 : decode cX10_setTimes 13 = .ok (.iload_n 2, 1) := by decide +kernel
theorem dX10_setTimes_14 : decode cX10_setTimes 14 = .ok (.i2l, 1) := by decide +kernel
theorem dX10_setTimes_15 : decode cX10_setTimes 15 = .ok (.lconst 1, 1) := by decide +kernel
theorem dX10_setTimes_16 : decode cX10_setTimes 16 = .ok (.ldc2_w 66, 3) := by decide +kernel
theorem dX10_setTimes_19 : decode cX10_setTimes 19 = .ok (.invokestatic 35, 3) := by decide +kernel
theorem dX10_setTimes_22 : decode cX10_setTimes 22 = .ok (.ifCond .eq 19, 3) := by decide +kernel
theorem dX10_setTimes_25 : decode cX10_setTimes 25 = .ok (.iload_n 3, 1) := by decide +kernel
theorem dX10_setTimes_26 : decode cX10_setTimes 26 = .ok (.i2l, 1) := by decide +kernel
theorem dX10_setTimes_27 : decode cX10_setTimes 27 = .ok (.lconst 1, 1) := by decide +kernel
theorem dX10_setTimes_28 : decode cX10_setTimes 28 = .ok (.ldc2_w 66, 3) := by decide +kernel
theorem dX10_setTimes_31 : decode cX10_setTimes 31 = .ok (.invokestatic 35, 3) := by decide +kernel
theorem dX10_setTimes_34 : decode cX10_setTimes 34 = .ok (.ifCond .eq 7, 3) := by decide +kernel
theorem dX10_setTimes_37 : decode cX10_setTimes 37 = .ok (.iconst 1, 1) := by decide +kernel
theorem dX10_setTimes_38 : decode cX10_setTimes 38 = .ok (.goto 4, 3) := by decide +kernel
theorem dX10_setTimes_41 : decode cX10_setTimes 41 = .ok (.iconst 0, 1) := by decide +kernel
theorem dX10_setTimes_42 : decode cX10_setTimes 42 = .ok (.iconst 1, 1) := by decide +kernel
theorem dX10_setTimes_43 : decode cX10_setTimes 43 = .ok (.iconst 1, 1) := by decide +kernel
theorem dX10_setTimes_44 : decode cX10_setTimes 44 = .ok (.invokevirtual 53, 3) := by decide +kernel
theorem dX10_setTimes_47 : decode cX10_setTimes 47 = .ok (.ifCond .ne 5, 3) := by decide +kernel
theorem dX10_setTimes_50 : decode cX10_setTimes 50 = .ok (.iconst 0, 1) := by decide +kernel
theorem dX10_setTimes_51 : decode cX10_setTimes 51 = .ok (.ireturn, 1) := by decide +kernel
theorem dX10_setTimes_52 : decode cX10_setTimes 52 = .ok (.aload_n 0, 1) := by decide +kernel
theorem dX10_setTimes_53 : decode cX10_setTimes 53 = .ok (.invokevirtual 57, 3) := by decide +kernel
theorem dX10_setTimes_56 : decode cX10_setTimes 56 = .ok (.aload_n 0, 1) := by decide +kernel
theorem dX10_setTimes_57 : decode cX10_setTimes 57 = .ok (.getfield 7, 3) := by decide +kernel
theorem dX10_setTimes_60 : decode cX10_setTimes 60 = .ok (.iconst 0, 1) := by decide +kernel
theorem dX10_setTimes_61 : decode cX10_setTimes 61 = .ok (.iaload, 1) := by decide +kernel
theorem dX10_setTimes_62 : decode cX10_setTimes 62 = .ok (.istore 4, 2) := by decide +kernel
theorem dX10_setTimes_64 : decode cX10_setTimes 64 = .ok (.aload_n 0, 1) := by decide +kernel
theorem dX10_setTimes_65 : decode cX10_setTimes 65 = .ok (.getfield 7, 3) := by decide +kernel
theorem dX10_setTimes_68 : decode cX10_setTimes 68 = .ok (.iconst 0, 1) := by decide +kernel
theorem dX10_setTimes_69 : decode cX10_setTimes 69 = .ok (.iload_n 1, 1) := by decide +kernel
theorem dX10_setTimes_70 : decode cX10_setTimes 70 = .ok (.iastore, 1) := by decide +kernel
theorem dX10_setTimes_71 : decode cX10_setTimes 71 = .ok (.aload_n 0, 1) := by decide +kernel
theorem dX10_setTimes_72 : decode cX10_setTimes 72 = .ok (.getfield 7, 3) := by decide +kernel
theorem dX10_setTimes_75 : decode cX10_setTimes 75 = .ok (.iconst 1, 1) := by decide +kernel
theorem dX10_setTimes_76 : decode cX10_setTimes 76 = .ok (.iload_n 2, 1) := by decide +kernel
theorem dX10_setTimes_77 : decode cX10_setTimes 77 = .ok (.iastore, 1) := by decide +kernel
theorem dX10_setTimes_78 : decode cX10_setTimes 78 = .ok (.aload_n 0, 1) := by decide +kernel
theorem dX10_setTimes_79 : decode cX10_setTimes 79 = .ok (.getfield 7, 3) := by decide +kernel
theorem dX10_setTimes_82 : decode cX10_setTimes 82 = .ok (.iconst 2, 1) := by decide +kernel
theorem dX10_setTimes_83 : decode cX10_setTimes 83 = .ok (.iload_n 3, 1) := by decide +kernel
theorem dX10_setTimes_84 : decode cX10_setTimes 84 = .ok (.iastore, 1) := by decide +kernel
theorem dX10_setTimes_85 : decode cX10_setTimes 85 = .ok (.iload 4, 2) := by decide +kernel
theorem dX10_setTimes_87 : decode cX10_setTimes 87 = .ok (.ireturn, 1) := by decide +kernel
theorem dX10_gives_0 : decode cX10_gives 0 = .ok (.aload_n 0, 1) := by decide +kernel
theorem dX10_gives_1 : decode cX10_gives 1 = .ok (.getfield 7, 3) := by decide +kernel
theorem dX10_gives_4 : decode cX10_gives 4 = .ok (.iconst 5, 1) := by decide +kernel
theorem dX10_gives_5 : decode cX10_gives 5 = .ok (.iaload, 1) := by decide +kernel
theorem dX10_gives_6 : decode cX10_gives 6 = .ok (.istore 4, 2) := by decide +kernel
theorem dX10_gives_8 : decode cX10_gives 8 = .ok (.aload_n 0, 1) := by decide +kernel
theorem dX10_gives_9 : decode cX10_gives 9 = .ok (.getfield 7, 3) := by decide +kernel
theorem dX10_gives_12 : decode cX10_gives 12 = .ok (.iload 4, 2) := by decide +kernel
theorem dX10_gives_14 : decode cX10_gives 14 = .ok (.iconst 0, 1) := by decide +kernel
theorem dX10_gives_15 : decode cX10_gives 15 = .ok (.invokestatic 42, 3) := by decide +kernel
theorem dX10_gives_18 : decode cX10_gives 18 = .ok (.iload_n 2, 1) := by decide +kernel
theorem dX10_gives_19 : decode cX10_gives 19 = .ok (.iastore, 1) := by decide +kernel
theorem dX10_gives_20 : decode cX10_gives 20 = .ok (.aload_n 0, 1) := by decide +kernel
theorem dX10_gives_21 : decode cX10_gives 21 = .ok (.getfield 7, 3) := by decide +kernel
theorem dX10_gives_24 : decode cX10_gives 24 = .ok (.iload 4, 2) := by decide +kernel
theorem dX10_gives_26 : decode cX10_gives 26 = .ok (.iconst 1, 1) := by decide +kernel
theorem dX10_gives_27 : decode cX10_gives 27 = .ok (.invokestatic 42, 3) := by decide +kernel
theorem dX10_gives_30 : decode cX10_gives 30 = .ok (.iload_n 3, 1) := by decide +kernel
theorem dX10_gives_31 : decode cX10_gives 31 = .ok (.iastore, 1) := by decide +kernel
theorem dX10_gives_32 : decode cX10_gives 32 = .ok (.aload_n 0, 1) := by decide +kernel
theorem dX10_gives_33 : decode cX10_gives 33 = .ok (.getfield 7, 3) := by decide +kernel
theorem dX10_gives_36 : decode cX10_gives 36 = .ok (.iload 4, 2) := by decide +kernel
theorem dX10_gives_38 : decode cX10_gives 38 = .ok (.iconst 2, 1) := by decide +kernel
theorem dX10_gives_39 : decode cX10_gives 39 = .ok (.invokestatic 42, 3) := by decide +kernel
theorem dX10_gives_42 : decode cX10_gives 42 = .ok (.iload_n 1, 1) := by decide +kernel
theorem dX10_gives_43 : decode cX10_gives 43 = .ok (.iastore, 1) := by decide +kernel
theorem dX10_gives_44 : decode cX10_gives 44 = .ok (.aload_n 0, 1) := by decide +kernel
theorem dX10_gives_45 : decode cX10_gives 45 = .ok (.getfield 7, 3) := by decide +kernel
theorem dX10_gives_48 : decode cX10_gives 48 = .ok (.iload 4, 2) := by decide +kernel
theorem dX10_gives_50 : decode cX10_gives 50 = .ok (.iconst 3, 1) := by decide +kernel
theorem dX10_gives_51 : decode cX10_gives 51 = .ok (.invokestatic 42, 3) := by decide +kernel
theorem dX10_gives_54 : decode cX10_gives 54 = .ok (.aload_n 0, 1) := by decide +kernel
theorem dX10_gives_55 : decode cX10_gives 55 = .ok (.getfield 7, 3) := by decide +kernel
theorem dX10_gives_58 : decode cX10_gives 58 = .ok (.iconst 3, 1) := by decide +kernel
theorem dX10_gives_59 : decode cX10_gives 59 = .ok (.iaload, 1) := by decide +kernel
theorem dX10_gives_60 : decode cX10_gives 60 = .ok (.iastore, 1) := by decide +kernel
theorem dX10_gives_61 : decode cX10_gives 61 = .ok (.aload_n 0, 1) := by decide +kernel
theorem dX10_gives_62 : decode cX10_gives 62 = .ok (.getfield 7, 3) := by decide +kernel
theorem dX10_gives_65 : decode cX10_gives 65 = .ok (.iload 4, 2) := by decide +kernel
theorem dX10_gives_67 : decode cX10_gives 67 = .ok (.iconst 4, 1) := by decide +kernel
theorem dX10_gives_68 : decode cX10_gives 68 = .ok (.invokestatic 42, 3) := by decide +kernel
theorem dX10_gives_71 : decode cX10_gives 71 = .ok (.iconst (-1), 1) := by decide +kernel
theorem dX10_gives_72 : decode cX10_gives 72 = .ok (.iastore, 1) := by decide +kernel
theorem dX10_gives_73 : decode cX10_gives 73 = .ok (.aload_n 0, 1) := by decide +kernel
theorem dX10_gives_74 : decode cX10_gives 74 = .ok (.getfield 7, 3) := by decide +kernel
theorem dX10_gives_77 : decode cX10_gives 77 = .ok (.iconst 5, 1) := by decide +kernel
theorem dX10_gives_78 : decode cX10_gives 78 = .ok (.dup2, 1) := by decide +kernel
theorem dX10_gives_79 : decode cX10_gives 79 = .ok (.iaload, 1) := by decide +kernel
theorem dX10_gives_80 : decode cX10_gives 80 = .ok (.iconst 1, 1) := by decide +kernel
theorem dX10_gives_81 : decode cX10_gives 81 = .ok (.iadd, 1) := by decide +kernel
theorem dX10_gives_82 : decode cX10_gives 82 = .ok (.iastore, 1) := by decide +kernel
theorem dX10_gives_83 : decode cX10_gives 83 = .ok (.iload 4, 2) := by decide +kernel
theorem dX10_gives_85 : decode cX10_gives 85 = .ok (.ireturn, 1) := by decide +kernel
theorem dX10_give_0 : decode cX10_give 0 = .ok (.aload_n 0, 1) := by decide +kernel
theorem dX10_give_1 : decode cX10_give 1 = .ok (.aload_n 0, 1) := by decide +kernel
theorem dX10_give_2 : decode cX10_give 2 = .ok (.iload_n 1, 1) := by decide +kernel
theorem dX10_give_3 : decode cX10_give 3 = .ok (.invokevirtual 45, 3) := by decide +kernel
theorem dX10_give_6 : decode cX10_give 6 = .ok (.iload_n 2, 1) := by decide +kernel
theorem dX10_give_7 : decode cX10_give 7 = .ok (.i2l, 1) := by decide +kernel
theorem dX10_give_8 : decode cX10_give 8 = .ok (.lconst 1, 1) := by decide +kernel
theorem dX10_give_9 : decode cX10_give 9 = .ok (.ldc2_w 66, 3) := by decide +kernel
theorem dX10_give_12 : decode cX10_give 12 = .ok (.invokestatic 35, 3) := by decide +kernel
theorem dX10_give_15 : decode cX10_give 15 = .ok (.ifCond .eq 19, 3) := by decide +kernel
theorem dX10_give_18 : decode cX10_give 18 = .ok (.iload_n 3, 1) := by decide +kernel
theorem dX10_give_19 : decode cX10_give 19 = .ok (.i2l, 1) := by decide +kernel
theorem dX10_give_20 : decode cX10_give 20 = .ok (.lconst 0, 1) := by decide +kernel
theorem dX10_give_21 : decode cX10_give 21 = .ok (.ldc2_w 68, 3) := by decide +kernel
theorem dX10_give_24 : decode cX10_give 24 = .ok (.invokestatic 35, 3) := by decide +kernel
theorem dX10_give_27 : decode cX10_give 27 = .ok (.ifCond .eq 7, 3) := by decide +kernel
theorem dX10_give_30 : decode cX10_give 30 = .ok (.iconst 1, 1) := by decide +kernel
theorem dX10_give_31 : decode cX10_give 31 = .ok (.goto 4, 3) := by decide +kernel
theorem dX10_give_34 : decode cX10_give 34 = .ok (.iconst 0, 1) := by decide +kernel
theorem dX10_give_35 : decode cX10_give 35 = .ok (.aload_n 0, 1) := by decide +kernel
theorem dX10_give_36 : decode cX10_give 36 = .ok (.getfield 7, 3) := by decide +kernel
theorem dX10_give_39 : decode cX10_give 39 = .ok (.iconst 5, 1) := by decide +kernel
theorem dX10_give_40 : decode cX10_give 40 = .ok (.iaload, 1) := by decide +kernel
theorem dX10_give_41 : decode cX10_give 41 = .ok (.bipush 100, 2) := by decide +kernel
theorem dX10_give_43 : decode cX10_give 43 = .ok (.if_icmp .ge 7, 3) := by decide +kernel
theorem dX10_give_46 : decode cX10_give 46 = .ok (.iconst 1, 1) := by decide +kernel
theorem dX10_give_47 : decode cX10_give 47 = .ok (.goto 4, 3) := by decide +kernel
theorem dX10_give_50 : decode cX10_give 50 = .ok (.iconst 0, 1) := by decide +kernel
theorem dX10_give_51 : decode cX10_give 51 = .ok (.invokevirtual 53, 3) := by decide +kernel
theorem dX10_give_54 : decode cX10_give 54 = .ok (.ifCond .ne 5, 3) := by decide +kernel
theorem dX10_give_57 : decode cX10_give 57 = .ok (.iconst 0, 1) := by decide +kernel
theorem dX10_give_58 : decode cX10_give 58 = .ok (.ireturn, 1) := by decide +kernel
theorem dX10_give_59 : decode cX10_give 59 = .ok (.aload_n 0, 1) := by decide +kernel
theorem dX10_give_60 : decode cX10_give 60 = .ok (.invokevirtual 57, 3) := by decide +kernel
theorem dX10_give_63 : decode cX10_give 63 = .ok (.aload_n 0, 1) := by decide +kernel
theorem dX10_give_64 : decode cX10_give 64 = .ok (.iload_n 1, 1) := by decide +kernel
theorem dX10_give_65 : decode cX10_give 65 = .ok (.iload_n 2, 1) := by decide +kernel
theorem dX10_give_66 : decode cX10_give 66 = .ok (.iload_n 3, 1) := by decide +kernel
theorem dX10_give_67 : decode cX10_give 67 = .ok (.invokevirtual 70, 3) := by decide +kernel
theorem dX10_give_70 : decode cX10_give 70 = .ok (.ireturn, 1) := by decide +kernel
theorem dX10_addNoise_0 : decode cX10_addNoise 0 = .ok (.aload_n 0, 1) := by decide +kernel
theorem dX10_addNoise_1 : decode cX10_addNoise 1 = .ok (.iload_n 1, 1) := by decide +kernel
theorem dX10_addNoise_2 : decode cX10_addNoise 2 = .ok (.i2l, 1) := by decide +kernel
theorem dX10_addNoise_3 : decode cX10_addNoise 3 = .ok (.lconst 0, 1) := by decide +kernel
theorem dX10_addNoise_4 : decode cX10_addNoise 4 = .ok (.iload_n 2, 1) := by decide +kernel
theorem dX10_addNoise_5 : decode cX10_addNoise 5 = .ok (.i2l, 1) := by decide +kernel
theorem dX10_addNoise_6 : decode cX10_addNoise 6 = .ok (.invokestatic 35, 3) := by decide +kernel
theorem dX10_addNoise_9 : decode cX10_addNoise 9 = .ok (.ifCond .eq 20, 3) := by decide +kernel
theorem dX10_addNoise_12 : decode cX10_addNoise 12 = .ok (.iload_n 2, 1) := by decide +kernel
theorem dX10_addNoise_13 : decode cX10_addNoise 13 = .ok (.i2l, 1) := by decide +kernel
theorem dX10_addNoise_14 : decode cX10_addNoise 14 = .ok (.iload_n 1, 1) := by decide +kernel
theorem dX10_addNoise_15 : decode cX10_addNoise 15 = .ok (.i2l, 1) := by decide +kernel
theorem dX10_addNoise_16 : decode cX10_addNoise 16 = .ok (.ldc2_w 74, 3) := by decide +kernel
theorem dX10_addNoise_19 : decode cX10_addNoise 19 = .ok (.invokestatic 35, 3) := by decide +kernel
theorem dX10_addNoise_22 : decode cX10_addNoise 22 = .ok (.ifCond .eq 7, 3) := by decide +kernel
theorem dX10_addNoise_25 : decode cX10_addNoise 25 = .ok (.iconst 1, 1) := by decide +kernel
theorem dX10_addNoise_26 : decode cX10_addNoise 26 = .ok (.goto 4, 3) := by decide +kernel
theorem dX10_addNoise_29 : decode cX10_addNoise 29 = .ok (.iconst 0, 1) := by decide +kernel
theorem dX10_addNoise_30 : decode cX10_addNoise 30 = .ok (.aload_n 0, 1) := by decide +kernel
theorem dX10_addNoise_31 : decode cX10_addNoise 31 = .ok (.getfield 7, 3) := by decide +kernel
theorem dX10_addNoise_34 : decode cX10_addNoise 34 = .ok (.bipush 6, 2) := by decide +kernel
theorem dX10_addNoise_36 : decode cX10_addNoise 36 = .ok (.iaload, 1) := by decide +kernel
theorem dX10_addNoise_37 : decode cX10_addNoise 37 = .ok (.bipush 20, 2) := by decide +kernel
theorem dX10_addNoise_39 : decode cX10_addNoise 39 = .ok (.if_icmp .ge 7, 3) := by decide +kernel
theorem dX10_addNoise_42 : decode cX10_addNoise 42 = .ok (.iconst 1, 1) := by decide +kernel
theorem dX10_addNoise_43 : decode cX10_addNoise 43 = .ok (.goto 4, 3) := by decide +kernel
theorem dX10_addNoise_46 : decode cX10_addNoise 46 = .ok (.iconst 0, 1) := by decide +kernel
theorem dX10_addNoise_47 : decode cX10_addNoise 47 = .ok (.iconst 1, 1) := by decide +kernel
theorem dX10_addNoise_48 : decode cX10_addNoise 48 = .ok (.invokevirtual 53, 3) := by decide +kernel
theorem dX10_addNoise_51 : decode cX10_addNoise 51 = .ok (.ifCond .ne 5, 3) := by decide +kernel
theorem dX10_addNoise_54 : decode cX10_addNoise 54 = .ok (.iconst 0, 1) := by decide +kernel
theorem dX10_addNoise_55 : decode cX10_addNoise 55 = .ok (.ireturn, 1) := by decide +kernel
theorem dX10_addNoise_56 : decode cX10_addNoise 56 = .ok (.aload_n 0, 1) := by decide +kernel
theorem dX10_addNoise_57 : decode cX10_addNoise 57 = .ok (.invokevirtual 57, 3) := by decide +kernel
theorem dX10_addNoise_60 : decode cX10_addNoise 60 = .ok (.aload_n 0, 1) := by decide +kernel
theorem dX10_addNoise_61 : decode cX10_addNoise 61 = .ok (.getfield 7, 3) := by decide +kernel
theorem dX10_addNoise_64 : decode cX10_addNoise 64 = .ok (.sipush 742, 3) := by decide +kernel
theorem dX10_addNoise_67 : decode cX10_addNoise 67 = .ok (.iconst 2, 1) := by decide +kernel
theorem dX10_addNoise_68 : decode cX10_addNoise 68 = .ok (.aload_n 0, 1) := by decide +kernel
theorem dX10_addNoise_69 : decode cX10_addNoise 69 = .ok (.getfield 7, 3) := by decide +kernel
theorem dX10_addNoise_72 : decode cX10_addNoise 72 = .ok (.bipush 6, 2) := by decide +kernel
theorem dX10_addNoise_74 : decode cX10_addNoise 74 = .ok (.iaload, 1) := by decide +kernel
theorem dX10_addNoise_75 : decode cX10_addNoise 75 = .ok (.imul, 1) := by decide +kernel
theorem dX10_addNoise_76 : decode cX10_addNoise 76 = .ok (.iadd, 1) := by decide +kernel
theorem dX10_addNoise_77 : decode cX10_addNoise 77 = .ok (.iload_n 1, 1) := by decide +kernel
theorem dX10_addNoise_78 : decode cX10_addNoise 78 = .ok (.iastore, 1) := by decide +kernel
theorem dX10_addNoise_79 : decode cX10_addNoise 79 = .ok (.aload_n 0, 1) := by decide +kernel
theorem dX10_addNoise_80 : decode cX10_addNoise 80 = .ok (.getfield 7, 3) := by decide +kernel
theorem dX10_addNoise_83 : decode cX10_addNoise 83 = .ok (.sipush 742, 3) := by decide +kernel
theorem dX10_addNoise_86 : decode cX10_addNoise 86 = .ok (.iconst 2, 1) := by decide +kernel
theorem dX10_addNoise_87 : decode cX10_addNoise 87 = .ok (.aload_n 0, 1) := by decide +kernel
theorem dX10_addNoise_88 : decode cX10_addNoise 88 = .ok (.getfield 7, 3) := by decide +kernel
theorem dX10_addNoise_91 : decode cX10_addNoise 91 = .ok (.bipush 6, 2) := by decide +kernel
theorem dX10_addNoise_93 : decode cX10_addNoise 93 = .ok (.iaload, 1) := by decide +kernel
theorem dX10_addNoise_94 : decode cX10_addNoise 94 = .ok (.imul, 1) := by decide +kernel
theorem dX10_addNoise_95 : decode cX10_addNoise 95 = .ok (.iadd, 1) := by decide +kernel
theorem dX10_addNoise_96 : decode cX10_addNoise 96 = .ok (.iconst 1, 1) := by decide +kernel
theorem dX10_addNoise_97 : decode cX10_addNoise 97 = .ok (.iadd, 1) := by decide +kernel
theorem dX10_addNoise_98 : decode cX10_addNoise 98 = .ok (.iload_n 2, 1) := by decide +kernel
theorem dX10_addNoise_99 : decode cX10_addNoise 99 = .ok (.iastore, 1) := by decide +kernel
theorem dX10_addNoise_100 : decode cX10_addNoise 100 = .ok (.aload_n 0, 1) := by decide +kernel
theorem dX10_addNoise_101 : decode cX10_addNoise 101 = .ok (.getfield 7, 3) := by decide +kernel
theorem dX10_addNoise_104 : decode cX10_addNoise 104 = .ok (.bipush 6, 2) := by decide +kernel
theorem dX10_addNoise_106 : decode cX10_addNoise 106 = .ok (.dup2, 1) := by decide +kernel
theorem dX10_addNoise_107 : decode cX10_addNoise 107 = .ok (.iaload, 1) := by decide +kernel
theorem dX10_addNoise_108 : decode cX10_addNoise 108 = .ok (.iconst 1, 1) := by decide +kernel
theorem dX10_addNoise_109 : decode cX10_addNoise 109 = .ok (.iadd, 1) := by decide +kernel
theorem dX10_addNoise_110 : decode cX10_addNoise 110 = .ok (.iastore, 1) := by decide +kernel
theorem dX10_addNoise_111 : decode cX10_addNoise 111 = .ok (.aload_n 0, 1) := by decide +kernel
theorem dX10_addNoise_112 : decode cX10_addNoise 112 = .ok (.getfield 7, 3) := by decide +kernel
theorem dX10_addNoise_115 : decode cX10_addNoise 115 = .ok (.bipush 6, 2) := by decide +kernel
theorem dX10_addNoise_117 : decode cX10_addNoise 117 = .ok (.iaload, 1) := by decide +kernel
theorem dX10_addNoise_118 : decode cX10_addNoise 118 = .ok (.ireturn, 1) := by decide +kernel
theorem dX10_isLoud_0 : decode cX10_isLoud 0 = .ok (.iconst 0, 1) := by decide +kernel
theorem dX10_isLoud_1 : decode cX10_isLoud 1 = .ok (.istore_n 3, 1) := by decide +kernel
theorem dX10_isLoud_2 : decode cX10_isLoud 2 = .ok (.iconst 0, 1) := by decide +kernel
theorem dX10_isLoud_3 : decode cX10_isLoud 3 = .ok (.istore 4, 2) := by decide +kernel
theorem dX10_isLoud_5 : decode cX10_isLoud 5 = .ok (.iload 4, 2) := by decide +kernel
theorem dX10_isLoud_7 : decode cX10_isLoud 7 = .ok (.aload_n 0, 1) := by decide +kernel
theorem dX10_isLoud_8 : decode cX10_isLoud 8 = .ok (.getfield 7, 3) := by decide +kernel
theorem dX10_isLoud_11 : decode cX10_isLoud 11 = .ok (.bipush 6, 2) := by decide +kernel
theorem dX10_isLoud_13 : decode cX10_isLoud 13 = .ok (.iaload, 1) := by decide +kernel
theorem dX10_isLoud_14 : decode cX10_isLoud 14 = .ok (.if_icmp .ge 55, 3) := by decide +kernel
theorem dX10_isLoud_17 : decode cX10_isLoud 17 = .ok (.iload_n 3, 1) := by decide +kernel
theorem dX10_isLoud_18 : decode cX10_isLoud 18 = .ok (.ifCond .ne 39, 3) := by decide +kernel
theorem dX10_isLoud_21 : decode cX10_isLoud 21 = .ok (.aload_n 0, 1) := by decide +kernel
theorem dX10_isLoud_22 : decode cX10_isLoud 22 = .ok (.getfield 7, 3) := by decide +kernel
theorem dX10_isLoud_25 : decode cX10_isLoud 25 = .ok (.sipush 742, 3) := by decide +kernel
theorem dX10_isLoud_28 : decode cX10_isLoud 28 = .ok (.iconst 2, 1) := by decide +kernel
theorem dX10_isLoud_29 : decode cX10_isLoud 29 = .ok (.iload 4, 2) := by decide +kernel
theorem dX10_isLoud_31 : decode cX10_isLoud 31 = .ok (.imul, 1) := by decide +kernel
theorem dX10_isLoud_32 : decode cX10_isLoud 32 = .ok (.iadd, 1) := by decide +kernel
theorem dX10_isLoud_33 : decode cX10_isLoud 33 = .ok (.iaload, 1) := by decide +kernel
theorem dX10_isLoud_34 : decode cX10_isLoud 34 = .ok (.iload_n 2, 1) := by decide +kernel
theorem dX10_isLoud_35 : decode cX10_isLoud 35 = .ok (.if_icmp .gt 26, 3) := by decide +kernel
theorem dX10_isLoud_38 : decode cX10_isLoud 38 = .ok (.aload_n 0, 1) := by decide +kernel
theorem dX10_isLoud_39 : decode cX10_isLoud 39 = .ok (.getfield 7, 3) := by decide +kernel
theorem dX10_isLoud_42 : decode cX10_isLoud 42 = .ok (.sipush 742, 3) := by decide +kernel
theorem dX10_isLoud_45 : decode cX10_isLoud 45 = .ok (.iconst 2, 1) := by decide +kernel
theorem dX10_isLoud_46 : decode cX10_isLoud 46 = .ok (.iload 4, 2) := by decide +kernel
theorem dX10_isLoud_48 : decode cX10_isLoud 48 = .ok (.imul, 1) := by decide +kernel
theorem dX10_isLoud_49 : decode cX10_isLoud 49 = .ok (.iadd, 1) := by decide +kernel
theorem dX10_isLoud_50 : decode cX10_isLoud 50 = .ok (.iconst 1, 1) := by decide +kernel
theorem dX10_isLoud_51 : decode cX10_isLoud 51 = .ok (.iadd, 1) := by decide +kernel
theorem dX10_isLoud_52 : decode cX10_isLoud 52 = .ok (.iaload, 1) := by decide +kernel
theorem dX10_isLoud_53 : decode cX10_isLoud 53 = .ok (.iload_n 1, 1) := by decide +kernel
theorem dX10_isLoud_54 : decode cX10_isLoud 54 = .ok (.if_icmp .lt 7, 3) := by decide +kernel
theorem dX10_isLoud_57 : decode cX10_isLoud 57 = .ok (.iconst 1, 1) := by decide +kernel
theorem dX10_isLoud_58 : decode cX10_isLoud 58 = .ok (.goto 4, 3) := by decide +kernel
theorem dX10_isLoud_61 : decode cX10_isLoud 61 = .ok (.iconst 0, 1) := by decide +kernel
theorem dX10_isLoud_62 : decode cX10_isLoud 62 = .ok (.istore_n 3, 1) := by decide +kernel
theorem dX10_isLoud_63 : decode cX10_isLoud 63 = .ok (.iinc 4 1, 3) := by decide +kernel
theorem dX10_isLoud_66 : decode cX10_isLoud 66 = .ok (.goto (-61), 3) := by decide +kernel
theorem dX10_isLoud_69 : decode cX10_isLoud 69 = .ok (.iload_n 3, 1) := by decide +kernel
theorem dX10_isLoud_70 : decode cX10_isLoud 70 = .ok (.ireturn, 1) := by decide +kernel
theorem dX10_takes_0 : decode cX10_takes 0 = .ok (.aload_n 0, 1) := by decide +kernel
theorem dX10_takes_1 : decode cX10_takes 1 = .ok (.aload_n 0, 1) := by decide +kernel
theorem dX10_takes_2 : decode cX10_takes 2 = .ok (.getfield 7, 3) := by decide +kernel
theorem dX10_takes_5 : decode cX10_takes 5 = .ok (.iconst 3, 1) := by decide +kernel
theorem dX10_takes_6 : decode cX10_takes 6 = .ok (.iaload, 1) := by decide +kernel
theorem dX10_takes_7 : decode cX10_takes 7 = .ok (.aload_n 0, 1) := by decide +kernel
theorem dX10_takes_8 : decode cX10_takes 8 = .ok (.getfield 7, 3) := by decide +kernel
theorem dX10_takes_11 : decode cX10_takes 11 = .ok (.iconst 3, 1) := by decide +kernel
theorem dX10_takes_12 : decode cX10_takes 12 = .ok (.iaload, 1) := by decide +kernel
theorem dX10_takes_13 : decode cX10_takes 13 = .ok (.iload_n 1, 1) := by decide +kernel
theorem dX10_takes_14 : decode cX10_takes 14 = .ok (.iadd, 1) := by decide +kernel
theorem dX10_takes_15 : decode cX10_takes 15 = .ok (.iconst 1, 1) := by decide +kernel
theorem dX10_takes_16 : decode cX10_takes 16 = .ok (.isub, 1) := by decide +kernel
theorem dX10_takes_17 : decode cX10_takes 17 = .ok (.invokevirtual 76, 3) := by decide +kernel
theorem dX10_takes_20 : decode cX10_takes 20 = .ok (.istore_n 2, 1) := by decide +kernel
theorem dX10_takes_21 : decode cX10_takes 21 = .ok (.aload_n 0, 1) := by decide +kernel
theorem dX10_takes_22 : decode cX10_takes 22 = .ok (.getfield 7, 3) := by decide +kernel
theorem dX10_takes_25 : decode cX10_takes 25 = .ok (.iconst 3, 1) := by decide +kernel
theorem dX10_takes_26 : decode cX10_takes 26 = .ok (.dup2, 1) := by decide +kernel
theorem dX10_takes_27 : decode cX10_takes 27 = .ok (.iaload, 1) := by decide +kernel
theorem dX10_takes_28 : decode cX10_takes 28 = .ok (.iload_n 1, 1) := by decide +kernel
theorem dX10_takes_29 : decode cX10_takes 29 = .ok (.iadd, 1) := by decide +kernel
theorem dX10_takes_30 : decode cX10_takes 30 = .ok (.iastore, 1) := by decide +kernel
theorem dX10_takes_31 : decode cX10_takes 31 = .ok (.aload_n 0, 1) := by decide +kernel
theorem dX10_takes_32 : decode cX10_takes 32 = .ok (.getfield 7, 3) := by decide +kernel
theorem dX10_takes_35 : decode cX10_takes 35 = .ok (.bipush 11, 2) := by decide +kernel
theorem dX10_takes_37 : decode cX10_takes 37 = .ok (.dup2, 1) := by decide +kernel
theorem dX10_takes_38 : decode cX10_takes 38 = .ok (.iaload, 1) := by decide +kernel
theorem dX10_takes_39 : decode cX10_takes 39 = .ok (.iload_n 2, 1) := by decide +kernel
theorem dX10_takes_40 : decode cX10_takes 40 = .ok (.ifCond .eq 7, 3) := by decide +kernel
theorem dX10_takes_43 : decode cX10_takes 43 = .ok (.iconst 1, 1) := by decide +kernel
theorem dX10_takes_44 : decode cX10_takes 44 = .ok (.goto 4, 3) := by decide +kernel
theorem dX10_takes_47 : decode cX10_takes 47 = .ok (.iconst 0, 1) := by decide +kernel
theorem dX10_takes_48 : decode cX10_takes 48 = .ok (.iadd, 1) := by decide +kernel
theorem dX10_takes_49 : decode cX10_takes 49 = .ok (.iastore, 1) := by decide +kernel
theorem dX10_takes_50 : decode cX10_takes 50 = .ok (.iload_n 2, 1) := by decide +kernel
theorem dX10_takes_51 : decode cX10_takes 51 = .ok (.ireturn, 1) := by decide +kernel
theorem dX10_nextOf_0 : decode cX10_nextOf 0 = .ok (.iconst (-1), 1) := by decide +kernel
theorem dX10_nextOf_1 : decode cX10_nextOf 1 = .ok (.istore_n 3, 1) := by decide +kernel
theorem dX10_nextOf_2 : decode cX10_nextOf 2 = .ok (.iconst 0, 1) := by decide +kernel
theorem dX10_nextOf_3 : decode cX10_nextOf 3 = .ok (.istore 4, 2) := by decide +kernel
theorem dX10_nextOf_5 : decode cX10_nextOf 5 = .ok (.iload 4, 2) := by decide +kernel
theorem dX10_nextOf_7 : decode cX10_nextOf 7 = .ok (.aload_n 0, 1) := by decide +kernel
theorem dX10_nextOf_8 : decode cX10_nextOf 8 = .ok (.getfield 7, 3) := by decide +kernel
theorem dX10_nextOf_11 : decode cX10_nextOf 11 = .ok (.iconst 5, 1) := by decide +kernel
theorem dX10_nextOf_12 : decode cX10_nextOf 12 = .ok (.iaload, 1) := by decide +kernel
theorem dX10_nextOf_13 : decode cX10_nextOf 13 = .ok (.if_icmp .ge 126, 3) := by decide +kernel
theorem dX10_nextOf_16 : decode cX10_nextOf 16 = .ok (.aload_n 0, 1) := by decide +kernel
theorem dX10_nextOf_17 : decode cX10_nextOf 17 = .ok (.iload 4, 2) := by decide +kernel
theorem dX10_nextOf_19 : decode cX10_nextOf 19 = .ok (.iconst 2, 1) := by decide +kernel
theorem dX10_nextOf_20 : decode cX10_nextOf 20 = .ok (.invokevirtual 80, 3) := by decide +kernel
theorem dX10_nextOf_23 : decode cX10_nextOf 23 = .ok (.iload_n 1, 1) := by decide +kernel
theorem dX10_nextOf_24 : decode cX10_nextOf 24 = .ok (.if_icmp .ne 18, 3) := by decide +kernel
theorem dX10_nextOf_27 : decode cX10_nextOf 27 = .ok (.aload_n 0, 1) := by decide +kernel
theorem dX10_nextOf_28 : decode cX10_nextOf 28 = .ok (.iload 4, 2) := by decide +kernel
theorem dX10_nextOf_30 : decode cX10_nextOf 30 = .ok (.iconst 4, 1) := by decide +kernel
theorem dX10_nextOf_31 : decode cX10_nextOf 31 = .ok (.invokevirtual 80, 3) := by decide +kernel
theorem dX10_nextOf_34 : decode cX10_nextOf 34 = .ok (.iconst (-1), 1) := by decide +kernel
theorem dX10_nextOf_35 : decode cX10_nextOf 35 = .ok (.if_icmp .ne 7, 3) := by decide +kernel
theorem dX10_nextOf_38 : decode cX10_nextOf 38 = .ok (.iconst 1, 1) := by decide +kernel
theorem dX10_nextOf_39 : decode cX10_nextOf 39 = .ok (.goto 4, 3) := by decide +kernel
theorem dX10_nextOf_42 : decode cX10_nextOf 42 = .ok (.iconst 0, 1) := by decide +kernel
theorem dX10_nextOf_43 : decode cX10_nextOf 43 = .ok (.istore 5, 2) := by decide +kernel
theorem dX10_nextOf_45 : decode cX10_nextOf 45 = .ok (.iload_n 2, 1) := by decide +kernel
theorem dX10_nextOf_46 : decode cX10_nextOf 46 = .ok (.iconst (-1), 1) := by decide +kernel
theorem dX10_nextOf_47 : decode cX10_nextOf 47 = .ok (.if_icmp .eq 41, 3) := by decide +kernel
theorem dX10_nextOf_50 : decode cX10_nextOf 50 = .ok (.aload_n 0, 1) := by decide +kernel
theorem dX10_nextOf_51 : decode cX10_nextOf 51 = .ok (.iload 4, 2) := by decide +kernel
theorem dX10_nextOf_53 : decode cX10_nextOf 53 = .ok (.iconst 1, 1) := by decide +kernel
theorem dX10_nextOf_54 : decode cX10_nextOf 54 = .ok (.invokevirtual 80, 3) := by decide +kernel
theorem dX10_nextOf_57 : decode cX10_nextOf 57 = .ok (.aload_n 0, 1) := by decide +kernel
theorem dX10_nextOf_58 : decode cX10_nextOf 58 = .ok (.iload_n 2, 1) := by decide +kernel
theorem dX10_nextOf_59 : decode cX10_nextOf 59 = .ok (.iconst 1, 1) := by decide +kernel
theorem dX10_nextOf_60 : decode cX10_nextOf 60 = .ok (.invokevirtual 80, 3) := by decide +kernel
theorem dX10_nextOf_63 : decode cX10_nextOf 63 = .ok (.if_icmp .lt 25, 3) := by decide +kernel
theorem dX10_nextOf_66 : decode cX10_nextOf 66 = .ok (.aload_n 0, 1) := by decide +kernel
theorem dX10_nextOf_67 : decode cX10_nextOf 67 = .ok (.iload 4, 2) := by decide +kernel
theorem dX10_nextOf_69 : decode cX10_nextOf 69 = .ok (.iconst 1, 1) := by decide +kernel
theorem dX10_nextOf_70 : decode cX10_nextOf 70 = .ok (.invokevirtual 80, 3) := by decide +kernel
theorem dX10_nextOf_73 : decode cX10_nextOf 73 = .ok (.aload_n 0, 1) := by decide +kernel
theorem dX10_nextOf_74 : decode cX10_nextOf 74 = .ok (.iload_n 2, 1) := by decide +kernel
theorem dX10_nextOf_75 : decode cX10_nextOf 75 = .ok (.iconst 1, 1) := by decide +kernel
theorem dX10_nextOf_76 : decode cX10_nextOf 76 = .ok (.invokevirtual 80, 3) := by decide +kernel
theorem dX10_nextOf_79 : decode cX10_nextOf 79 = .ok (.if_icmp .ne 13, 3) := by decide +kernel
theorem dX10_nextOf_82 : decode cX10_nextOf 82 = .ok (.iload 4, 2) := by decide +kernel
theorem dX10_nextOf_84 : decode cX10_nextOf 84 = .ok (.iload_n 2, 1) := by decide +kernel
theorem dX10_nextOf_85 : decode cX10_nextOf 85 = .ok (.if_icmp .le 7, 3) := by decide +kernel
theorem dX10_nextOf_88 : decode cX10_nextOf 88 = .ok (.iconst 1, 1) := by decide +kernel
theorem dX10_nextOf_89 : decode cX10_nextOf 89 = .ok (.goto 4, 3) := by decide +kernel
theorem dX10_nextOf_92 : decode cX10_nextOf 92 = .ok (.iconst 0, 1) := by decide +kernel
theorem dX10_nextOf_93 : decode cX10_nextOf 93 = .ok (.istore 6, 2) := by decide +kernel
theorem dX10_nextOf_95 : decode cX10_nextOf 95 = .ok (.iload 5, 2) := by decide +kernel
theorem dX10_nextOf_97 : decode cX10_nextOf 97 = .ok (.ifCond .eq 34, 3) := by decide +kernel
theorem dX10_nextOf_100 : decode cX10_nextOf 100 = .ok (.iload 6, 2) := by decide +kernel
theorem dX10_nextOf_102 : decode cX10_nextOf 102 = .ok (.ifCond .eq 29, 3) := by decide +kernel
theorem dX10_nextOf_105 : decode cX10_nextOf 105 = .ok (.iload_n 3, 1) := by decide +kernel
theorem dX10_nextOf_106 : decode cX10_nextOf 106 = .ok (.iconst (-1), 1) := by decide +kernel
theorem dX10_nextOf_107 : decode cX10_nextOf 107 = .ok (.if_icmp .eq 19, 3) := by decide +kernel
theorem dX10_nextOf_110 : decode cX10_nextOf 110 = .ok (.aload_n 0, 1) := by decide +kernel
theorem dX10_nextOf_111 : decode cX10_nextOf 111 = .ok (.iload 4, 2) := by decide +kernel
theorem dX10_nextOf_113 : decode cX10_nextOf 113 = .ok (.iconst 1, 1) := by decide +kernel
theorem dX10_nextOf_114 : decode cX10_nextOf 114 = .ok (.invokevirtual 80, 3) := by decide +kernel
theorem dX10_nextOf_117 : decode cX10_nextOf 117 = .ok (.aload_n 0, 1) := by decide +kernel
theorem dX10_nextOf_118 : decode cX10_nextOf 118 = .ok (.iload_n 3, 1) := by decide +kernel
theorem dX10_nextOf_119 : decode cX10_nextOf 119 = .ok (.iconst 1, 1) := by decide +kernel
theorem dX10_nextOf_120 : decode cX10_nextOf 120 = .ok (.invokevirtual 80, 3) := by decide +kernel
theorem dX10_nextOf_123 : decode cX10_nextOf 123 = .ok (.if_icmp .le 8, 3) := by decide +kernel
theorem dX10_nextOf_126 : decode cX10_nextOf 126 = .ok (.iload 4, 2) := by decide +kernel
theorem dX10_nextOf_128 : decode cX10_nextOf 128 = .ok (.goto 4, 3) := by decide +kernel
theorem dX10_nextOf_131 : decode cX10_nextOf 131 = .ok (.iload_n 3, 1) := by decide +kernel
theorem dX10_nextOf_132 : decode cX10_nextOf 132 = .ok (.istore_n 3, 1) := by decide +kernel
theorem dX10_nextOf_133 : decode cX10_nextOf 133 = .ok (.iinc 4 1, 3) := by decide +kernel
theorem dX10_nextOf_136 : decode cX10_nextOf 136 = .ok (.goto (-131), 3) := by decide +kernel
theorem dX10_nextOf_139 : decode cX10_nextOf 139 = .ok (.iload_n 3, 1) := by decide +kernel
theorem dX10_nextOf_140 : decode cX10_nextOf 140 = .ok (.ireturn, 1) := by decide +kernel
theorem dX10_makesToken_0 : decode cX10_makesToken 0 = .ok (.iconst (-1), 1) := by decide +kernel
theorem dX10_makesToken_1 : decode cX10_makesToken 1 = .ok (.istore_n 1, 1) := by decide +kernel
theorem dX10_makesToken_2 : decode cX10_makesToken 2 = .ok (.bipush 31, 2) := by decide +kernel
theorem dX10_makesToken_4 : decode cX10_makesToken 4 = .ok (.istore_n 2, 1) := by decide +kernel
theorem dX10_makesToken_5 : decode cX10_makesToken 5 = .ok (.iload_n 2, 1) := by decide +kernel
theorem dX10_makesToken_6 : decode cX10_makesToken 6 = .ok (.ifCond .lt 35, 3) := by decide +kernel
theorem dX10_makesToken_9 : decode cX10_makesToken 9 = .ok (.aload_n 0, 1) := by decide +kernel
theorem dX10_makesToken_10 : decode cX10_makesToken 10 = .ok (.iload_n 2, 1) := by decide +kernel
theorem dX10_makesToken_11 : decode cX10_makesToken 11 = .ok (.iconst 0, 1) := by decide +kernel
theorem dX10_makesToken_12 : decode cX10_makesToken 12 = .ok (.invokevirtual 39, 3) := by decide +kernel
theorem dX10_makesToken_15 : decode cX10_makesToken 15 = .ok (.iconst 1, 1) := by decide +kernel
theorem dX10_makesToken_16 : decode cX10_makesToken 16 = .ok (.if_icmp .ne 17, 3) := by decide +kernel
theorem dX10_makesToken_19 : decode cX10_makesToken 19 = .ok (.aload_n 0, 1) := by decide +kernel
theorem dX10_makesToken_20 : decode cX10_makesToken 20 = .ok (.iload_n 2, 1) := by decide +kernel
theorem dX10_makesToken_21 : decode cX10_makesToken 21 = .ok (.iconst 1, 1) := by decide +kernel
theorem dX10_makesToken_22 : decode cX10_makesToken 22 = .ok (.invokevirtual 39, 3) := by decide +kernel
theorem dX10_makesToken_25 : decode cX10_makesToken 25 = .ok (.iconst 1, 1) := by decide +kernel
theorem dX10_makesToken_26 : decode cX10_makesToken 26 = .ok (.if_icmp .ne 7, 3) := by decide +kernel
theorem dX10_makesToken_29 : decode cX10_makesToken 29 = .ok (.iload_n 2, 1) := by decide +kernel
theorem dX10_makesToken_30 : decode cX10_makesToken 30 = .ok (.goto 4, 3) := by decide +kernel
theorem dX10_makesToken_33 : decode cX10_makesToken 33 = .ok (.iload_n 1, 1) := by decide +kernel
theorem dX10_makesToken_34 : decode cX10_makesToken 34 = .ok (.istore_n 1, 1) := by decide +kernel
theorem dX10_makesToken_35 : decode cX10_makesToken 35 = .ok (.iinc 2 (-1), 3) := by decide +kernel
theorem dX10_makesToken_38 : decode cX10_makesToken 38 = .ok (.goto (-33), 3) := by decide +kernel
theorem dX10_makesToken_41 : decode cX10_makesToken 41 = .ok (.bipush 31, 2) := by decide +kernel
theorem dX10_makesToken_43 : decode cX10_makesToken 43 = .ok (.istore_n 2, 1) := by decide +kernel
theorem dX10_makesToken_44 : decode cX10_makesToken 44 = .ok (.iload_n 2, 1) := by decide +kernel
theorem dX10_makesToken_45 : decode cX10_makesToken 45 = .ok (.ifCond .lt 23, 3) := by decide +kernel
theorem dX10_makesToken_48 : decode cX10_makesToken 48 = .ok (.aload_n 0, 1) := by decide +kernel
theorem dX10_makesToken_49 : decode cX10_makesToken 49 = .ok (.iload_n 2, 1) := by decide +kernel
theorem dX10_makesToken_50 : decode cX10_makesToken 50 = .ok (.invokevirtual 83, 3) := by decide +kernel
theorem dX10_makesToken_53 : decode cX10_makesToken 53 = .ok (.ifCond .eq 7, 3) := by decide +kernel
theorem dX10_makesToken_56 : decode cX10_makesToken 56 = .ok (.iload_n 2, 1) := by decide +kernel
theorem dX10_makesToken_57 : decode cX10_makesToken 57 = .ok (.goto 4, 3) := by decide +kernel
theorem dX10_makesToken_60 : decode cX10_makesToken 60 = .ok (.iload_n 1, 1) := by decide +kernel
theorem dX10_makesToken_61 : decode cX10_makesToken 61 = .ok (.istore_n 1, 1) := by decide +kernel
theorem dX10_makesToken_62 : decode cX10_makesToken 62 = .ok (.iinc 2 (-1), 3) := by decide +kernel
theorem dX10_makesToken_65 : decode cX10_makesToken 65 = .ok (.goto (-21), 3) := by decide +kernel
theorem dX10_makesToken_68 : decode cX10_makesToken 68 = .ok (.iload_n 1, 1) := by decide +kernel
theorem dX10_makesToken_69 : decode cX10_makesToken 69 = .ok (.iconst (-1), 1) := by decide +kernel
theorem dX10_makesToken_70 : decode cX10_makesToken 70 = .ok (.if_icmp .ne 5, 3) := by decide +kernel
theorem dX10_makesToken_73 : decode cX10_makesToken 73 = .ok (.iconst 0, 1) := by decide +kernel
theorem dX10_makesToken_74 : decode cX10_makesToken 74 = .ok (.ireturn, 1) := by decide +kernel
theorem dX10_makesToken_75 : decode cX10_makesToken 75 = .ok (.aload_n 0, 1) := by decide +kernel
theorem dX10_makesToken_76 : decode cX10_makesToken 76 = .ok (.getfield 7, 3) := by decide +kernel
theorem dX10_makesToken_79 : decode cX10_makesToken 79 = .ok (.iconst 3, 1) := by decide +kernel
theorem dX10_makesToken_80 : decode cX10_makesToken 80 = .ok (.dup2, 1) := by decide +kernel
theorem dX10_makesToken_81 : decode cX10_makesToken 81 = .ok (.iaload, 1) := by decide +kernel
theorem dX10_makesToken_82 : decode cX10_makesToken 82 = .ok (.aload_n 0, 1) := by decide +kernel
theorem dX10_makesToken_83 : decode cX10_makesToken 83 = .ok (.getfield 7, 3) := by decide +kernel
theorem dX10_makesToken_86 : decode cX10_makesToken 86 = .ok (.iconst 1, 1) := by decide +kernel
theorem dX10_makesToken_87 : decode cX10_makesToken 87 = .ok (.iaload, 1) := by decide +kernel
theorem dX10_makesToken_88 : decode cX10_makesToken 88 = .ok (.bipush 6, 2) := by decide +kernel
theorem dX10_makesToken_90 : decode cX10_makesToken 90 = .ok (.iconst 2, 1) := by decide +kernel
theorem dX10_makesToken_91 : decode cX10_makesToken 91 = .ok (.iload_n 1, 1) := by decide +kernel
theorem dX10_makesToken_92 : decode cX10_makesToken 92 = .ok (.imul, 1) := by decide +kernel
theorem dX10_makesToken_93 : decode cX10_makesToken 93 = .ok (.iadd, 1) := by decide +kernel
theorem dX10_makesToken_94 : decode cX10_makesToken 94 = .ok (.imul, 1) := by decide +kernel
theorem dX10_makesToken_95 : decode cX10_makesToken 95 = .ok (.iadd, 1) := by decide +kernel
theorem dX10_makesToken_96 : decode cX10_makesToken 96 = .ok (.iastore, 1) := by decide +kernel
theorem dX10_makesToken_97 : decode cX10_makesToken 97 = .ok (.aload_n 0, 1) := by decide +kernel
theorem dX10_makesToken_98 : decode cX10_makesToken 98 = .ok (.iload_n 1, 1) := by decide +kernel
theorem dX10_makesToken_99 : decode cX10_makesToken 99 = .ok (.invokevirtual 83, 3) := by decide +kernel
theorem dX10_makesToken_102 : decode cX10_makesToken 102 = .ok (.ifCond .ne 25, 3) := by decide +kernel
theorem dX10_makesToken_105 : decode cX10_makesToken 105 = .ok (.aload_n 0, 1) := by decide +kernel
theorem dX10_makesToken_106 : decode cX10_makesToken 106 = .ok (.getfield 7, 3) := by decide +kernel
theorem dX10_makesToken_109 : decode cX10_makesToken 109 = .ok (.iload_n 1, 1) := by decide +kernel
theorem dX10_makesToken_110 : decode cX10_makesToken 110 = .ok (.iconst 2, 1) := by decide +kernel
theorem dX10_makesToken_111 : decode cX10_makesToken 111 = .ok (.invokestatic 29, 3) := by decide +kernel
theorem dX10_makesToken_114 : decode cX10_makesToken 114 = .ok (.iconst 1, 1) := by decide +kernel
theorem dX10_makesToken_115 : decode cX10_makesToken 115 = .ok (.iastore, 1) := by decide +kernel
theorem dX10_makesToken_116 : decode cX10_makesToken 116 = .ok (.aload_n 0, 1) := by decide +kernel
theorem dX10_makesToken_117 : decode cX10_makesToken 117 = .ok (.getfield 7, 3) := by decide +kernel
theorem dX10_makesToken_120 : decode cX10_makesToken 120 = .ok (.iload_n 1, 1) := by decide +kernel
theorem dX10_makesToken_121 : decode cX10_makesToken 121 = .ok (.iconst 3, 1) := by decide +kernel
theorem dX10_makesToken_122 : decode cX10_makesToken 122 = .ok (.invokestatic 29, 3) := by decide +kernel
theorem dX10_makesToken_125 : decode cX10_makesToken 125 = .ok (.iload_n 1, 1) := by decide +kernel
theorem dX10_makesToken_126 : decode cX10_makesToken 126 = .ok (.iastore, 1) := by decide +kernel
theorem dX10_makesToken_127 : decode cX10_makesToken 127 = .ok (.aload_n 0, 1) := by decide +kernel
theorem dX10_makesToken_128 : decode cX10_makesToken 128 = .ok (.getfield 7, 3) := by decide +kernel
theorem dX10_makesToken_131 : decode cX10_makesToken 131 = .ok (.iconst 4, 1) := by decide +kernel
theorem dX10_makesToken_132 : decode cX10_makesToken 132 = .ok (.iload_n 1, 1) := by decide +kernel
theorem dX10_makesToken_133 : decode cX10_makesToken 133 = .ok (.iastore, 1) := by decide +kernel
theorem dX10_makesToken_134 : decode cX10_makesToken 134 = .ok (.aload_n 0, 1) := by decide +kernel
theorem dX10_makesToken_135 : decode cX10_makesToken 135 = .ok (.getfield 7, 3) := by decide +kernel
theorem dX10_makesToken_138 : decode cX10_makesToken 138 = .ok (.bipush 12, 2) := by decide +kernel
theorem dX10_makesToken_140 : decode cX10_makesToken 140 = .ok (.dup2, 1) := by decide +kernel
theorem dX10_makesToken_141 : decode cX10_makesToken 141 = .ok (.iaload, 1) := by decide +kernel
theorem dX10_makesToken_142 : decode cX10_makesToken 142 = .ok (.iconst 1, 1) := by decide +kernel
theorem dX10_makesToken_143 : decode cX10_makesToken 143 = .ok (.iadd, 1) := by decide +kernel
theorem dX10_makesToken_144 : decode cX10_makesToken 144 = .ok (.iastore, 1) := by decide +kernel
theorem dX10_makesToken_145 : decode cX10_makesToken 145 = .ok (.iconst 1, 1) := by decide +kernel
theorem dX10_makesToken_146 : decode cX10_makesToken 146 = .ok (.ireturn, 1) := by decide +kernel
theorem dX10_sends_0 : decode cX10_sends 0 = .ok (.aload_n 0, 1) := by decide +kernel
theorem dX10_sends_1 : decode cX10_sends 1 = .ok (.iload_n 1, 1) := by decide +kernel
theorem dX10_sends_2 : decode cX10_sends 2 = .ok (.iconst (-1), 1) := by decide +kernel
theorem dX10_sends_3 : decode cX10_sends 3 = .ok (.invokevirtual 86, 3) := by decide +kernel
theorem dX10_sends_6 : decode cX10_sends 6 = .ok (.istore_n 2, 1) := by decide +kernel
theorem dX10_sends_7 : decode cX10_sends 7 = .ok (.aload_n 0, 1) := by decide +kernel
theorem dX10_sends_8 : decode cX10_sends 8 = .ok (.getfield 7, 3) := by decide +kernel
theorem dX10_sends_11 : decode cX10_sends 11 = .ok (.iconst 3, 1) := by decide +kernel
theorem dX10_sends_12 : decode cX10_sends 12 = .ok (.iaload, 1) := by decide +kernel
theorem dX10_sends_13 : decode cX10_sends 13 = .ok (.istore_n 3, 1) := by decide +kernel
theorem dX10_sends_14 : decode cX10_sends 14 = .ok (.aload_n 0, 1) := by decide +kernel
theorem dX10_sends_15 : decode cX10_sends 15 = .ok (.aload_n 0, 1) := by decide +kernel
theorem dX10_sends_16 : decode cX10_sends 16 = .ok (.iload_n 2, 1) := by decide +kernel
theorem dX10_sends_17 : decode cX10_sends 17 = .ok (.iconst 0, 1) := by decide +kernel
theorem dX10_sends_18 : decode cX10_sends 18 = .ok (.invokevirtual 80, 3) := by decide +kernel
theorem dX10_sends_21 : decode cX10_sends 21 = .ok (.invokevirtual 89, 3) := by decide +kernel
theorem dX10_sends_24 : decode cX10_sends 24 = .ok (.ifCond .eq 5, 3) := by decide +kernel
theorem dX10_sends_27 : decode cX10_sends 27 = .ok (.iconst 1, 1) := by decide +kernel
theorem dX10_sends_28 : decode cX10_sends 28 = .ok (.ireturn, 1) := by decide +kernel
theorem dX10_sends_29 : decode cX10_sends 29 = .ok (.aload_n 0, 1) := by decide +kernel
theorem dX10_sends_30 : decode cX10_sends 30 = .ok (.getfield 7, 3) := by decide +kernel
theorem dX10_sends_33 : decode cX10_sends 33 = .ok (.iload_n 2, 1) := by decide +kernel
theorem dX10_sends_34 : decode cX10_sends 34 = .ok (.iconst 4, 1) := by decide +kernel
theorem dX10_sends_35 : decode cX10_sends 35 = .ok (.invokestatic 42, 3) := by decide +kernel
theorem dX10_sends_38 : decode cX10_sends 38 = .ok (.iload_n 3, 1) := by decide +kernel
theorem dX10_sends_39 : decode cX10_sends 39 = .ok (.aload_n 0, 1) := by decide +kernel
theorem dX10_sends_40 : decode cX10_sends 40 = .ok (.iload_n 2, 1) := by decide +kernel
theorem dX10_sends_41 : decode cX10_sends 41 = .ok (.iconst 3, 1) := by decide +kernel
theorem dX10_sends_42 : decode cX10_sends 42 = .ok (.invokevirtual 80, 3) := by decide +kernel
theorem dX10_sends_45 : decode cX10_sends 45 = .ok (.isub, 1) := by decide +kernel
theorem dX10_sends_46 : decode cX10_sends 46 = .ok (.iastore, 1) := by decide +kernel
theorem dX10_sends_47 : decode cX10_sends 47 = .ok (.aload_n 0, 1) := by decide +kernel
theorem dX10_sends_48 : decode cX10_sends 48 = .ok (.getfield 7, 3) := by decide +kernel
theorem dX10_sends_51 : decode cX10_sends 51 = .ok (.bipush 10, 2) := by decide +kernel
theorem dX10_sends_53 : decode cX10_sends 53 = .ok (.dup2, 1) := by decide +kernel
theorem dX10_sends_54 : decode cX10_sends 54 = .ok (.iaload, 1) := by decide +kernel
theorem dX10_sends_55 : decode cX10_sends 55 = .ok (.iconst 1, 1) := by decide +kernel
theorem dX10_sends_56 : decode cX10_sends 56 = .ok (.iadd, 1) := by decide +kernel
theorem dX10_sends_57 : decode cX10_sends 57 = .ok (.iastore, 1) := by decide +kernel
theorem dX10_sends_58 : decode cX10_sends 58 = .ok (.aload_n 0, 1) := by decide +kernel
theorem dX10_sends_59 : decode cX10_sends 59 = .ok (.getfield 7, 3) := by decide +kernel
theorem dX10_sends_62 : decode cX10_sends 62 = .ok (.bipush 15, 2) := by decide +kernel
theorem dX10_sends_64 : decode cX10_sends 64 = .ok (.dup2, 1) := by decide +kernel
theorem dX10_sends_65 : decode cX10_sends 65 = .ok (.iaload, 1) := by decide +kernel
theorem dX10_sends_66 : decode cX10_sends 66 = .ok (.aload_n 0, 1) := by decide +kernel
theorem dX10_sends_67 : decode cX10_sends 67 = .ok (.iload_n 2, 1) := by decide +kernel
theorem dX10_sends_68 : decode cX10_sends 68 = .ok (.iconst 0, 1) := by decide +kernel
theorem dX10_sends_69 : decode cX10_sends 69 = .ok (.invokevirtual 80, 3) := by decide +kernel
theorem dX10_sends_72 : decode cX10_sends 72 = .ok (.iadd, 1) := by decide +kernel
theorem dX10_sends_73 : decode cX10_sends 73 = .ok (.iastore, 1) := by decide +kernel
theorem dX10_sends_74 : decode cX10_sends 74 = .ok (.iconst 0, 1) := by decide +kernel
theorem dX10_sends_75 : decode cX10_sends 75 = .ok (.ireturn, 1) := by decide +kernel
theorem dX10_sendsAll_0 : decode cX10_sendsAll 0 = .ok (.aload_n 0, 1) := by decide +kernel
theorem dX10_sendsAll_1 : decode cX10_sendsAll 1 = .ok (.iload_n 1, 1) := by decide +kernel
theorem dX10_sendsAll_2 : decode cX10_sendsAll 2 = .ok (.iconst (-1), 1) := by decide +kernel
theorem dX10_sendsAll_3 : decode cX10_sendsAll 3 = .ok (.invokevirtual 86, 3) := by decide +kernel
theorem dX10_sendsAll_6 : decode cX10_sendsAll 6 = .ok (.istore 4, 2) := by decide +kernel
theorem dX10_sendsAll_8 : decode cX10_sendsAll 8 = .ok (.iload 4, 2) := by decide +kernel
theorem dX10_sendsAll_10 : decode cX10_sendsAll 10 = .ok (.iconst (-1), 1) := by decide +kernel
end
section
theorem dX10_sendsAll_11 : decode cX10_sendsAll 11 = .ok (.if_icmp .eq 26, 3) := by decide +kernel
theorem dX10_sendsAll_14 : decode cX10_sendsAll 14 = .ok (.aload_n 0, 1) := by decide +kernel
theorem dX10_sendsAll_15 : decode cX10_sendsAll 15 = .ok (.iload 4, 2) := by decide +kernel
theorem dX10_sendsAll_17 : decode cX10_sendsAll 17 = .ok (.iconst 1, 1) := by decide +kernel
theorem dX10_sendsAll_18 : decode cX10_sendsAll 18 = .ok (.invokevirtual 80, 3) := by decide +kernel
theorem dX10_sendsAll_21 : decode cX10_sendsAll 21 = .ok (.iconst 5, 1) := by decide +kernel
theorem dX10_sendsAll_22 : decode cX10_sendsAll 22 = .ok (.if_icmp .lt 15, 3) := by decide +kernel
theorem dX10_sendsAll_25 : decode cX10_sendsAll 25 = .ok (.aload_n 0, 1) := by decide +kernel
theorem dX10_sendsAll_26 : decode cX10_sendsAll 26 = .ok (.iload_n 1, 1) := by decide +kernel
theorem dX10_sendsAll_27 : decode cX10_sendsAll 27 = .ok (.invokevirtual 92, 3) := by decide +kernel
theorem dX10_sendsAll_30 : decode cX10_sendsAll 30 = .ok (.ifCond .eq 7, 3) := by decide +kernel
theorem dX10_sendsAll_33 : decode cX10_sendsAll 33 = .ok (.iconst 1, 1) := by decide +kernel
theorem dX10_sendsAll_34 : decode cX10_sendsAll 34 = .ok (.goto 4, 3) := by decide +kernel
theorem dX10_sendsAll_37 : decode cX10_sendsAll 37 = .ok (.iconst 0, 1) := by decide +kernel
theorem dX10_sendsAll_38 : decode cX10_sendsAll 38 = .ok (.istore 5, 2) := by decide +kernel
theorem dX10_sendsAll_40 : decode cX10_sendsAll 40 = .ok (.iload 5, 2) := by decide +kernel
theorem dX10_sendsAll_42 : decode cX10_sendsAll 42 = .ok (.ifCond .ne 35, 3) := by decide +kernel
theorem dX10_sendsAll_45 : decode cX10_sendsAll 45 = .ok (.aload_n 0, 1) := by decide +kernel
theorem dX10_sendsAll_46 : decode cX10_sendsAll 46 = .ok (.iload_n 1, 1) := by decide +kernel
theorem dX10_sendsAll_47 : decode cX10_sendsAll 47 = .ok (.iconst (-1), 1) := by decide +kernel
theorem dX10_sendsAll_48 : decode cX10_sendsAll 48 = .ok (.invokevirtual 86, 3) := by decide +kernel
theorem dX10_sendsAll_51 : decode cX10_sendsAll 51 = .ok (.iconst (-1), 1) := by decide +kernel
theorem dX10_sendsAll_52 : decode cX10_sendsAll 52 = .ok (.if_icmp .eq 25, 3) := by decide +kernel
theorem dX10_sendsAll_55 : decode cX10_sendsAll 55 = .ok (.aload_n 0, 1) := by decide +kernel
theorem dX10_sendsAll_56 : decode cX10_sendsAll 56 = .ok (.getfield 7, 3) := by decide +kernel
theorem dX10_sendsAll_59 : decode cX10_sendsAll 59 = .ok (.iconst 3, 1) := by decide +kernel
theorem dX10_sendsAll_60 : decode cX10_sendsAll 60 = .ok (.iaload, 1) := by decide +kernel
theorem dX10_sendsAll_61 : decode cX10_sendsAll 61 = .ok (.iload_n 2, 1) := by decide +kernel
theorem dX10_sendsAll_62 : decode cX10_sendsAll 62 = .ok (.isub, 1) := by decide +kernel
theorem dX10_sendsAll_63 : decode cX10_sendsAll 63 = .ok (.iload_n 3, 1) := by decide +kernel
theorem dX10_sendsAll_64 : decode cX10_sendsAll 64 = .ok (.if_icmp .ge 13, 3) := by decide +kernel
theorem dX10_sendsAll_67 : decode cX10_sendsAll 67 = .ok (.aload_n 0, 1) := by decide +kernel
theorem dX10_sendsAll_68 : decode cX10_sendsAll 68 = .ok (.iload_n 1, 1) := by decide +kernel
theorem dX10_sendsAll_69 : decode cX10_sendsAll 69 = .ok (.invokevirtual 92, 3) := by decide +kernel
theorem dX10_sendsAll_72 : decode cX10_sendsAll 72 = .ok (.istore 5, 2) := by decide +kernel
theorem dX10_sendsAll_74 : decode cX10_sendsAll 74 = .ok (.goto (-34), 3) := by decide +kernel
theorem dX10_sendsAll_77 : decode cX10_sendsAll 77 = .ok (.return_, 1) := by decide +kernel
theorem dX10_behind_0 : decode cX10_behind 0 = .ok (.iload_n 1, 1) := by decide +kernel
theorem dX10_behind_1 : decode cX10_behind 1 = .ok (.iload_n 0, 1) := by decide +kernel
theorem dX10_behind_2 : decode cX10_behind 2 = .ok (.isub, 1) := by decide +kernel
theorem dX10_behind_3 : decode cX10_behind 3 = .ok (.bipush 32, 2) := by decide +kernel
theorem dX10_behind_5 : decode cX10_behind 5 = .ok (.iadd, 1) := by decide +kernel
theorem dX10_behind_6 : decode cX10_behind 6 = .ok (.bipush 32, 2) := by decide +kernel
theorem dX10_behind_8 : decode cX10_behind 8 = .ok (.irem, 1) := by decide +kernel
theorem dX10_behind_9 : decode cX10_behind 9 = .ok (.istore_n 2, 1) := by decide +kernel
theorem dX10_behind_10 : decode cX10_behind 10 = .ok (.iload_n 2, 1) := by decide +kernel
theorem dX10_behind_11 : decode cX10_behind 11 = .ok (.ifCond .ne 8, 3) := by decide +kernel
theorem dX10_behind_14 : decode cX10_behind 14 = .ok (.bipush 32, 2) := by decide +kernel
theorem dX10_behind_16 : decode cX10_behind 16 = .ok (.goto 4, 3) := by decide +kernel
theorem dX10_behind_19 : decode cX10_behind 19 = .ok (.iload_n 2, 1) := by decide +kernel
theorem dX10_behind_20 : decode cX10_behind 20 = .ok (.ireturn, 1) := by decide +kernel
theorem dX10_polls_0 : decode cX10_polls 0 = .ok (.iload_n 1, 1) := by decide +kernel
theorem dX10_polls_1 : decode cX10_polls 1 = .ok (.aload_n 0, 1) := by decide +kernel
theorem dX10_polls_2 : decode cX10_polls 2 = .ok (.iload_n 1, 1) := by decide +kernel
theorem dX10_polls_3 : decode cX10_polls 3 = .ok (.iconst 3, 1) := by decide +kernel
theorem dX10_polls_4 : decode cX10_polls 4 = .ok (.invokevirtual 39, 3) := by decide +kernel
theorem dX10_polls_7 : decode cX10_polls 7 = .ok (.invokestatic 95, 3) := by decide +kernel
theorem dX10_polls_10 : decode cX10_polls 10 = .ok (.iconst 1, 1) := by decide +kernel
theorem dX10_polls_11 : decode cX10_polls 11 = .ok (.isub, 1) := by decide +kernel
theorem dX10_polls_12 : decode cX10_polls 12 = .ok (.istore_n 2, 1) := by decide +kernel
theorem dX10_polls_13 : decode cX10_polls 13 = .ok (.aload_n 0, 1) := by decide +kernel
theorem dX10_polls_14 : decode cX10_polls 14 = .ok (.iload_n 1, 1) := by decide +kernel
theorem dX10_polls_15 : decode cX10_polls 15 = .ok (.iconst 5, 1) := by decide +kernel
theorem dX10_polls_16 : decode cX10_polls 16 = .ok (.invokevirtual 39, 3) := by decide +kernel
theorem dX10_polls_19 : decode cX10_polls 19 = .ok (.aload_n 0, 1) := by decide +kernel
theorem dX10_polls_20 : decode cX10_polls 20 = .ok (.getfield 7, 3) := by decide +kernel
theorem dX10_polls_23 : decode cX10_polls 23 = .ok (.iconst 2, 1) := by decide +kernel
theorem dX10_polls_24 : decode cX10_polls 24 = .ok (.iaload, 1) := by decide +kernel
theorem dX10_polls_25 : decode cX10_polls 25 = .ok (.irem, 1) := by decide +kernel
theorem dX10_polls_26 : decode cX10_polls 26 = .ok (.ifCond .ne 7, 3) := by decide +kernel
theorem dX10_polls_29 : decode cX10_polls 29 = .ok (.iload_n 2, 1) := by decide +kernel
theorem dX10_polls_30 : decode cX10_polls 30 = .ok (.ifCond .ne 4, 3) := by decide +kernel
theorem dX10_polls_33 : decode cX10_polls 33 = .ok (.return_, 1) := by decide +kernel
theorem dX10_polls_34 : decode cX10_polls 34 = .ok (.aload_n 0, 1) := by decide +kernel
theorem dX10_polls_35 : decode cX10_polls 35 = .ok (.iload_n 1, 1) := by decide +kernel
theorem dX10_polls_36 : decode cX10_polls 36 = .ok (.iconst 4, 1) := by decide +kernel
theorem dX10_polls_37 : decode cX10_polls 37 = .ok (.invokevirtual 39, 3) := by decide +kernel
theorem dX10_polls_40 : decode cX10_polls 40 = .ok (.iconst 1, 1) := by decide +kernel
theorem dX10_polls_41 : decode cX10_polls 41 = .ok (.iadd, 1) := by decide +kernel
theorem dX10_polls_42 : decode cX10_polls 42 = .ok (.bipush 32, 2) := by decide +kernel
theorem dX10_polls_44 : decode cX10_polls 44 = .ok (.irem, 1) := by decide +kernel
theorem dX10_polls_45 : decode cX10_polls 45 = .ok (.istore_n 3, 1) := by decide +kernel
theorem dX10_polls_46 : decode cX10_polls 46 = .ok (.iload_n 1, 1) := by decide +kernel
theorem dX10_polls_47 : decode cX10_polls 47 = .ok (.iload_n 3, 1) := by decide +kernel
theorem dX10_polls_48 : decode cX10_polls 48 = .ok (.invokestatic 95, 3) := by decide +kernel
theorem dX10_polls_51 : decode cX10_polls 51 = .ok (.iload_n 2, 1) := by decide +kernel
theorem dX10_polls_52 : decode cX10_polls 52 = .ok (.if_icmp .gt 7, 3) := by decide +kernel
theorem dX10_polls_55 : decode cX10_polls 55 = .ok (.iload_n 3, 1) := by decide +kernel
theorem dX10_polls_56 : decode cX10_polls 56 = .ok (.goto 9, 3) := by decide +kernel
theorem dX10_polls_59 : decode cX10_polls 59 = .ok (.iload_n 1, 1) := by decide +kernel
theorem dX10_polls_60 : decode cX10_polls 60 = .ok (.iconst 1, 1) := by decide +kernel
theorem dX10_polls_61 : decode cX10_polls 61 = .ok (.iadd, 1) := by decide +kernel
theorem dX10_polls_62 : decode cX10_polls 62 = .ok (.bipush 32, 2) := by decide +kernel
theorem dX10_polls_64 : decode cX10_polls 64 = .ok (.irem, 1) := by decide +kernel
theorem dX10_polls_65 : decode cX10_polls 65 = .ok (.istore_n 3, 1) := by decide +kernel
theorem dX10_polls_66 : decode cX10_polls 66 = .ok (.aload_n 0, 1) := by decide +kernel
theorem dX10_polls_67 : decode cX10_polls 67 = .ok (.getfield 7, 3) := by decide +kernel
theorem dX10_polls_70 : decode cX10_polls 70 = .ok (.iload_n 1, 1) := by decide +kernel
theorem dX10_polls_71 : decode cX10_polls 71 = .ok (.iconst 4, 1) := by decide +kernel
theorem dX10_polls_72 : decode cX10_polls 72 = .ok (.invokestatic 29, 3) := by decide +kernel
theorem dX10_polls_75 : decode cX10_polls 75 = .ok (.iload_n 3, 1) := by decide +kernel
theorem dX10_polls_76 : decode cX10_polls 76 = .ok (.iastore, 1) := by decide +kernel
theorem dX10_polls_77 : decode cX10_polls 77 = .ok (.aload_n 0, 1) := by decide +kernel
theorem dX10_polls_78 : decode cX10_polls 78 = .ok (.iconst 1, 1) := by decide +kernel
theorem dX10_polls_79 : decode cX10_polls 79 = .ok (.invokevirtual 89, 3) := by decide +kernel
theorem dX10_polls_82 : decode cX10_polls 82 = .ok (.istore 4, 2) := by decide +kernel
theorem dX10_polls_84 : decode cX10_polls 84 = .ok (.iload 4, 2) := by decide +kernel
theorem dX10_polls_86 : decode cX10_polls 86 = .ok (.ifCond .ne 44, 3) := by decide +kernel
theorem dX10_polls_89 : decode cX10_polls 89 = .ok (.aload_n 0, 1) := by decide +kernel
theorem dX10_polls_90 : decode cX10_polls 90 = .ok (.iload_n 3, 1) := by decide +kernel
theorem dX10_polls_91 : decode cX10_polls 91 = .ok (.iconst 0, 1) := by decide +kernel
theorem dX10_polls_92 : decode cX10_polls 92 = .ok (.invokevirtual 39, 3) := by decide +kernel
theorem dX10_polls_95 : decode cX10_polls 95 = .ok (.iconst 1, 1) := by decide +kernel
theorem dX10_polls_96 : decode cX10_polls 96 = .ok (.if_icmp .ne 34, 3) := by decide +kernel
theorem dX10_polls_99 : decode cX10_polls 99 = .ok (.aload_n 0, 1) := by decide +kernel
theorem dX10_polls_100 : decode cX10_polls 100 = .ok (.iload_n 3, 1) := by decide +kernel
theorem dX10_polls_101 : decode cX10_polls 101 = .ok (.iconst 1, 1) := by decide +kernel
theorem dX10_polls_102 : decode cX10_polls 102 = .ok (.invokevirtual 39, 3) := by decide +kernel
theorem dX10_polls_105 : decode cX10_polls 105 = .ok (.iconst 1, 1) := by decide +kernel
theorem dX10_polls_106 : decode cX10_polls 106 = .ok (.if_icmp .ne 24, 3) := by decide +kernel
theorem dX10_polls_109 : decode cX10_polls 109 = .ok (.aload_n 0, 1) := by decide +kernel
theorem dX10_polls_110 : decode cX10_polls 110 = .ok (.iload_n 3, 1) := by decide +kernel
theorem dX10_polls_111 : decode cX10_polls 111 = .ok (.iconst 2, 1) := by decide +kernel
theorem dX10_polls_112 : decode cX10_polls 112 = .ok (.invokevirtual 39, 3) := by decide +kernel
theorem dX10_polls_115 : decode cX10_polls 115 = .ok (.ifCond .ne 15, 3) := by decide +kernel
theorem dX10_polls_118 : decode cX10_polls 118 = .ok (.aload_n 0, 1) := by decide +kernel
theorem dX10_polls_119 : decode cX10_polls 119 = .ok (.iconst 1, 1) := by decide +kernel
theorem dX10_polls_120 : decode cX10_polls 120 = .ok (.invokevirtual 89, 3) := by decide +kernel
theorem dX10_polls_123 : decode cX10_polls 123 = .ok (.ifCond .ne 7, 3) := by decide +kernel
theorem dX10_polls_126 : decode cX10_polls 126 = .ok (.iconst 1, 1) := by decide +kernel
theorem dX10_polls_127 : decode cX10_polls 127 = .ok (.goto 4, 3) := by decide +kernel
theorem dX10_polls_130 : decode cX10_polls 130 = .ok (.iconst 0, 1) := by decide +kernel
theorem dX10_polls_131 : decode cX10_polls 131 = .ok (.istore 5, 2) := by decide +kernel
theorem dX10_polls_133 : decode cX10_polls 133 = .ok (.iload 5, 2) := by decide +kernel
theorem dX10_polls_135 : decode cX10_polls 135 = .ok (.ifCond .eq 66, 3) := by decide +kernel
theorem dX10_polls_138 : decode cX10_polls 138 = .ok (.aload_n 0, 1) := by decide +kernel
theorem dX10_polls_139 : decode cX10_polls 139 = .ok (.getfield 7, 3) := by decide +kernel
theorem dX10_polls_142 : decode cX10_polls 142 = .ok (.iload_n 3, 1) := by decide +kernel
theorem dX10_polls_143 : decode cX10_polls 143 = .ok (.iconst 2, 1) := by decide +kernel
theorem dX10_polls_144 : decode cX10_polls 144 = .ok (.invokestatic 29, 3) := by decide +kernel
theorem dX10_polls_147 : decode cX10_polls 147 = .ok (.iconst 1, 1) := by decide +kernel
theorem dX10_polls_148 : decode cX10_polls 148 = .ok (.iastore, 1) := by decide +kernel
theorem dX10_polls_149 : decode cX10_polls 149 = .ok (.aload_n 0, 1) := by decide +kernel
theorem dX10_polls_150 : decode cX10_polls 150 = .ok (.getfield 7, 3) := by decide +kernel
theorem dX10_polls_153 : decode cX10_polls 153 = .ok (.iload_n 3, 1) := by decide +kernel
theorem dX10_polls_154 : decode cX10_polls 154 = .ok (.iconst 3, 1) := by decide +kernel
theorem dX10_polls_155 : decode cX10_polls 155 = .ok (.invokestatic 29, 3) := by decide +kernel
theorem dX10_polls_158 : decode cX10_polls 158 = .ok (.aload_n 0, 1) := by decide +kernel
theorem dX10_polls_159 : decode cX10_polls 159 = .ok (.iload_n 1, 1) := by decide +kernel
theorem dX10_polls_160 : decode cX10_polls 160 = .ok (.iconst 3, 1) := by decide +kernel
theorem dX10_polls_161 : decode cX10_polls 161 = .ok (.invokevirtual 39, 3) := by decide +kernel
theorem dX10_polls_164 : decode cX10_polls 164 = .ok (.iastore, 1) := by decide +kernel
theorem dX10_polls_165 : decode cX10_polls 165 = .ok (.aload_n 0, 1) := by decide +kernel
theorem dX10_polls_166 : decode cX10_polls 166 = .ok (.getfield 7, 3) := by decide +kernel
theorem dX10_polls_169 : decode cX10_polls 169 = .ok (.iload_n 3, 1) := by decide +kernel
theorem dX10_polls_170 : decode cX10_polls 170 = .ok (.iconst 4, 1) := by decide +kernel
theorem dX10_polls_171 : decode cX10_polls 171 = .ok (.invokestatic 29, 3) := by decide +kernel
theorem dX10_polls_174 : decode cX10_polls 174 = .ok (.iload_n 3, 1) := by decide +kernel
theorem dX10_polls_175 : decode cX10_polls 175 = .ok (.iastore, 1) := by decide +kernel
theorem dX10_polls_176 : decode cX10_polls 176 = .ok (.aload_n 0, 1) := by decide +kernel
theorem dX10_polls_177 : decode cX10_polls 177 = .ok (.getfield 7, 3) := by decide +kernel
theorem dX10_polls_180 : decode cX10_polls 180 = .ok (.iload_n 1, 1) := by decide +kernel
theorem dX10_polls_181 : decode cX10_polls 181 = .ok (.iconst 3, 1) := by decide +kernel
theorem dX10_polls_182 : decode cX10_polls 182 = .ok (.invokestatic 29, 3) := by decide +kernel
theorem dX10_polls_185 : decode cX10_polls 185 = .ok (.iload_n 3, 1) := by decide +kernel
theorem dX10_polls_186 : decode cX10_polls 186 = .ok (.iastore, 1) := by decide +kernel
theorem dX10_polls_187 : decode cX10_polls 187 = .ok (.aload_n 0, 1) := by decide +kernel
theorem dX10_polls_188 : decode cX10_polls 188 = .ok (.getfield 7, 3) := by decide +kernel
theorem dX10_polls_191 : decode cX10_polls 191 = .ok (.bipush 13, 2) := by decide +kernel
theorem dX10_polls_193 : decode cX10_polls 193 = .ok (.dup2, 1) := by decide +kernel
theorem dX10_polls_194 : decode cX10_polls 194 = .ok (.iaload, 1) := by decide +kernel
theorem dX10_polls_195 : decode cX10_polls 195 = .ok (.iconst 1, 1) := by decide +kernel
theorem dX10_polls_196 : decode cX10_polls 196 = .ok (.iadd, 1) := by decide +kernel
theorem dX10_polls_197 : decode cX10_polls 197 = .ok (.iastore, 1) := by decide +kernel
theorem dX10_polls_198 : decode cX10_polls 198 = .ok (.goto 18, 3) := by decide +kernel
theorem dX10_polls_201 : decode cX10_polls 201 = .ok (.aload_n 0, 1) := by decide +kernel
theorem dX10_polls_202 : decode cX10_polls 202 = .ok (.getfield 7, 3) := by decide +kernel
theorem dX10_polls_205 : decode cX10_polls 205 = .ok (.iconst 3, 1) := by decide +kernel
theorem dX10_polls_206 : decode cX10_polls 206 = .ok (.dup2, 1) := by decide +kernel
theorem dX10_polls_207 : decode cX10_polls 207 = .ok (.iaload, 1) := by decide +kernel
theorem dX10_polls_208 : decode cX10_polls 208 = .ok (.aload_n 0, 1) := by decide +kernel
theorem dX10_polls_209 : decode cX10_polls 209 = .ok (.getfield 7, 3) := by decide +kernel
theorem dX10_polls_212 : decode cX10_polls 212 = .ok (.iconst 1, 1) := by decide +kernel
theorem dX10_polls_213 : decode cX10_polls 213 = .ok (.iaload, 1) := by decide +kernel
theorem dX10_polls_214 : decode cX10_polls 214 = .ok (.iadd, 1) := by decide +kernel
theorem dX10_polls_215 : decode cX10_polls 215 = .ok (.iastore, 1) := by decide +kernel
theorem dX10_polls_216 : decode cX10_polls 216 = .ok (.return_, 1) := by decide +kernel
theorem dX10_passes_0 : decode cX10_passes 0 = .ok (.iconst 0, 1) := by decide +kernel
theorem dX10_passes_1 : decode cX10_passes 1 = .ok (.istore_n 2, 1) := by decide +kernel
theorem dX10_passes_2 : decode cX10_passes 2 = .ok (.iload_n 2, 1) := by decide +kernel
theorem dX10_passes_3 : decode cX10_passes 3 = .ok (.iconst 3, 1) := by decide +kernel
theorem dX10_passes_4 : decode cX10_passes 4 = .ok (.if_icmp .ge 55, 3) := by decide +kernel
theorem dX10_passes_7 : decode cX10_passes 7 = .ok (.aload_n 0, 1) := by decide +kernel
theorem dX10_passes_8 : decode cX10_passes 8 = .ok (.iload_n 1, 1) := by decide +kernel
theorem dX10_passes_9 : decode cX10_passes 9 = .ok (.iconst 3, 1) := by decide +kernel
theorem dX10_passes_10 : decode cX10_passes 10 = .ok (.invokevirtual 39, 3) := by decide +kernel
theorem dX10_passes_13 : decode cX10_passes 13 = .ok (.istore_n 3, 1) := by decide +kernel
theorem dX10_passes_14 : decode cX10_passes 14 = .ok (.aload_n 0, 1) := by decide +kernel
theorem dX10_passes_15 : decode cX10_passes 15 = .ok (.iconst 1, 1) := by decide +kernel
theorem dX10_passes_16 : decode cX10_passes 16 = .ok (.invokevirtual 89, 3) := by decide +kernel
theorem dX10_passes_19 : decode cX10_passes 19 = .ok (.ifCond .ne 19, 3) := by decide +kernel
theorem dX10_passes_22 : decode cX10_passes 22 = .ok (.aload_n 0, 1) := by decide +kernel
theorem dX10_passes_23 : decode cX10_passes 23 = .ok (.iload_n 3, 1) := by decide +kernel
theorem dX10_passes_24 : decode cX10_passes 24 = .ok (.invokevirtual 83, 3) := by decide +kernel
theorem dX10_passes_27 : decode cX10_passes 27 = .ok (.ifCond .eq 11, 3) := by decide +kernel
theorem dX10_passes_30 : decode cX10_passes 30 = .ok (.aload_n 0, 1) := by decide +kernel
theorem dX10_passes_31 : decode cX10_passes 31 = .ok (.getfield 7, 3) := by decide +kernel
theorem dX10_passes_34 : decode cX10_passes 34 = .ok (.iconst 4, 1) := by decide +kernel
theorem dX10_passes_35 : decode cX10_passes 35 = .ok (.iload_n 3, 1) := by decide +kernel
theorem dX10_passes_36 : decode cX10_passes 36 = .ok (.iastore, 1) := by decide +kernel
theorem dX10_passes_37 : decode cX10_passes 37 = .ok (.return_, 1) := by decide +kernel
theorem dX10_passes_38 : decode cX10_passes 38 = .ok (.aload_n 0, 1) := by decide +kernel
theorem dX10_passes_39 : decode cX10_passes 39 = .ok (.getfield 7, 3) := by decide +kernel
theorem dX10_passes_42 : decode cX10_passes 42 = .ok (.iconst 3, 1) := by decide +kernel
theorem dX10_passes_43 : decode cX10_passes 43 = .ok (.dup2, 1) := by decide +kernel
theorem dX10_passes_44 : decode cX10_passes 44 = .ok (.iaload, 1) := by decide +kernel
theorem dX10_passes_45 : decode cX10_passes 45 = .ok (.aload_n 0, 1) := by decide +kernel
theorem dX10_passes_46 : decode cX10_passes 46 = .ok (.getfield 7, 3) := by decide +kernel
theorem dX10_passes_49 : decode cX10_passes 49 = .ok (.iconst 1, 1) := by decide +kernel
theorem dX10_passes_50 : decode cX10_passes 50 = .ok (.iaload, 1) := by decide +kernel
theorem dX10_passes_51 : decode cX10_passes 51 = .ok (.iadd, 1) := by decide +kernel
theorem dX10_passes_52 : decode cX10_passes 52 = .ok (.iastore, 1) := by decide +kernel
theorem dX10_passes_53 : decode cX10_passes 53 = .ok (.iinc 2 1, 3) := by decide +kernel
theorem dX10_passes_56 : decode cX10_passes 56 = .ok (.goto (-54), 3) := by decide +kernel
theorem dX10_passes_59 : decode cX10_passes 59 = .ok (.aload_n 0, 1) := by decide +kernel
theorem dX10_passes_60 : decode cX10_passes 60 = .ok (.iload_n 1, 1) := by decide +kernel
theorem dX10_passes_61 : decode cX10_passes 61 = .ok (.iconst 3, 1) := by decide +kernel
theorem dX10_passes_62 : decode cX10_passes 62 = .ok (.invokevirtual 39, 3) := by decide +kernel
theorem dX10_passes_65 : decode cX10_passes 65 = .ok (.istore_n 2, 1) := by decide +kernel
theorem dX10_passes_66 : decode cX10_passes 66 = .ok (.iload_n 2, 1) := by decide +kernel
theorem dX10_passes_67 : decode cX10_passes 67 = .ok (.iload_n 1, 1) := by decide +kernel
theorem dX10_passes_68 : decode cX10_passes 68 = .ok (.if_icmp .eq 33, 3) := by decide +kernel
theorem dX10_passes_71 : decode cX10_passes 71 = .ok (.aload_n 0, 1) := by decide +kernel
theorem dX10_passes_72 : decode cX10_passes 72 = .ok (.iload_n 2, 1) := by decide +kernel
theorem dX10_passes_73 : decode cX10_passes 73 = .ok (.invokevirtual 83, 3) := by decide +kernel
theorem dX10_passes_76 : decode cX10_passes 76 = .ok (.ifCond .eq 25, 3) := by decide +kernel
theorem dX10_passes_79 : decode cX10_passes 79 = .ok (.aload_n 0, 1) := by decide +kernel
theorem dX10_passes_80 : decode cX10_passes 80 = .ok (.getfield 7, 3) := by decide +kernel
theorem dX10_passes_83 : decode cX10_passes 83 = .ok (.iload_n 2, 1) := by decide +kernel
theorem dX10_passes_84 : decode cX10_passes 84 = .ok (.iconst 2, 1) := by decide +kernel
theorem dX10_passes_85 : decode cX10_passes 85 = .ok (.invokestatic 29, 3) := by decide +kernel
theorem dX10_passes_88 : decode cX10_passes 88 = .ok (.iconst 0, 1) := by decide +kernel
theorem dX10_passes_89 : decode cX10_passes 89 = .ok (.iastore, 1) := by decide +kernel
theorem dX10_passes_90 : decode cX10_passes 90 = .ok (.aload_n 0, 1) := by decide +kernel
theorem dX10_passes_91 : decode cX10_passes 91 = .ok (.getfield 7, 3) := by decide +kernel
theorem dX10_passes_94 : decode cX10_passes 94 = .ok (.bipush 14, 2) := by decide +kernel
theorem dX10_passes_96 : decode cX10_passes 96 = .ok (.dup2, 1) := by decide +kernel
theorem dX10_passes_97 : decode cX10_passes 97 = .ok (.iaload, 1) := by decide +kernel
theorem dX10_passes_98 : decode cX10_passes 98 = .ok (.iconst 1, 1) := by decide +kernel
theorem dX10_passes_99 : decode cX10_passes 99 = .ok (.iadd, 1) := by decide +kernel
theorem dX10_passes_100 : decode cX10_passes 100 = .ok (.iastore, 1) := by decide +kernel
theorem dX10_passes_101 : decode cX10_passes 101 = .ok (.iload_n 2, 1) := by decide +kernel
theorem dX10_passes_102 : decode cX10_passes 102 = .ok (.iconst 1, 1) := by decide +kernel
theorem dX10_passes_103 : decode cX10_passes 103 = .ok (.iadd, 1) := by decide +kernel
theorem dX10_passes_104 : decode cX10_passes 104 = .ok (.bipush 32, 2) := by decide +kernel
theorem dX10_passes_106 : decode cX10_passes 106 = .ok (.irem, 1) := by decide +kernel
theorem dX10_passes_107 : decode cX10_passes 107 = .ok (.istore_n 3, 1) := by decide +kernel
theorem dX10_passes_108 : decode cX10_passes 108 = .ok (.iconst 0, 1) := by decide +kernel
theorem dX10_passes_109 : decode cX10_passes 109 = .ok (.istore 4, 2) := by decide +kernel
theorem dX10_passes_111 : decode cX10_passes 111 = .ok (.iload_n 3, 1) := by decide +kernel
theorem dX10_passes_112 : decode cX10_passes 112 = .ok (.iload_n 1, 1) := by decide +kernel
theorem dX10_passes_113 : decode cX10_passes 113 = .ok (.if_icmp .eq 61, 3) := by decide +kernel
theorem dX10_passes_116 : decode cX10_passes 116 = .ok (.iload 4, 2) := by decide +kernel
theorem dX10_passes_118 : decode cX10_passes 118 = .ok (.ifCond .ne 56, 3) := by decide +kernel
theorem dX10_passes_121 : decode cX10_passes 121 = .ok (.aload_n 0, 1) := by decide +kernel
theorem dX10_passes_122 : decode cX10_passes 122 = .ok (.iconst 1, 1) := by decide +kernel
theorem dX10_passes_123 : decode cX10_passes 123 = .ok (.invokevirtual 89, 3) := by decide +kernel
theorem dX10_passes_126 : decode cX10_passes 126 = .ok (.ifCond .ne 15, 3) := by decide +kernel
theorem dX10_passes_129 : decode cX10_passes 129 = .ok (.aload_n 0, 1) := by decide +kernel
theorem dX10_passes_130 : decode cX10_passes 130 = .ok (.iload_n 3, 1) := by decide +kernel
theorem dX10_passes_131 : decode cX10_passes 131 = .ok (.invokevirtual 83, 3) := by decide +kernel
theorem dX10_passes_134 : decode cX10_passes 134 = .ok (.ifCond .eq 7, 3) := by decide +kernel
theorem dX10_passes_137 : decode cX10_passes 137 = .ok (.iconst 1, 1) := by decide +kernel
theorem dX10_passes_138 : decode cX10_passes 138 = .ok (.goto 4, 3) := by decide +kernel
theorem dX10_passes_141 : decode cX10_passes 141 = .ok (.iconst 0, 1) := by decide +kernel
theorem dX10_passes_142 : decode cX10_passes 142 = .ok (.istore 4, 2) := by decide +kernel
theorem dX10_passes_144 : decode cX10_passes 144 = .ok (.iload 4, 2) := by decide +kernel
theorem dX10_passes_146 : decode cX10_passes 146 = .ok (.ifCond .ne (-35), 3) := by decide +kernel
theorem dX10_passes_149 : decode cX10_passes 149 = .ok (.aload_n 0, 1) := by decide +kernel
theorem dX10_passes_150 : decode cX10_passes 150 = .ok (.getfield 7, 3) := by decide +kernel
theorem dX10_passes_153 : decode cX10_passes 153 = .ok (.iconst 3, 1) := by decide +kernel
theorem dX10_passes_154 : decode cX10_passes 154 = .ok (.dup2, 1) := by decide +kernel
theorem dX10_passes_155 : decode cX10_passes 155 = .ok (.iaload, 1) := by decide +kernel
theorem dX10_passes_156 : decode cX10_passes 156 = .ok (.aload_n 0, 1) := by decide +kernel
theorem dX10_passes_157 : decode cX10_passes 157 = .ok (.getfield 7, 3) := by decide +kernel
theorem dX10_passes_160 : decode cX10_passes 160 = .ok (.iconst 1, 1) := by decide +kernel
theorem dX10_passes_161 : decode cX10_passes 161 = .ok (.iaload, 1) := by decide +kernel
theorem dX10_passes_162 : decode cX10_passes 162 = .ok (.iadd, 1) := by decide +kernel
theorem dX10_passes_163 : decode cX10_passes 163 = .ok (.iastore, 1) := by decide +kernel
theorem dX10_passes_164 : decode cX10_passes 164 = .ok (.iload_n 3, 1) := by decide +kernel
theorem dX10_passes_165 : decode cX10_passes 165 = .ok (.iconst 1, 1) := by decide +kernel
theorem dX10_passes_166 : decode cX10_passes 166 = .ok (.iadd, 1) := by decide +kernel
theorem dX10_passes_167 : decode cX10_passes 167 = .ok (.bipush 32, 2) := by decide +kernel
theorem dX10_passes_169 : decode cX10_passes 169 = .ok (.irem, 1) := by decide +kernel
theorem dX10_passes_170 : decode cX10_passes 170 = .ok (.istore_n 3, 1) := by decide +kernel
theorem dX10_passes_171 : decode cX10_passes 171 = .ok (.goto (-60), 3) := by decide +kernel
theorem dX10_passes_174 : decode cX10_passes 174 = .ok (.aload_n 0, 1) := by decide +kernel
theorem dX10_passes_175 : decode cX10_passes 175 = .ok (.getfield 7, 3) := by decide +kernel
theorem dX10_passes_178 : decode cX10_passes 178 = .ok (.iload_n 1, 1) := by decide +kernel
theorem dX10_passes_179 : decode cX10_passes 179 = .ok (.iconst 3, 1) := by decide +kernel
theorem dX10_passes_180 : decode cX10_passes 180 = .ok (.invokestatic 29, 3) := by decide +kernel
theorem dX10_passes_183 : decode cX10_passes 183 = .ok (.iload_n 3, 1) := by decide +kernel
theorem dX10_passes_184 : decode cX10_passes 184 = .ok (.iastore, 1) := by decide +kernel
theorem dX10_passes_185 : decode cX10_passes 185 = .ok (.aload_n 0, 1) := by decide +kernel
theorem dX10_passes_186 : decode cX10_passes 186 = .ok (.getfield 7, 3) := by decide +kernel
theorem dX10_passes_189 : decode cX10_passes 189 = .ok (.iconst 4, 1) := by decide +kernel
theorem dX10_passes_190 : decode cX10_passes 190 = .ok (.iload_n 3, 1) := by decide +kernel
theorem dX10_passes_191 : decode cX10_passes 191 = .ok (.iastore, 1) := by decide +kernel
theorem dX10_passes_192 : decode cX10_passes 192 = .ok (.return_, 1) := by decide +kernel
theorem dX10_visits_0 : decode cX10_visits 0 = .ok (.aload_n 0, 1) := by decide +kernel
theorem dX10_visits_1 : decode cX10_visits 1 = .ok (.getfield 7, 3) := by decide +kernel
theorem dX10_visits_4 : decode cX10_visits 4 = .ok (.iconst 4, 1) := by decide +kernel
theorem dX10_visits_5 : decode cX10_visits 5 = .ok (.iaload, 1) := by decide +kernel
theorem dX10_visits_6 : decode cX10_visits 6 = .ok (.iconst (-1), 1) := by decide +kernel
theorem dX10_visits_7 : decode cX10_visits 7 = .ok (.if_icmp .ne 11, 3) := by decide +kernel
theorem dX10_visits_10 : decode cX10_visits 10 = .ok (.aload_n 0, 1) := by decide +kernel
theorem dX10_visits_11 : decode cX10_visits 11 = .ok (.invokevirtual 98, 3) := by decide +kernel
theorem dX10_visits_14 : decode cX10_visits 14 = .ok (.ifCond .ne 4, 3) := by decide +kernel
theorem dX10_visits_17 : decode cX10_visits 17 = .ok (.return_, 1) := by decide +kernel
theorem dX10_visits_18 : decode cX10_visits 18 = .ok (.aload_n 0, 1) := by decide +kernel
theorem dX10_visits_19 : decode cX10_visits 19 = .ok (.getfield 7, 3) := by decide +kernel
theorem dX10_visits_22 : decode cX10_visits 22 = .ok (.iconst 4, 1) := by decide +kernel
theorem dX10_visits_23 : decode cX10_visits 23 = .ok (.iaload, 1) := by decide +kernel
theorem dX10_visits_24 : decode cX10_visits 24 = .ok (.istore_n 1, 1) := by decide +kernel
theorem dX10_visits_25 : decode cX10_visits 25 = .ok (.aload_n 0, 1) := by decide +kernel
theorem dX10_visits_26 : decode cX10_visits 26 = .ok (.getfield 7, 3) := by decide +kernel
theorem dX10_visits_29 : decode cX10_visits 29 = .ok (.iconst 3, 1) := by decide +kernel
theorem dX10_visits_30 : decode cX10_visits 30 = .ok (.iaload, 1) := by decide +kernel
theorem dX10_visits_31 : decode cX10_visits 31 = .ok (.istore_n 2, 1) := by decide +kernel
theorem dX10_visits_32 : decode cX10_visits 32 = .ok (.aload_n 0, 1) := by decide +kernel
theorem dX10_visits_33 : decode cX10_visits 33 = .ok (.iload_n 1, 1) := by decide +kernel
theorem dX10_visits_34 : decode cX10_visits 34 = .ok (.bipush 6, 2) := by decide +kernel
theorem dX10_visits_36 : decode cX10_visits 36 = .ok (.invokevirtual 39, 3) := by decide +kernel
theorem dX10_visits_39 : decode cX10_visits 39 = .ok (.iconst (-1), 1) := by decide +kernel
theorem dX10_visits_40 : decode cX10_visits 40 = .ok (.if_icmp .ne 7, 3) := by decide +kernel
theorem dX10_visits_43 : decode cX10_visits 43 = .ok (.iconst 0, 1) := by decide +kernel
theorem dX10_visits_44 : decode cX10_visits 44 = .ok (.goto 12, 3) := by decide +kernel
theorem dX10_visits_47 : decode cX10_visits 47 = .ok (.iload_n 2, 1) := by decide +kernel
theorem dX10_visits_48 : decode cX10_visits 48 = .ok (.aload_n 0, 1) := by decide +kernel
theorem dX10_visits_49 : decode cX10_visits 49 = .ok (.iload_n 1, 1) := by decide +kernel
theorem dX10_visits_50 : decode cX10_visits 50 = .ok (.bipush 6, 2) := by decide +kernel
theorem dX10_visits_52 : decode cX10_visits 52 = .ok (.invokevirtual 39, 3) := by decide +kernel
theorem dX10_visits_55 : decode cX10_visits 55 = .ok (.isub, 1) := by decide +kernel
theorem dX10_visits_56 : decode cX10_visits 56 = .ok (.istore_n 3, 1) := by decide +kernel
theorem dX10_visits_57 : decode cX10_visits 57 = .ok (.aload_n 0, 1) := by decide +kernel
theorem dX10_visits_58 : decode cX10_visits 58 = .ok (.getfield 7, 3) := by decide +kernel
theorem dX10_visits_61 : decode cX10_visits 61 = .ok (.iload_n 1, 1) := by decide +kernel
theorem dX10_visits_62 : decode cX10_visits 62 = .ok (.bipush 6, 2) := by decide +kernel
theorem dX10_visits_64 : decode cX10_visits 64 = .ok (.invokestatic 29, 3) := by decide +kernel
theorem dX10_visits_67 : decode cX10_visits 67 = .ok (.iload_n 2, 1) := by decide +kernel
theorem dX10_visits_68 : decode cX10_visits 68 = .ok (.iastore, 1) := by decide +kernel
theorem dX10_visits_69 : decode cX10_visits 69 = .ok (.aload_n 0, 1) := by decide +kernel
theorem dX10_visits_70 : decode cX10_visits 70 = .ok (.getfield 7, 3) := by decide +kernel
theorem dX10_visits_73 : decode cX10_visits 73 = .ok (.iload_n 1, 1) := by decide +kernel
theorem dX10_visits_74 : decode cX10_visits 74 = .ok (.iconst 5, 1) := by decide +kernel
theorem dX10_visits_75 : decode cX10_visits 75 = .ok (.invokestatic 29, 3) := by decide +kernel
theorem dX10_visits_78 : decode cX10_visits 78 = .ok (.dup2, 1) := by decide +kernel
theorem dX10_visits_79 : decode cX10_visits 79 = .ok (.iaload, 1) := by decide +kernel
theorem dX10_visits_80 : decode cX10_visits 80 = .ok (.iconst 1, 1) := by decide +kernel
theorem dX10_visits_81 : decode cX10_visits 81 = .ok (.iadd, 1) := by decide +kernel
theorem dX10_visits_82 : decode cX10_visits 82 = .ok (.iastore, 1) := by decide +kernel
theorem dX10_visits_83 : decode cX10_visits 83 = .ok (.aload_n 0, 1) := by decide +kernel
theorem dX10_visits_84 : decode cX10_visits 84 = .ok (.getfield 7, 3) := by decide +kernel
theorem dX10_visits_87 : decode cX10_visits 87 = .ok (.bipush 9, 2) := by decide +kernel
theorem dX10_visits_89 : decode cX10_visits 89 = .ok (.dup2, 1) := by decide +kernel
theorem dX10_visits_90 : decode cX10_visits 90 = .ok (.iaload, 1) := by decide +kernel
theorem dX10_visits_91 : decode cX10_visits 91 = .ok (.iconst 1, 1) := by decide +kernel
theorem dX10_visits_92 : decode cX10_visits 92 = .ok (.iadd, 1) := by decide +kernel
theorem dX10_visits_93 : decode cX10_visits 93 = .ok (.iastore, 1) := by decide +kernel
theorem dX10_visits_94 : decode cX10_visits 94 = .ok (.aload_n 0, 1) := by decide +kernel
theorem dX10_visits_95 : decode cX10_visits 95 = .ok (.getfield 7, 3) := by decide +kernel
theorem dX10_visits_98 : decode cX10_visits 98 = .ok (.bipush 8, 2) := by decide +kernel
theorem dX10_visits_100 : decode cX10_visits 100 = .ok (.iload_n 3, 1) := by decide +kernel
theorem dX10_visits_101 : decode cX10_visits 101 = .ok (.aload_n 0, 1) := by decide +kernel
theorem dX10_visits_102 : decode cX10_visits 102 = .ok (.getfield 7, 3) := by decide +kernel
theorem dX10_visits_105 : decode cX10_visits 105 = .ok (.bipush 8, 2) := by decide +kernel
theorem dX10_visits_107 : decode cX10_visits 107 = .ok (.iaload, 1) := by decide +kernel
theorem dX10_visits_108 : decode cX10_visits 108 = .ok (.if_icmp .le 7, 3) := by decide +kernel
theorem dX10_visits_111 : decode cX10_visits 111 = .ok (.iload_n 3, 1) := by decide +kernel
theorem dX10_visits_112 : decode cX10_visits 112 = .ok (.goto 10, 3) := by decide +kernel
theorem dX10_visits_115 : decode cX10_visits 115 = .ok (.aload_n 0, 1) := by decide +kernel
theorem dX10_visits_116 : decode cX10_visits 116 = .ok (.getfield 7, 3) := by decide +kernel
theorem dX10_visits_119 : decode cX10_visits 119 = .ok (.bipush 8, 2) := by decide +kernel
theorem dX10_visits_121 : decode cX10_visits 121 = .ok (.iaload, 1) := by decide +kernel
theorem dX10_visits_122 : decode cX10_visits 122 = .ok (.iastore, 1) := by decide +kernel
theorem dX10_visits_123 : decode cX10_visits 123 = .ok (.aload_n 0, 1) := by decide +kernel
theorem dX10_visits_124 : decode cX10_visits 124 = .ok (.getfield 7, 3) := by decide +kernel
theorem dX10_visits_127 : decode cX10_visits 127 = .ok (.bipush 10, 2) := by decide +kernel
theorem dX10_visits_129 : decode cX10_visits 129 = .ok (.iaload, 1) := by decide +kernel
theorem dX10_visits_130 : decode cX10_visits 130 = .ok (.istore 4, 2) := by decide +kernel
theorem dX10_visits_132 : decode cX10_visits 132 = .ok (.aload_n 0, 1) := by decide +kernel
theorem dX10_visits_133 : decode cX10_visits 133 = .ok (.iload_n 1, 1) := by decide +kernel
theorem dX10_visits_134 : decode cX10_visits 134 = .ok (.iload_n 2, 1) := by decide +kernel
theorem dX10_visits_135 : decode cX10_visits 135 = .ok (.aload_n 0, 1) := by decide +kernel
theorem dX10_visits_136 : decode cX10_visits 136 = .ok (.getfield 7, 3) := by decide +kernel
theorem dX10_visits_139 : decode cX10_visits 139 = .ok (.iconst 0, 1) := by decide +kernel
theorem dX10_visits_140 : decode cX10_visits 140 = .ok (.iaload, 1) := by decide +kernel
theorem dX10_visits_141 : decode cX10_visits 141 = .ok (.iload_n 3, 1) := by decide +kernel
theorem dX10_visits_142 : decode cX10_visits 142 = .ok (.isub, 1) := by decide +kernel
theorem dX10_visits_143 : decode cX10_visits 143 = .ok (.invokevirtual 102, 3) := by decide +kernel
theorem dX10_visits_146 : decode cX10_visits 146 = .ok (.aload_n 0, 1) := by decide +kernel
theorem dX10_visits_147 : decode cX10_visits 147 = .ok (.iload_n 2, 1) := by decide +kernel
theorem dX10_visits_148 : decode cX10_visits 148 = .ok (.iload_n 1, 1) := by decide +kernel
theorem dX10_visits_149 : decode cX10_visits 149 = .ok (.iload_n 3, 1) := by decide +kernel
theorem dX10_visits_150 : decode cX10_visits 150 = .ok (.aload_n 0, 1) := by decide +kernel
theorem dX10_visits_151 : decode cX10_visits 151 = .ok (.getfield 7, 3) := by decide +kernel
theorem dX10_visits_154 : decode cX10_visits 154 = .ok (.bipush 10, 2) := by decide +kernel
theorem dX10_visits_156 : decode cX10_visits 156 = .ok (.iaload, 1) := by decide +kernel
theorem dX10_visits_157 : decode cX10_visits 157 = .ok (.iload 4, 2) := by decide +kernel
theorem dX10_visits_159 : decode cX10_visits 159 = .ok (.isub, 1) := by decide +kernel
theorem dX10_visits_160 : decode cX10_visits 160 = .ok (.invokevirtual 106, 3) := by decide +kernel
theorem dX10_visits_163 : decode cX10_visits 163 = .ok (.aload_n 0, 1) := by decide +kernel
theorem dX10_visits_164 : decode cX10_visits 164 = .ok (.iload_n 1, 1) := by decide +kernel
theorem dX10_visits_165 : decode cX10_visits 165 = .ok (.invokevirtual 110, 3) := by decide +kernel
theorem dX10_visits_168 : decode cX10_visits 168 = .ok (.aload_n 0, 1) := by decide +kernel
theorem dX10_visits_169 : decode cX10_visits 169 = .ok (.iload_n 1, 1) := by decide +kernel
theorem dX10_visits_170 : decode cX10_visits 170 = .ok (.invokevirtual 113, 3) := by decide +kernel
theorem dX10_visits_173 : decode cX10_visits 173 = .ok (.return_, 1) := by decide +kernel
theorem dX10_logs_0 : decode cX10_logs 0 = .ok (.aload_n 0, 1) := by decide +kernel
theorem dX10_logs_1 : decode cX10_logs 1 = .ok (.getfield 7, 3) := by decide +kernel
theorem dX10_logs_4 : decode cX10_logs 4 = .ok (.bipush 7, 2) := by decide +kernel
theorem dX10_logs_6 : decode cX10_logs 6 = .ok (.iaload, 1) := by decide +kernel
theorem dX10_logs_7 : decode cX10_logs 7 = .ok (.bipush 40, 2) := by decide +kernel
theorem dX10_logs_9 : decode cX10_logs 9 = .ok (.if_icmp .ne 49, 3) := by decide +kernel
theorem dX10_logs_12 : decode cX10_logs 12 = .ok (.sipush 782, 3) := by decide +kernel
theorem dX10_logs_15 : decode cX10_logs 15 = .ok (.istore 5, 2) := by decide +kernel
theorem dX10_logs_17 : decode cX10_logs 17 = .ok (.iload 5, 2) := by decide +kernel
theorem dX10_logs_19 : decode cX10_logs 19 = .ok (.sipush 938, 3) := by decide +kernel
theorem dX10_logs_22 : decode cX10_logs 22 = .ok (.if_icmp .ge 25, 3) := by decide +kernel
theorem dX10_logs_25 : decode cX10_logs 25 = .ok (.aload_n 0, 1) := by decide +kernel
theorem dX10_logs_26 : decode cX10_logs 26 = .ok (.getfield 7, 3) := by decide +kernel
theorem dX10_logs_29 : decode cX10_logs 29 = .ok (.iload 5, 2) := by decide +kernel
theorem dX10_logs_31 : decode cX10_logs 31 = .ok (.aload_n 0, 1) := by decide +kernel
theorem dX10_logs_32 : decode cX10_logs 32 = .ok (.getfield 7, 3) := by decide +kernel
theorem dX10_logs_35 : decode cX10_logs 35 = .ok (.iload 5, 2) := by decide +kernel
theorem dX10_logs_37 : decode cX10_logs 37 = .ok (.iconst 4, 1) := by decide +kernel
theorem dX10_logs_38 : decode cX10_logs 38 = .ok (.iadd, 1) := by decide +kernel
theorem dX10_logs_39 : decode cX10_logs 39 = .ok (.iaload, 1) := by decide +kernel
theorem dX10_logs_40 : decode cX10_logs 40 = .ok (.iastore, 1) := by decide +kernel
theorem dX10_logs_41 : decode cX10_logs 41 = .ok (.iinc 5 1, 3) := by decide +kernel
theorem dX10_logs_44 : decode cX10_logs 44 = .ok (.goto (-27), 3) := by decide +kernel
theorem dX10_logs_47 : decode cX10_logs 47 = .ok (.aload_n 0, 1) := by decide +kernel
theorem dX10_logs_48 : decode cX10_logs 48 = .ok (.getfield 7, 3) := by decide +kernel
theorem dX10_logs_51 : decode cX10_logs 51 = .ok (.bipush 7, 2) := by decide +kernel
theorem dX10_logs_53 : decode cX10_logs 53 = .ok (.dup2, 1) := by decide +kernel
theorem dX10_logs_54 : decode cX10_logs 54 = .ok (.iaload, 1) := by decide +kernel
theorem dX10_logs_55 : decode cX10_logs 55 = .ok (.iconst 1, 1) := by decide +kernel
theorem dX10_logs_56 : decode cX10_logs 56 = .ok (.isub, 1) := by decide +kernel
theorem dX10_logs_57 : decode cX10_logs 57 = .ok (.iastore, 1) := by decide +kernel
theorem dX10_logs_58 : decode cX10_logs 58 = .ok (.sipush 782, 3) := by decide +kernel
theorem dX10_logs_61 : decode cX10_logs 61 = .ok (.iconst 4, 1) := by decide +kernel
theorem dX10_logs_62 : decode cX10_logs 62 = .ok (.aload_n 0, 1) := by decide +kernel
theorem dX10_logs_63 : decode cX10_logs 63 = .ok (.getfield 7, 3) := by decide +kernel
theorem dX10_logs_66 : decode cX10_logs 66 = .ok (.bipush 7, 2) := by decide +kernel
theorem dX10_logs_68 : decode cX10_logs 68 = .ok (.iaload, 1) := by decide +kernel
theorem dX10_logs_69 : decode cX10_logs 69 = .ok (.imul, 1) := by decide +kernel
theorem dX10_logs_70 : decode cX10_logs 70 = .ok (.iadd, 1) := by decide +kernel
theorem dX10_logs_71 : decode cX10_logs 71 = .ok (.istore 5, 2) := by decide +kernel
theorem dX10_logs_73 : decode cX10_logs 73 = .ok (.aload_n 0, 1) := by decide +kernel
theorem dX10_logs_74 : decode cX10_logs 74 = .ok (.getfield 7, 3) := by decide +kernel
theorem dX10_logs_77 : decode cX10_logs 77 = .ok (.iload 5, 2) := by decide +kernel
theorem dX10_logs_79 : decode cX10_logs 79 = .ok (.iload_n 1, 1) := by decide +kernel
theorem dX10_logs_80 : decode cX10_logs 80 = .ok (.iastore, 1) := by decide +kernel
theorem dX10_logs_81 : decode cX10_logs 81 = .ok (.aload_n 0, 1) := by decide +kernel
theorem dX10_logs_82 : decode cX10_logs 82 = .ok (.getfield 7, 3) := by decide +kernel
theorem dX10_logs_85 : decode cX10_logs 85 = .ok (.iload 5, 2) := by decide +kernel
theorem dX10_logs_87 : decode cX10_logs 87 = .ok (.iconst 1, 1) := by decide +kernel
theorem dX10_logs_88 : decode cX10_logs 88 = .ok (.iadd, 1) := by decide +kernel
theorem dX10_logs_89 : decode cX10_logs 89 = .ok (.iload_n 2, 1) := by decide +kernel
theorem dX10_logs_90 : decode cX10_logs 90 = .ok (.iastore, 1) := by decide +kernel
theorem dX10_logs_91 : decode cX10_logs 91 = .ok (.aload_n 0, 1) := by decide +kernel
theorem dX10_logs_92 : decode cX10_logs 92 = .ok (.getfield 7, 3) := by decide +kernel
theorem dX10_logs_95 : decode cX10_logs 95 = .ok (.iload 5, 2) := by decide +kernel
theorem dX10_logs_97 : decode cX10_logs 97 = .ok (.iconst 2, 1) := by decide +kernel
theorem dX10_logs_98 : decode cX10_logs 98 = .ok (.iadd, 1) := by decide +kernel
theorem dX10_logs_99 : decode cX10_logs 99 = .ok (.iload_n 3, 1) := by decide +kernel
theorem dX10_logs_100 : decode cX10_logs 100 = .ok (.iastore, 1) := by decide +kernel
theorem dX10_logs_101 : decode cX10_logs 101 = .ok (.aload_n 0, 1) := by decide +kernel
theorem dX10_logs_102 : decode cX10_logs 102 = .ok (.getfield 7, 3) := by decide +kernel
theorem dX10_logs_105 : decode cX10_logs 105 = .ok (.iload 5, 2) := by decide +kernel
theorem dX10_logs_107 : decode cX10_logs 107 = .ok (.iconst 3, 1) := by decide +kernel
theorem dX10_logs_108 : decode cX10_logs 108 = .ok (.iadd, 1) := by decide +kernel
theorem dX10_logs_109 : decode cX10_logs 109 = .ok (.iload 4, 2) := by decide +kernel
theorem dX10_logs_111 : decode cX10_logs 111 = .ok (.iastore, 1) := by decide +kernel
theorem dX10_logs_112 : decode cX10_logs 112 = .ok (.aload_n 0, 1) := by decide +kernel
theorem dX10_logs_113 : decode cX10_logs 113 = .ok (.getfield 7, 3) := by decide +kernel
theorem dX10_logs_116 : decode cX10_logs 116 = .ok (.bipush 7, 2) := by decide +kernel
theorem dX10_logs_118 : decode cX10_logs 118 = .ok (.dup2, 1) := by decide +kernel
theorem dX10_logs_119 : decode cX10_logs 119 = .ok (.iaload, 1) := by decide +kernel
theorem dX10_logs_120 : decode cX10_logs 120 = .ok (.iconst 1, 1) := by decide +kernel
theorem dX10_logs_121 : decode cX10_logs 121 = .ok (.iadd, 1) := by decide +kernel
theorem dX10_logs_122 : decode cX10_logs 122 = .ok (.iastore, 1) := by decide +kernel
theorem dX10_logs_123 : decode cX10_logs 123 = .ok (.return_, 1) := by decide +kernel
theorem dX10_run_0 : decode cX10_run 0 = .ok (.aload_n 0, 1) := by decide +kernel
theorem dX10_run_1 : decode cX10_run 1 = .ok (.iload_n 1, 1) := by decide +kernel
theorem dX10_run_2 : decode cX10_run 2 = .ok (.i2l, 1) := by decide +kernel
theorem dX10_run_3 : decode cX10_run 3 = .ok (.lconst 0, 1) := by decide +kernel
theorem dX10_run_4 : decode cX10_run 4 = .ok (.ldc2_w 116, 3) := by decide +kernel
theorem dX10_run_7 : decode cX10_run 7 = .ok (.invokestatic 35, 3) := by decide +kernel
theorem dX10_run_10 : decode cX10_run 10 = .ok (.aload_n 0, 1) := by decide +kernel
theorem dX10_run_11 : decode cX10_run 11 = .ok (.getfield 7, 3) := by decide +kernel
theorem dX10_run_14 : decode cX10_run 14 = .ok (.iconst 3, 1) := by decide +kernel
theorem dX10_run_15 : decode cX10_run 15 = .ok (.iaload, 1) := by decide +kernel
theorem dX10_run_16 : decode cX10_run 16 = .ok (.ldc 118, 2) := by decide +kernel
theorem dX10_run_18 : decode cX10_run 18 = .ok (.if_icmp .gt 7, 3) := by decide +kernel
theorem dX10_run_21 : decode cX10_run 21 = .ok (.iconst 1, 1) := by decide +kernel
theorem dX10_run_22 : decode cX10_run 22 = .ok (.goto 4, 3) := by decide +kernel
theorem dX10_run_25 : decode cX10_run 25 = .ok (.iconst 0, 1) := by decide +kernel
theorem dX10_run_26 : decode cX10_run 26 = .ok (.iconst 1, 1) := by decide +kernel
theorem dX10_run_27 : decode cX10_run 27 = .ok (.invokevirtual 53, 3) := by decide +kernel
theorem dX10_run_30 : decode cX10_run 30 = .ok (.ifCond .ne 5, 3) := by decide +kernel
theorem dX10_run_33 : decode cX10_run 33 = .ok (.iconst 0, 1) := by decide +kernel
theorem dX10_run_34 : decode cX10_run 34 = .ok (.ireturn, 1) := by decide +kernel
theorem dX10_run_35 : decode cX10_run 35 = .ok (.aload_n 0, 1) := by decide +kernel
theorem dX10_run_36 : decode cX10_run 36 = .ok (.invokevirtual 57, 3) := by decide +kernel
theorem dX10_run_39 : decode cX10_run 39 = .ok (.iconst 0, 1) := by decide +kernel
theorem dX10_run_40 : decode cX10_run 40 = .ok (.istore_n 2, 1) := by decide +kernel
theorem dX10_run_41 : decode cX10_run 41 = .ok (.iload_n 2, 1) := by decide +kernel
theorem dX10_run_42 : decode cX10_run 42 = .ok (.iload_n 1, 1) := by decide +kernel
theorem dX10_run_43 : decode cX10_run 43 = .ok (.if_icmp .ge 13, 3) := by decide +kernel
theorem dX10_run_46 : decode cX10_run 46 = .ok (.aload_n 0, 1) := by decide +kernel
theorem dX10_run_47 : decode cX10_run 47 = .ok (.invokevirtual 119, 3) := by decide +kernel
theorem dX10_run_50 : decode cX10_run 50 = .ok (.iinc 2 1, 3) := by decide +kernel
theorem dX10_run_53 : decode cX10_run 53 = .ok (.goto (-12), 3) := by decide +kernel
theorem dX10_run_56 : decode cX10_run 56 = .ok (.aload_n 0, 1) := by decide +kernel
theorem dX10_run_57 : decode cX10_run 57 = .ok (.getfield 7, 3) := by decide +kernel
theorem dX10_run_60 : decode cX10_run 60 = .ok (.iconst 3, 1) := by decide +kernel
theorem dX10_run_61 : decode cX10_run 61 = .ok (.iaload, 1) := by decide +kernel
theorem dX10_run_62 : decode cX10_run 62 = .ok (.ireturn, 1) := by decide +kernel
theorem dX10_loseToken_0 : decode cX10_loseToken 0 = .ok (.aload_n 0, 1) := by decide +kernel
theorem dX10_loseToken_1 : decode cX10_loseToken 1 = .ok (.iconst 0, 1) := by decide +kernel
theorem dX10_loseToken_2 : decode cX10_loseToken 2 = .ok (.putfield 22, 3) := by decide +kernel
theorem dX10_loseToken_5 : decode cX10_loseToken 5 = .ok (.aload_n 0, 1) := by decide +kernel
theorem dX10_loseToken_6 : decode cX10_loseToken 6 = .ok (.invokevirtual 57, 3) := by decide +kernel
theorem dX10_loseToken_9 : decode cX10_loseToken 9 = .ok (.aload_n 0, 1) := by decide +kernel
theorem dX10_loseToken_10 : decode cX10_loseToken 10 = .ok (.getfield 7, 3) := by decide +kernel
theorem dX10_loseToken_13 : decode cX10_loseToken 13 = .ok (.iconst 4, 1) := by decide +kernel
theorem dX10_loseToken_14 : decode cX10_loseToken 14 = .ok (.iaload, 1) := by decide +kernel
theorem dX10_loseToken_15 : decode cX10_loseToken 15 = .ok (.istore_n 1, 1) := by decide +kernel
theorem dX10_loseToken_16 : decode cX10_loseToken 16 = .ok (.aload_n 0, 1) := by decide +kernel
theorem dX10_loseToken_17 : decode cX10_loseToken 17 = .ok (.getfield 7, 3) := by decide +kernel
theorem dX10_loseToken_20 : decode cX10_loseToken 20 = .ok (.iconst 4, 1) := by decide +kernel
theorem dX10_loseToken_21 : decode cX10_loseToken 21 = .ok (.iconst (-1), 1) := by decide +kernel
theorem dX10_loseToken_22 : decode cX10_loseToken 22 = .ok (.iastore, 1) := by decide +kernel
theorem dX10_loseToken_23 : decode cX10_loseToken 23 = .ok (.iload_n 1, 1) := by decide +kernel
theorem dX10_loseToken_24 : decode cX10_loseToken 24 = .ok (.ireturn, 1) := by decide +kernel
theorem dX10_inRing_0 : decode cX10_inRing 0 = .ok (.iconst 0, 1) := by decide +kernel
theorem dX10_inRing_1 : decode cX10_inRing 1 = .ok (.istore_n 1, 1) := by decide +kernel
theorem dX10_inRing_2 : decode cX10_inRing 2 = .ok (.iconst 0, 1) := by decide +kernel
theorem dX10_inRing_3 : decode cX10_inRing 3 = .ok (.istore_n 2, 1) := by decide +kernel
theorem dX10_inRing_4 : decode cX10_inRing 4 = .ok (.iload_n 2, 1) := by decide +kernel
theorem dX10_inRing_5 : decode cX10_inRing 5 = .ok (.bipush 32, 2) := by decide +kernel
theorem dX10_inRing_7 : decode cX10_inRing 7 = .ok (.if_icmp .ge 25, 3) := by decide +kernel
theorem dX10_inRing_10 : decode cX10_inRing 10 = .ok (.iload_n 1, 1) := by decide +kernel
theorem dX10_inRing_11 : decode cX10_inRing 11 = .ok (.aload_n 0, 1) := by decide +kernel
theorem dX10_inRing_12 : decode cX10_inRing 12 = .ok (.iload_n 2, 1) := by decide +kernel
theorem dX10_inRing_13 : decode cX10_inRing 13 = .ok (.invokevirtual 83, 3) := by decide +kernel
theorem dX10_inRing_16 : decode cX10_inRing 16 = .ok (.ifCond .eq 7, 3) := by decide +kernel
theorem dX10_inRing_19 : decode cX10_inRing 19 = .ok (.iconst 1, 1) := by decide +kernel
theorem dX10_inRing_20 : decode cX10_inRing 20 = .ok (.goto 4, 3) := by decide +kernel
theorem dX10_inRing_23 : decode cX10_inRing 23 = .ok (.iconst 0, 1) := by decide +kernel
theorem dX10_inRing_24 : decode cX10_inRing 24 = .ok (.iadd, 1) := by decide +kernel
theorem dX10_inRing_25 : decode cX10_inRing 25 = .ok (.istore_n 1, 1) := by decide +kernel
theorem dX10_inRing_26 : decode cX10_inRing 26 = .ok (.iinc 2 1, 3) := by decide +kernel
theorem dX10_inRing_29 : decode cX10_inRing 29 = .ok (.goto (-25), 3) := by decide +kernel
theorem dX10_inRing_32 : decode cX10_inRing 32 = .ok (.iload_n 1, 1) := by decide +kernel
theorem dX10_inRing_33 : decode cX10_inRing 33 = .ok (.ireturn, 1) := by decide +kernel
theorem dX10_settingOf_0 : decode cX10_settingOf 0 = .ok (.iload_n 1, 1) := by decide +kernel
theorem dX10_settingOf_1 : decode cX10_settingOf 1 = .ok (.tableswitch 78 3 8 #[39, 44, 49, 57, 64, 71], 39) := by decide +kernel
theorem dX10_settingOf_40 : decode cX10_settingOf 40 = .ok (.aload_n 0, 1) := by decide +kernel
theorem dX10_settingOf_41 : decode cX10_settingOf 41 = .ok (.invokevirtual 49, 3) := by decide +kernel
theorem dX10_settingOf_44 : decode cX10_settingOf 44 = .ok (.ireturn, 1) := by decide +kernel
theorem dX10_settingOf_45 : decode cX10_settingOf 45 = .ok (.aload_n 0, 1) := by decide +kernel
theorem dX10_settingOf_46 : decode cX10_settingOf 46 = .ok (.invokevirtual 122, 3) := by decide +kernel
theorem dX10_settingOf_49 : decode cX10_settingOf 49 = .ok (.ireturn, 1) := by decide +kernel
theorem dX10_settingOf_50 : decode cX10_settingOf 50 = .ok (.aload_n 0, 1) := by decide +kernel
theorem dX10_settingOf_51 : decode cX10_settingOf 51 = .ok (.getfield 7, 3) := by decide +kernel
theorem dX10_settingOf_54 : decode cX10_settingOf 54 = .ok (.bipush 6, 2) := by decide +kernel
theorem dX10_settingOf_56 : decode cX10_settingOf 56 = .ok (.iaload, 1) := by decide +kernel
theorem dX10_settingOf_57 : decode cX10_settingOf 57 = .ok (.ireturn, 1) := by decide +kernel
theorem dX10_settingOf_58 : decode cX10_settingOf 58 = .ok (.aload_n 0, 1) := by decide +kernel
theorem dX10_settingOf_59 : decode cX10_settingOf 59 = .ok (.getfield 7, 3) := by decide +kernel
theorem dX10_settingOf_62 : decode cX10_settingOf 62 = .ok (.iconst 3, 1) := by decide +kernel
theorem dX10_settingOf_63 : decode cX10_settingOf 63 = .ok (.iaload, 1) := by decide +kernel
theorem dX10_settingOf_64 : decode cX10_settingOf 64 = .ok (.ireturn, 1) := by decide +kernel
theorem dX10_settingOf_65 : decode cX10_settingOf 65 = .ok (.aload_n 0, 1) := by decide +kernel
theorem dX10_settingOf_66 : decode cX10_settingOf 66 = .ok (.getfield 7, 3) := by decide +kernel
theorem dX10_settingOf_69 : decode cX10_settingOf 69 = .ok (.iconst 4, 1) := by decide +kernel
theorem dX10_settingOf_70 : decode cX10_settingOf 70 = .ok (.iaload, 1) := by decide +kernel
theorem dX10_settingOf_71 : decode cX10_settingOf 71 = .ok (.ireturn, 1) := by decide +kernel
theorem dX10_settingOf_72 : decode cX10_settingOf 72 = .ok (.aload_n 0, 1) := by decide +kernel
theorem dX10_settingOf_73 : decode cX10_settingOf 73 = .ok (.getfield 7, 3) := by decide +kernel
theorem dX10_settingOf_76 : decode cX10_settingOf 76 = .ok (.iconst 5, 1) := by decide +kernel
theorem dX10_settingOf_77 : decode cX10_settingOf 77 = .ok (.iaload, 1) := by decide +kernel
theorem dX10_settingOf_78 : decode cX10_settingOf 78 = .ok (.ireturn, 1) := by decide +kernel
theorem dX10_settingOf_79 : decode cX10_settingOf 79 = .ok (.aload_n 0, 1) := by decide +kernel
theorem dX10_settingOf_80 : decode cX10_settingOf 80 = .ok (.getfield 7, 3) := by decide +kernel
theorem dX10_settingOf_83 : decode cX10_settingOf 83 = .ok (.iload_n 1, 1) := by decide +kernel
theorem dX10_settingOf_84 : decode cX10_settingOf 84 = .ok (.iaload, 1) := by decide +kernel
theorem dX10_settingOf_85 : decode cX10_settingOf 85 = .ok (.ireturn, 1) := by decide +kernel
theorem dX10_setting_0 : decode cX10_setting 0 = .ok (.aload_n 0, 1) := by decide +kernel
theorem dX10_setting_1 : decode cX10_setting 1 = .ok (.iload_n 1, 1) := by decide +kernel
theorem dX10_setting_2 : decode cX10_setting 2 = .ok (.i2l, 1) := by decide +kernel
theorem dX10_setting_3 : decode cX10_setting 3 = .ok (.lconst 0, 1) := by decide +kernel
theorem dX10_setting_4 : decode cX10_setting 4 = .ok (.ldc2_w 125, 3) := by decide +kernel
theorem dX10_setting_7 : decode cX10_setting 7 = .ok (.invokestatic 35, 3) := by decide +kernel
theorem dX10_setting_10 : decode cX10_setting 10 = .ok (.iconst 1, 1) := by decide +kernel
theorem dX10_setting_11 : decode cX10_setting 11 = .ok (.iconst 1, 1) := by decide +kernel
theorem dX10_setting_12 : decode cX10_setting 12 = .ok (.invokevirtual 53, 3) := by decide +kernel
theorem dX10_setting_15 : decode cX10_setting 15 = .ok (.ifCond .eq 11, 3) := by decide +kernel
theorem dX10_setting_18 : decode cX10_setting 18 = .ok (.aload_n 0, 1) := by decide +kernel
theorem dX10_setting_19 : decode cX10_setting 19 = .ok (.iload_n 1, 1) := by decide +kernel
theorem dX10_setting_20 : decode cX10_setting 20 = .ok (.invokevirtual 127, 3) := by decide +kernel
theorem dX10_setting_23 : decode cX10_setting 23 = .ok (.goto 4, 3) := by decide +kernel
theorem dX10_setting_26 : decode cX10_setting 26 = .ok (.iconst 0, 1) := by decide +kernel
theorem dX10_setting_27 : decode cX10_setting 27 = .ok (.ireturn, 1) := by decide +kernel
theorem dX10_queueOf_0 : decode cX10_queueOf 0 = .ok (.iconst 0, 1) := by decide +kernel
theorem dX10_queueOf_1 : decode cX10_queueOf 1 = .ok (.istore_n 2, 1) := by decide +kernel
theorem dX10_queueOf_2 : decode cX10_queueOf 2 = .ok (.iconst 0, 1) := by decide +kernel
theorem dX10_queueOf_3 : decode cX10_queueOf 3 = .ok (.istore_n 3, 1) := by decide +kernel
theorem dX10_queueOf_4 : decode cX10_queueOf 4 = .ok (.iload_n 3, 1) := by decide +kernel
theorem dX10_queueOf_5 : decode cX10_queueOf 5 = .ok (.aload_n 0, 1) := by decide +kernel
theorem dX10_queueOf_6 : decode cX10_queueOf 6 = .ok (.getfield 7, 3) := by decide +kernel
theorem dX10_queueOf_9 : decode cX10_queueOf 9 = .ok (.iconst 5, 1) := by decide +kernel
theorem dX10_queueOf_10 : decode cX10_queueOf 10 = .ok (.iaload, 1) := by decide +kernel
theorem dX10_queueOf_11 : decode cX10_queueOf 11 = .ok (.if_icmp .ge 37, 3) := by decide +kernel
theorem dX10_queueOf_14 : decode cX10_queueOf 14 = .ok (.iload_n 2, 1) := by decide +kernel
theorem dX10_queueOf_15 : decode cX10_queueOf 15 = .ok (.aload_n 0, 1) := by decide +kernel
theorem dX10_queueOf_16 : decode cX10_queueOf 16 = .ok (.iload_n 3, 1) := by decide +kernel
theorem dX10_queueOf_17 : decode cX10_queueOf 17 = .ok (.iconst 2, 1) := by decide +kernel
theorem dX10_queueOf_18 : decode cX10_queueOf 18 = .ok (.invokevirtual 80, 3) := by decide +kernel
theorem dX10_queueOf_21 : decode cX10_queueOf 21 = .ok (.iload_n 1, 1) := by decide +kernel
theorem dX10_queueOf_22 : decode cX10_queueOf 22 = .ok (.if_icmp .ne 17, 3) := by decide +kernel
theorem dX10_queueOf_25 : decode cX10_queueOf 25 = .ok (.aload_n 0, 1) := by decide +kernel
theorem dX10_queueOf_26 : decode cX10_queueOf 26 = .ok (.iload_n 3, 1) := by decide +kernel
theorem dX10_queueOf_27 : decode cX10_queueOf 27 = .ok (.iconst 4, 1) := by decide +kernel
theorem dX10_queueOf_28 : decode cX10_queueOf 28 = .ok (.invokevirtual 80, 3) := by decide +kernel
theorem dX10_queueOf_31 : decode cX10_queueOf 31 = .ok (.iconst (-1), 1) := by decide +kernel
theorem dX10_queueOf_32 : decode cX10_queueOf 32 = .ok (.if_icmp .ne 7, 3) := by decide +kernel
theorem dX10_queueOf_35 : decode cX10_queueOf 35 = .ok (.iconst 1, 1) := by decide +kernel
theorem dX10_queueOf_36 : decode cX10_queueOf 36 = .ok (.goto 4, 3) := by decide +kernel
theorem dX10_queueOf_39 : decode cX10_queueOf 39 = .ok (.iconst 0, 1) := by decide +kernel
theorem dX10_queueOf_40 : decode cX10_queueOf 40 = .ok (.iadd, 1) := by decide +kernel
theorem dX10_queueOf_41 : decode cX10_queueOf 41 = .ok (.istore_n 2, 1) := by decide +kernel
theorem dX10_queueOf_42 : decode cX10_queueOf 42 = .ok (.iinc 3 1, 3) := by decide +kernel
theorem dX10_queueOf_45 : decode cX10_queueOf 45 = .ok (.goto (-41), 3) := by decide +kernel
theorem dX10_queueOf_48 : decode cX10_queueOf 48 = .ok (.iload_n 2, 1) := by decide +kernel
theorem dX10_queueOf_49 : decode cX10_queueOf 49 = .ok (.ireturn, 1) := by decide +kernel
theorem dX10_stationOf_0 : decode cX10_stationOf 0 = .ok (.iload_n 2, 1) := by decide +kernel
theorem dX10_stationOf_1 : decode cX10_stationOf 1 = .ok (.iconst 4, 1) := by decide +kernel
theorem dX10_stationOf_2 : decode cX10_stationOf 2 = .ok (.if_icmp .ne 11, 3) := by decide +kernel
theorem dX10_stationOf_5 : decode cX10_stationOf 5 = .ok (.aload_n 0, 1) := by decide +kernel
theorem dX10_stationOf_6 : decode cX10_stationOf 6 = .ok (.iload_n 1, 1) := by decide +kernel
theorem dX10_stationOf_7 : decode cX10_stationOf 7 = .ok (.invokevirtual 131, 3) := by decide +kernel
theorem dX10_stationOf_10 : decode cX10_stationOf 10 = .ok (.goto 20, 3) := by decide +kernel
theorem dX10_stationOf_13 : decode cX10_stationOf 13 = .ok (.aload_n 0, 1) := by decide +kernel
theorem dX10_stationOf_14 : decode cX10_stationOf 14 = .ok (.iload_n 1, 1) := by decide +kernel
theorem dX10_stationOf_15 : decode cX10_stationOf 15 = .ok (.iload_n 2, 1) := by decide +kernel
theorem dX10_stationOf_16 : decode cX10_stationOf 16 = .ok (.iconst 4, 1) := by decide +kernel
theorem dX10_stationOf_17 : decode cX10_stationOf 17 = .ok (.if_icmp .ge 9, 3) := by decide +kernel
theorem dX10_stationOf_20 : decode cX10_stationOf 20 = .ok (.iconst 1, 1) := by decide +kernel
theorem dX10_stationOf_21 : decode cX10_stationOf 21 = .ok (.iload_n 2, 1) := by decide +kernel
theorem dX10_stationOf_22 : decode cX10_stationOf 22 = .ok (.iadd, 1) := by decide +kernel
theorem dX10_stationOf_23 : decode cX10_stationOf 23 = .ok (.goto 4, 3) := by decide +kernel
theorem dX10_stationOf_26 : decode cX10_stationOf 26 = .ok (.iload_n 2, 1) := by decide +kernel
theorem dX10_stationOf_27 : decode cX10_stationOf 27 = .ok (.invokevirtual 39, 3) := by decide +kernel
theorem dX10_stationOf_30 : decode cX10_stationOf 30 = .ok (.ireturn, 1) := by decide +kernel
theorem dX10_station_0 : decode cX10_station 0 = .ok (.aload_n 0, 1) := by decide +kernel
theorem dX10_station_1 : decode cX10_station 1 = .ok (.aload_n 0, 1) := by decide +kernel
theorem dX10_station_2 : decode cX10_station 2 = .ok (.iload_n 1, 1) := by decide +kernel
theorem dX10_station_3 : decode cX10_station 3 = .ok (.invokevirtual 45, 3) := by decide +kernel
theorem dX10_station_6 : decode cX10_station 6 = .ok (.iload_n 2, 1) := by decide +kernel
theorem dX10_station_7 : decode cX10_station 7 = .ok (.i2l, 1) := by decide +kernel
theorem dX10_station_8 : decode cX10_station 8 = .ok (.lconst 0, 1) := by decide +kernel
theorem dX10_station_9 : decode cX10_station 9 = .ok (.ldc2_w 134, 3) := by decide +kernel
theorem dX10_station_12 : decode cX10_station 12 = .ok (.invokestatic 35, 3) := by decide +kernel
theorem dX10_station_15 : decode cX10_station 15 = .ok (.iconst 1, 1) := by decide +kernel
theorem dX10_station_16 : decode cX10_station 16 = .ok (.invokevirtual 53, 3) := by decide +kernel
theorem dX10_station_19 : decode cX10_station 19 = .ok (.ifCond .eq 12, 3) := by decide +kernel
theorem dX10_station_22 : decode cX10_station 22 = .ok (.aload_n 0, 1) := by decide +kernel
theorem dX10_station_23 : decode cX10_station 23 = .ok (.iload_n 1, 1) := by decide +kernel
theorem dX10_station_24 : decode cX10_station 24 = .ok (.iload_n 2, 1) := by decide +kernel
theorem dX10_station_25 : decode cX10_station 25 = .ok (.invokevirtual 136, 3) := by decide +kernel
theorem dX10_station_28 : decode cX10_station 28 = .ok (.goto 4, 3) := by decide +kernel
theorem dX10_station_31 : decode cX10_station 31 = .ok (.iconst 0, 1) := by decide +kernel
theorem dX10_station_32 : decode cX10_station 32 = .ok (.ireturn, 1) := by decide +kernel
theorem dX10_addressAt_0 : decode cX10_addressAt 0 = .ok (.aload_n 0, 1) := by decide +kernel
theorem dX10_addressAt_1 : decode cX10_addressAt 1 = .ok (.iload_n 1, 1) := by decide +kernel
theorem dX10_addressAt_2 : decode cX10_addressAt 2 = .ok (.i2l, 1) := by decide +kernel
theorem dX10_addressAt_3 : decode cX10_addressAt 3 = .ok (.lconst 0, 1) := by decide +kernel
theorem dX10_addressAt_4 : decode cX10_addressAt 4 = .ok (.aload_n 0, 1) := by decide +kernel
theorem dX10_addressAt_5 : decode cX10_addressAt 5 = .ok (.invokevirtual 49, 3) := by decide +kernel
theorem dX10_addressAt_8 : decode cX10_addressAt 8 = .ok (.i2l, 1) := by decide +kernel
theorem dX10_addressAt_9 : decode cX10_addressAt 9 = .ok (.lconst 1, 1) := by decide +kernel
theorem dX10_addressAt_10 : decode cX10_addressAt 10 = .ok (.lsub, 1) := by decide +kernel
theorem dX10_addressAt_11 : decode cX10_addressAt 11 = .ok (.invokestatic 35, 3) := by decide +kernel
theorem dX10_addressAt_14 : decode cX10_addressAt 14 = .ok (.iconst 1, 1) := by decide +kernel
theorem dX10_addressAt_15 : decode cX10_addressAt 15 = .ok (.iconst 1, 1) := by decide +kernel
theorem dX10_addressAt_16 : decode cX10_addressAt 16 = .ok (.invokevirtual 53, 3) := by decide +kernel
theorem dX10_addressAt_19 : decode cX10_addressAt 19 = .ok (.ifCond .ne 5, 3) := by decide +kernel
theorem dX10_addressAt_22 : decode cX10_addressAt 22 = .ok (.iconst 0, 1) := by decide +kernel
theorem dX10_addressAt_23 : decode cX10_addressAt 23 = .ok (.ireturn, 1) := by decide +kernel
theorem dX10_addressAt_24 : decode cX10_addressAt 24 = .ok (.iconst 0, 1) := by decide +kernel
theorem dX10_addressAt_25 : decode cX10_addressAt 25 = .ok (.istore_n 2, 1) := by decide +kernel
theorem dX10_addressAt_26 : decode cX10_addressAt 26 = .ok (.iload_n 1, 1) := by decide +kernel
theorem dX10_addressAt_27 : decode cX10_addressAt 27 = .ok (.istore_n 3, 1) := by decide +kernel
theorem dX10_addressAt_28 : decode cX10_addressAt 28 = .ok (.iload_n 3, 1) := by decide +kernel
theorem dX10_addressAt_29 : decode cX10_addressAt 29 = .ok (.ifCond .gt 12, 3) := by decide +kernel
theorem dX10_addressAt_32 : decode cX10_addressAt 32 = .ok (.aload_n 0, 1) := by decide +kernel
theorem dX10_addressAt_33 : decode cX10_addressAt 33 = .ok (.iload_n 2, 1) := by decide +kernel
theorem dX10_addressAt_34 : decode cX10_addressAt 34 = .ok (.iconst 0, 1) := by decide +kernel
theorem dX10_addressAt_35 : decode cX10_addressAt 35 = .ok (.invokevirtual 39, 3) := by decide +kernel
theorem dX10_addressAt_38 : decode cX10_addressAt 38 = .ok (.ifCond .ne 18, 3) := by decide +kernel
theorem dX10_addressAt_41 : decode cX10_addressAt 41 = .ok (.iload_n 3, 1) := by decide +kernel
theorem dX10_addressAt_42 : decode cX10_addressAt 42 = .ok (.aload_n 0, 1) := by decide +kernel
theorem dX10_addressAt_43 : decode cX10_addressAt 43 = .ok (.iload_n 2, 1) := by decide +kernel
theorem dX10_addressAt_44 : decode cX10_addressAt 44 = .ok (.iconst 0, 1) := by decide +kernel
theorem dX10_addressAt_45 : decode cX10_addressAt 45 = .ok (.invokevirtual 39, 3) := by decide +kernel
theorem dX10_addressAt_48 : decode cX10_addressAt 48 = .ok (.isub, 1) := by decide +kernel
theorem dX10_addressAt_49 : decode cX10_addressAt 49 = .ok (.istore_n 3, 1) := by decide +kernel
theorem dX10_addressAt_50 : decode cX10_addressAt 50 = .ok (.iinc 2 1, 3) := by decide +kernel
theorem dX10_addressAt_53 : decode cX10_addressAt 53 = .ok (.goto (-25), 3) := by decide +kernel
theorem dX10_addressAt_56 : decode cX10_addressAt 56 = .ok (.iload_n 2, 1) := by decide +kernel
theorem dX10_addressAt_57 : decode cX10_addressAt 57 = .ok (.ireturn, 1) := by decide +kernel
theorem dX10_queued_0 : decode cX10_queued 0 = .ok (.aload_n 0, 1) := by decide +kernel
theorem dX10_queued_1 : decode cX10_queued 1 = .ok (.iload_n 1, 1) := by decide +kernel
theorem dX10_queued_2 : decode cX10_queued 2 = .ok (.invokevirtual 45, 3) := by decide +kernel
theorem dX10_queued_5 : decode cX10_queued 5 = .ok (.istore_n 3, 1) := by decide +kernel
theorem dX10_queued_6 : decode cX10_queued 6 = .ok (.aload_n 0, 1) := by decide +kernel
theorem dX10_queued_7 : decode cX10_queued 7 = .ok (.iload_n 3, 1) := by decide +kernel
theorem dX10_queued_8 : decode cX10_queued 8 = .ok (.iload_n 3, 1) := by decide +kernel
theorem dX10_queued_9 : decode cX10_queued 9 = .ok (.ifCond .eq 24, 3) := by decide +kernel
theorem dX10_queued_12 : decode cX10_queued 12 = .ok (.iload_n 2, 1) := by decide +kernel
theorem dX10_queued_13 : decode cX10_queued 13 = .ok (.i2l, 1) := by decide +kernel
theorem dX10_queued_14 : decode cX10_queued 14 = .ok (.lconst 0, 1) := by decide +kernel
theorem dX10_queued_15 : decode cX10_queued 15 = .ok (.aload_n 0, 1) := by decide +kernel
theorem dX10_queued_16 : decode cX10_queued 16 = .ok (.iload_n 1, 1) := by decide +kernel
theorem dX10_queued_17 : decode cX10_queued 17 = .ok (.invokevirtual 131, 3) := by decide +kernel
theorem dX10_queued_20 : decode cX10_queued 20 = .ok (.i2l, 1) := by decide +kernel
theorem dX10_queued_21 : decode cX10_queued 21 = .ok (.lconst 1, 1) := by decide +kernel
theorem dX10_queued_22 : decode cX10_queued 22 = .ok (.lsub, 1) := by decide +kernel
theorem dX10_queued_23 : decode cX10_queued 23 = .ok (.invokestatic 35, 3) := by decide +kernel
theorem dX10_queued_26 : decode cX10_queued 26 = .ok (.ifCond .eq 7, 3) := by decide +kernel
theorem dX10_queued_29 : decode cX10_queued 29 = .ok (.iconst 1, 1) := by decide +kernel
theorem dX10_queued_30 : decode cX10_queued 30 = .ok (.goto 4, 3) := by decide +kernel
theorem dX10_queued_33 : decode cX10_queued 33 = .ok (.iconst 0, 1) := by decide +kernel
theorem dX10_queued_34 : decode cX10_queued 34 = .ok (.iconst 1, 1) := by decide +kernel
theorem dX10_queued_35 : decode cX10_queued 35 = .ok (.invokevirtual 53, 3) := by decide +kernel
theorem dX10_queued_38 : decode cX10_queued 38 = .ok (.ifCond .ne 5, 3) := by decide +kernel
theorem dX10_queued_41 : decode cX10_queued 41 = .ok (.iconst 0, 1) := by decide +kernel
theorem dX10_queued_42 : decode cX10_queued 42 = .ok (.ireturn, 1) := by decide +kernel
theorem dX10_queued_43 : decode cX10_queued 43 = .ok (.aload_n 0, 1) := by decide +kernel
theorem dX10_queued_44 : decode cX10_queued 44 = .ok (.iload_n 1, 1) := by decide +kernel
theorem dX10_queued_45 : decode cX10_queued 45 = .ok (.iconst (-1), 1) := by decide +kernel
theorem dX10_queued_46 : decode cX10_queued 46 = .ok (.invokevirtual 86, 3) := by decide +kernel
theorem dX10_queued_49 : decode cX10_queued 49 = .ok (.istore 4, 2) := by decide +kernel
theorem dX10_queued_51 : decode cX10_queued 51 = .ok (.iconst 0, 1) := by decide +kernel
theorem dX10_queued_52 : decode cX10_queued 52 = .ok (.istore 5, 2) := by decide +kernel
theorem dX10_queued_54 : decode cX10_queued 54 = .ok (.iload 5, 2) := by decide +kernel
theorem dX10_queued_56 : decode cX10_queued 56 = .ok (.iload_n 2, 1) := by decide +kernel
theorem dX10_queued_57 : decode cX10_queued 57 = .ok (.if_icmp .ge 18, 3) := by decide +kernel
theorem dX10_queued_60 : decode cX10_queued 60 = .ok (.aload_n 0, 1) := by decide +kernel
theorem dX10_queued_61 : decode cX10_queued 61 = .ok (.iload_n 1, 1) := by decide +kernel
theorem dX10_queued_62 : decode cX10_queued 62 = .ok (.iload 4, 2) := by decide +kernel
theorem dX10_queued_64 : decode cX10_queued 64 = .ok (.invokevirtual 86, 3) := by decide +kernel
theorem dX10_queued_67 : decode cX10_queued 67 = .ok (.istore 4, 2) := by decide +kernel
theorem dX10_queued_69 : decode cX10_queued 69 = .ok (.iinc 5 1, 3) := by decide +kernel
theorem dX10_queued_72 : decode cX10_queued 72 = .ok (.goto (-18), 3) := by decide +kernel
theorem dX10_queued_75 : decode cX10_queued 75 = .ok (.iload 4, 2) := by decide +kernel
theorem dX10_queued_77 : decode cX10_queued 77 = .ok (.ireturn, 1) := by decide +kernel
theorem dX10_message_0 : decode cX10_message 0 = .ok (.aload_n 0, 1) := by decide +kernel
theorem dX10_message_1 : decode cX10_message 1 = .ok (.iload_n 1, 1) := by decide +kernel
theorem dX10_message_2 : decode cX10_message 2 = .ok (.i2l, 1) := by decide +kernel
theorem dX10_message_3 : decode cX10_message 3 = .ok (.lconst 0, 1) := by decide +kernel
theorem dX10_message_4 : decode cX10_message 4 = .ok (.aload_n 0, 1) := by decide +kernel
theorem dX10_message_5 : decode cX10_message 5 = .ok (.getfield 7, 3) := by decide +kernel
theorem dX10_message_8 : decode cX10_message 8 = .ok (.iconst 5, 1) := by decide +kernel
theorem dX10_message_9 : decode cX10_message 9 = .ok (.iaload, 1) := by decide +kernel
theorem dX10_message_10 : decode cX10_message 10 = .ok (.i2l, 1) := by decide +kernel
theorem dX10_message_11 : decode cX10_message 11 = .ok (.lconst 1, 1) := by decide +kernel
theorem dX10_message_12 : decode cX10_message 12 = .ok (.lsub, 1) := by decide +kernel
theorem dX10_message_13 : decode cX10_message 13 = .ok (.invokestatic 35, 3) := by decide +kernel
theorem dX10_message_16 : decode cX10_message 16 = .ok (.iload_n 2, 1) := by decide +kernel
theorem dX10_message_17 : decode cX10_message 17 = .ok (.i2l, 1) := by decide +kernel
theorem dX10_message_18 : decode cX10_message 18 = .ok (.lconst 0, 1) := by decide +kernel
theorem dX10_message_19 : decode cX10_message 19 = .ok (.ldc2_w 139, 3) := by decide +kernel
theorem dX10_message_22 : decode cX10_message 22 = .ok (.invokestatic 35, 3) := by decide +kernel
theorem dX10_message_25 : decode cX10_message 25 = .ok (.iconst 1, 1) := by decide +kernel
theorem dX10_message_26 : decode cX10_message 26 = .ok (.invokevirtual 53, 3) := by decide +kernel
theorem dX10_message_29 : decode cX10_message 29 = .ok (.ifCond .eq 12, 3) := by decide +kernel
theorem dX10_message_32 : decode cX10_message 32 = .ok (.aload_n 0, 1) := by decide +kernel
theorem dX10_message_33 : decode cX10_message 33 = .ok (.iload_n 1, 1) := by decide +kernel
theorem dX10_message_34 : decode cX10_message 34 = .ok (.iload_n 2, 1) := by decide +kernel
theorem dX10_message_35 : decode cX10_message 35 = .ok (.invokevirtual 80, 3) := by decide +kernel
theorem dX10_message_38 : decode cX10_message 38 = .ok (.goto 4, 3) := by decide +kernel
theorem dX10_message_41 : decode cX10_message 41 = .ok (.iconst 0, 1) := by decide +kernel
theorem dX10_message_42 : decode cX10_message 42 = .ok (.ireturn, 1) := by decide +kernel
theorem dX10_count_0 : decode cX10_count 0 = .ok (.aload_n 0, 1) := by decide +kernel
theorem dX10_count_1 : decode cX10_count 1 = .ok (.iload_n 1, 1) := by decide +kernel
theorem dX10_count_2 : decode cX10_count 2 = .ok (.i2l, 1) := by decide +kernel
theorem dX10_count_3 : decode cX10_count 3 = .ok (.lconst 0, 1) := by decide +kernel
theorem dX10_count_4 : decode cX10_count 4 = .ok (.ldc2_w 134, 3) := by decide +kernel
theorem dX10_count_7 : decode cX10_count 7 = .ok (.invokestatic 35, 3) := by decide +kernel
theorem dX10_count_10 : decode cX10_count 10 = .ok (.iconst 1, 1) := by decide +kernel
theorem dX10_count_11 : decode cX10_count 11 = .ok (.iconst 1, 1) := by decide +kernel
theorem dX10_count_12 : decode cX10_count 12 = .ok (.invokevirtual 53, 3) := by decide +kernel
theorem dX10_count_15 : decode cX10_count 15 = .ok (.ifCond .eq 15, 3) := by decide +kernel
theorem dX10_count_18 : decode cX10_count 18 = .ok (.aload_n 0, 1) := by decide +kernel
theorem dX10_count_19 : decode cX10_count 19 = .ok (.getfield 7, 3) := by decide +kernel
theorem dX10_count_22 : decode cX10_count 22 = .ok (.bipush 9, 2) := by decide +kernel
theorem dX10_count_24 : decode cX10_count 24 = .ok (.iload_n 1, 1) := by decide +kernel
theorem dX10_count_25 : decode cX10_count 25 = .ok (.iadd, 1) := by decide +kernel
theorem dX10_count_26 : decode cX10_count 26 = .ok (.iaload, 1) := by decide +kernel
theorem dX10_count_27 : decode cX10_count 27 = .ok (.goto 4, 3) := by decide +kernel
theorem dX10_count_30 : decode cX10_count 30 = .ok (.iconst 0, 1) := by decide +kernel
theorem dX10_count_31 : decode cX10_count 31 = .ok (.ireturn, 1) := by decide +kernel
theorem dX10_isNoisy_0 : decode cX10_isNoisy 0 = .ok (.aload_n 0, 1) := by decide +kernel
theorem dX10_isNoisy_1 : decode cX10_isNoisy 1 = .ok (.iload_n 1, 1) := by decide +kernel
theorem dX10_isNoisy_2 : decode cX10_isNoisy 2 = .ok (.i2l, 1) := by decide +kernel
theorem dX10_isNoisy_3 : decode cX10_isNoisy 3 = .ok (.lconst 0, 1) := by decide +kernel
theorem dX10_isNoisy_4 : decode cX10_isNoisy 4 = .ok (.ldc2_w 74, 3) := by decide +kernel
theorem dX10_isNoisy_7 : decode cX10_isNoisy 7 = .ok (.invokestatic 35, 3) := by decide +kernel
theorem dX10_isNoisy_10 : decode cX10_isNoisy 10 = .ok (.iconst 1, 1) := by decide +kernel
theorem dX10_isNoisy_11 : decode cX10_isNoisy 11 = .ok (.iconst 1, 1) := by decide +kernel
theorem dX10_isNoisy_12 : decode cX10_isNoisy 12 = .ok (.invokevirtual 53, 3) := by decide +kernel
theorem dX10_isNoisy_15 : decode cX10_isNoisy 15 = .ok (.ifCond .eq 16, 3) := by decide +kernel
theorem dX10_isNoisy_18 : decode cX10_isNoisy 18 = .ok (.aload_n 0, 1) := by decide +kernel
theorem dX10_isNoisy_19 : decode cX10_isNoisy 19 = .ok (.iload_n 1, 1) := by decide +kernel
theorem dX10_isNoisy_20 : decode cX10_isNoisy 20 = .ok (.iload_n 1, 1) := by decide +kernel
theorem dX10_isNoisy_21 : decode cX10_isNoisy 21 = .ok (.invokevirtual 76, 3) := by decide +kernel
theorem dX10_isNoisy_24 : decode cX10_isNoisy 24 = .ok (.ifCond .eq 7, 3) := by decide +kernel
theorem dX10_isNoisy_27 : decode cX10_isNoisy 27 = .ok (.iconst 1, 1) := by decide +kernel
theorem dX10_isNoisy_28 : decode cX10_isNoisy 28 = .ok (.goto 4, 3) := by decide +kernel
theorem dX10_isNoisy_31 : decode cX10_isNoisy 31 = .ok (.iconst 0, 1) := by decide +kernel
theorem dX10_isNoisy_32 : decode cX10_isNoisy 32 = .ok (.ireturn, 1) := by decide +kernel
theorem dX10_logged_0 : decode cX10_logged 0 = .ok (.aload_n 0, 1) := by decide +kernel
theorem dX10_logged_1 : decode cX10_logged 1 = .ok (.iconst 0, 1) := by decide +kernel
theorem dX10_logged_2 : decode cX10_logged 2 = .ok (.putfield 22, 3) := by decide +kernel
theorem dX10_logged_5 : decode cX10_logged 5 = .ok (.aload_n 0, 1) := by decide +kernel
theorem dX10_logged_6 : decode cX10_logged 6 = .ok (.getfield 7, 3) := by decide +kernel
theorem dX10_logged_9 : decode cX10_logged 9 = .ok (.bipush 7, 2) := by decide +kernel
theorem dX10_logged_11 : decode cX10_logged 11 = .ok (.iaload, 1) := by decide +kernel
theorem dX10_logged_12 : decode cX10_logged 12 = .ok (.ireturn, 1) := by decide +kernel
theorem dX10_visit_0 : decode cX10_visit 0 = .ok (.aload_n 0, 1) := by decide +kernel
theorem dX10_visit_1 : decode cX10_visit 1 = .ok (.iload_n 1, 1) := by decide +kernel
theorem dX10_visit_2 : decode cX10_visit 2 = .ok (.i2l, 1) := by decide +kernel
theorem dX10_visit_3 : decode cX10_visit 3 = .ok (.lconst 0, 1) := by decide +kernel
theorem dX10_visit_4 : decode cX10_visit 4 = .ok (.aload_n 0, 1) := by decide +kernel
theorem dX10_visit_5 : decode cX10_visit 5 = .ok (.getfield 7, 3) := by decide +kernel
theorem dX10_visit_8 : decode cX10_visit 8 = .ok (.bipush 7, 2) := by decide +kernel
theorem dX10_visit_10 : decode cX10_visit 10 = .ok (.iaload, 1) := by decide +kernel
theorem dX10_visit_11 : decode cX10_visit 11 = .ok (.i2l, 1) := by decide +kernel
theorem dX10_visit_12 : decode cX10_visit 12 = .ok (.lconst 1, 1) := by decide +kernel
theorem dX10_visit_13 : decode cX10_visit 13 = .ok (.lsub, 1) := by decide +kernel
theorem dX10_visit_14 : decode cX10_visit 14 = .ok (.invokestatic 35, 3) := by decide +kernel
theorem dX10_visit_17 : decode cX10_visit 17 = .ok (.iload_n 2, 1) := by decide +kernel
theorem dX10_visit_18 : decode cX10_visit 18 = .ok (.i2l, 1) := by decide +kernel
theorem dX10_visit_19 : decode cX10_visit 19 = .ok (.lconst 0, 1) := by decide +kernel
theorem dX10_visit_20 : decode cX10_visit 20 = .ok (.ldc2_w 141, 3) := by decide +kernel
theorem dX10_visit_23 : decode cX10_visit 23 = .ok (.invokestatic 35, 3) := by decide +kernel
theorem dX10_visit_26 : decode cX10_visit 26 = .ok (.iconst 1, 1) := by decide +kernel
theorem dX10_visit_27 : decode cX10_visit 27 = .ok (.invokevirtual 53, 3) := by decide +kernel
theorem dX10_visit_30 : decode cX10_visit 30 = .ok (.ifCond .eq 20, 3) := by decide +kernel
theorem dX10_visit_33 : decode cX10_visit 33 = .ok (.aload_n 0, 1) := by decide +kernel
theorem dX10_visit_34 : decode cX10_visit 34 = .ok (.getfield 7, 3) := by decide +kernel
theorem dX10_visit_37 : decode cX10_visit 37 = .ok (.sipush 782, 3) := by decide +kernel
theorem dX10_visit_40 : decode cX10_visit 40 = .ok (.iconst 4, 1) := by decide +kernel
theorem dX10_visit_41 : decode cX10_visit 41 = .ok (.iload_n 1, 1) := by decide +kernel
theorem dX10_visit_42 : decode cX10_visit 42 = .ok (.imul, 1) := by decide +kernel
theorem dX10_visit_43 : decode cX10_visit 43 = .ok (.iadd, 1) := by decide +kernel
theorem dX10_visit_44 : decode cX10_visit 44 = .ok (.iload_n 2, 1) := by decide +kernel
theorem dX10_visit_45 : decode cX10_visit 45 = .ok (.iadd, 1) := by decide +kernel
theorem dX10_visit_46 : decode cX10_visit 46 = .ok (.iaload, 1) := by decide +kernel
theorem dX10_visit_47 : decode cX10_visit 47 = .ok (.goto 4, 3) := by decide +kernel
theorem dX10_visit_50 : decode cX10_visit 50 = .ok (.iconst 0, 1) := by decide +kernel
theorem dX10_visit_51 : decode cX10_visit 51 = .ok (.ireturn, 1) := by decide +kernel
theorem dX10_greatestRotation_0 : decode cX10_greatestRotation 0 = .ok (.aload_n 0, 1) := by decide +kernel
theorem dX10_greatestRotation_1 : decode cX10_greatestRotation 1 = .ok (.iconst 0, 1) := by decide +kernel
theorem dX10_greatestRotation_2 : decode cX10_greatestRotation 2 = .ok (.putfield 22, 3) := by decide +kernel
theorem dX10_greatestRotation_5 : decode cX10_greatestRotation 5 = .ok (.aload_n 0, 1) := by decide +kernel
theorem dX10_greatestRotation_6 : decode cX10_greatestRotation 6 = .ok (.getfield 7, 3) := by decide +kernel
theorem dX10_greatestRotation_9 : decode cX10_greatestRotation 9 = .ok (.bipush 8, 2) := by decide +kernel
theorem dX10_greatestRotation_11 : decode cX10_greatestRotation 11 = .ok (.iaload, 1) := by decide +kernel
theorem dX10_greatestRotation_12 : decode cX10_greatestRotation 12 = .ok (.ireturn, 1) := by decide +kernel
theorem dX10_waits_0 : decode cX10_waits 0 = .ok (.aload_n 0, 1) := by decide +kernel
theorem dX10_waits_1 : decode cX10_waits 1 = .ok (.iconst 0, 1) := by decide +kernel
theorem dX10_waits_2 : decode cX10_waits 2 = .ok (.putfield 22, 3) := by decide +kernel
theorem dX10_waits_5 : decode cX10_waits 5 = .ok (.iconst 0, 1) := by decide +kernel
theorem dX10_waits_6 : decode cX10_waits 6 = .ok (.istore_n 2, 1) := by decide +kernel
theorem dX10_waits_7 : decode cX10_waits 7 = .ok (.lconst 0, 1) := by decide +kernel
theorem dX10_waits_8 : decode cX10_waits 8 = .ok (.lstore_n 3, 1) := by decide +kernel
theorem dX10_waits_9 : decode cX10_waits 9 = .ok (.iconst 0, 1) := by decide +kernel
theorem dX10_waits_10 : decode cX10_waits 10 = .ok (.istore 5, 2) := by decide +kernel
theorem dX10_waits_12 : decode cX10_waits 12 = .ok (.iload 5, 2) := by decide +kernel
theorem dX10_waits_14 : decode cX10_waits 14 = .ok (.aload_n 0, 1) := by decide +kernel
theorem dX10_waits_15 : decode cX10_waits 15 = .ok (.getfield 7, 3) := by decide +kernel
theorem dX10_waits_18 : decode cX10_waits 18 = .ok (.iconst 5, 1) := by decide +kernel
theorem dX10_waits_19 : decode cX10_waits 19 = .ok (.iaload, 1) := by decide +kernel
theorem dX10_waits_20 : decode cX10_waits 20 = .ok (.if_icmp .ge 47, 3) := by decide +kernel
theorem dX10_waits_23 : decode cX10_waits 23 = .ok (.aload_n 0, 1) := by decide +kernel
theorem dX10_waits_24 : decode cX10_waits 24 = .ok (.iload 5, 2) := by decide +kernel
theorem dX10_waits_26 : decode cX10_waits 26 = .ok (.iconst 4, 1) := by decide +kernel
theorem dX10_waits_27 : decode cX10_waits 27 = .ok (.invokevirtual 80, 3) := by decide +kernel
theorem dX10_waits_30 : decode cX10_waits 30 = .ok (.istore 6, 2) := by decide +kernel
theorem dX10_waits_32 : decode cX10_waits 32 = .ok (.iload 6, 2) := by decide +kernel
theorem dX10_waits_34 : decode cX10_waits 34 = .ok (.iload_n 2, 1) := by decide +kernel
theorem dX10_waits_35 : decode cX10_waits 35 = .ok (.if_icmp .le 8, 3) := by decide +kernel
theorem dX10_waits_38 : decode cX10_waits 38 = .ok (.iload 6, 2) := by decide +kernel
theorem dX10_waits_40 : decode cX10_waits 40 = .ok (.goto 4, 3) := by decide +kernel
theorem dX10_waits_43 : decode cX10_waits 43 = .ok (.iload_n 2, 1) := by decide +kernel
theorem dX10_waits_44 : decode cX10_waits 44 = .ok (.istore_n 2, 1) := by decide +kernel
theorem dX10_waits_45 : decode cX10_waits 45 = .ok (.lload_n 3, 1) := by decide +kernel
theorem dX10_waits_46 : decode cX10_waits 46 = .ok (.iload 6, 2) := by decide +kernel
theorem dX10_waits_48 : decode cX10_waits 48 = .ok (.iconst (-1), 1) := by decide +kernel
theorem dX10_waits_49 : decode cX10_waits 49 = .ok (.if_icmp .ne 7, 3) := by decide +kernel
theorem dX10_waits_52 : decode cX10_waits 52 = .ok (.lconst 0, 1) := by decide +kernel
theorem dX10_waits_53 : decode cX10_waits 53 = .ok (.goto 6, 3) := by decide +kernel
theorem dX10_waits_56 : decode cX10_waits 56 = .ok (.iload 6, 2) := by decide +kernel
theorem dX10_waits_58 : decode cX10_waits 58 = .ok (.i2l, 1) := by decide +kernel
theorem dX10_waits_59 : decode cX10_waits 59 = .ok (.ladd, 1) := by decide +kernel
theorem dX10_waits_60 : decode cX10_waits 60 = .ok (.lstore_n 3, 1) := by decide +kernel
theorem dX10_waits_61 : decode cX10_waits 61 = .ok (.iinc 5 1, 3) := by decide +kernel
theorem dX10_waits_64 : decode cX10_waits 64 = .ok (.goto (-52), 3) := by decide +kernel
theorem dX10_waits_67 : decode cX10_waits 67 = .ok (.iload_n 1, 1) := by decide +kernel
theorem dX10_waits_68 : decode cX10_waits 68 = .ok (.ifCond .eq 8, 3) := by decide +kernel
theorem dX10_waits_71 : decode cX10_waits 71 = .ok (.iload_n 2, 1) := by decide +kernel
theorem dX10_waits_72 : decode cX10_waits 72 = .ok (.i2d, 1) := by decide +kernel
theorem dX10_waits_73 : decode cX10_waits 73 = .ok (.goto 28, 3) := by decide +kernel
theorem dX10_waits_76 : decode cX10_waits 76 = .ok (.aload_n 0, 1) := by decide +kernel
theorem dX10_waits_77 : decode cX10_waits 77 = .ok (.getfield 7, 3) := by decide +kernel
theorem dX10_waits_80 : decode cX10_waits 80 = .ok (.bipush 10, 2) := by decide +kernel
theorem dX10_waits_82 : decode cX10_waits 82 = .ok (.iaload, 1) := by decide +kernel
theorem dX10_waits_83 : decode cX10_waits 83 = .ok (.ifCond .ne 7, 3) := by decide +kernel
theorem dX10_waits_86 : decode cX10_waits 86 = .ok (.dconst 0, 1) := by decide +kernel
theorem dX10_waits_87 : decode cX10_waits 87 = .ok (.goto 14, 3) := by decide +kernel
theorem dX10_waits_90 : decode cX10_waits 90 = .ok (.lload_n 3, 1) := by decide +kernel
theorem dX10_waits_91 : decode cX10_waits 91 = .ok (.l2d, 1) := by decide +kernel
theorem dX10_waits_92 : decode cX10_waits 92 = .ok (.aload_n 0, 1) := by decide +kernel
theorem dX10_waits_93 : decode cX10_waits 93 = .ok (.getfield 7, 3) := by decide +kernel
theorem dX10_waits_96 : decode cX10_waits 96 = .ok (.bipush 10, 2) := by decide +kernel
theorem dX10_waits_98 : decode cX10_waits 98 = .ok (.iaload, 1) := by decide +kernel
theorem dX10_waits_99 : decode cX10_waits 99 = .ok (.i2d, 1) := by decide +kernel
theorem dX10_waits_100 : decode cX10_waits 100 = .ok (.ddiv, 1) := by decide +kernel
theorem dX10_waits_101 : decode cX10_waits 101 = .ok (.dreturn, 1) := by decide +kernel
theorem dX10_use_0 : decode cX10_use 0 = .ok (.aload_n 0, 1) := by decide +kernel
theorem dX10_use_1 : decode cX10_use 1 = .ok (.iconst 0, 1) := by decide +kernel
theorem dX10_use_2 : decode cX10_use 2 = .ok (.putfield 22, 3) := by decide +kernel
theorem dX10_use_5 : decode cX10_use 5 = .ok (.aload_n 0, 1) := by decide +kernel
theorem dX10_use_6 : decode cX10_use 6 = .ok (.getfield 7, 3) := by decide +kernel
theorem dX10_use_9 : decode cX10_use 9 = .ok (.iconst 3, 1) := by decide +kernel
theorem dX10_use_10 : decode cX10_use 10 = .ok (.iaload, 1) := by decide +kernel
theorem dX10_use_11 : decode cX10_use 11 = .ok (.ifCond .ne 7, 3) := by decide +kernel
theorem dX10_use_14 : decode cX10_use 14 = .ok (.dconst 0, 1) := by decide +kernel
theorem dX10_use_15 : decode cX10_use 15 = .ok (.goto 19, 3) := by decide +kernel
theorem dX10_use_18 : decode cX10_use 18 = .ok (.aload_n 0, 1) := by decide +kernel
theorem dX10_use_19 : decode cX10_use 19 = .ok (.getfield 7, 3) := by decide +kernel
theorem dX10_use_22 : decode cX10_use 22 = .ok (.bipush 15, 2) := by decide +kernel
theorem dX10_use_24 : decode cX10_use 24 = .ok (.iaload, 1) := by decide +kernel
theorem dX10_use_25 : decode cX10_use 25 = .ok (.i2d, 1) := by decide +kernel
theorem dX10_use_26 : decode cX10_use 26 = .ok (.aload_n 0, 1) := by decide +kernel
theorem dX10_use_27 : decode cX10_use 27 = .ok (.getfield 7, 3) := by decide +kernel
theorem dX10_use_30 : decode cX10_use 30 = .ok (.iconst 3, 1) := by decide +kernel
theorem dX10_use_31 : decode cX10_use 31 = .ok (.iaload, 1) := by decide +kernel
theorem dX10_use_32 : decode cX10_use 32 = .ok (.i2d, 1) := by decide +kernel
theorem dX10_use_33 : decode cX10_use 33 = .ok (.ddiv, 1) := by decide +kernel
theorem dX10_use_34 : decode cX10_use 34 = .ok (.dreturn, 1) := by decide +kernel
theorem dX10_waitOf_0 : decode cX10_waitOf 0 = .ok (.iload_n 1, 1) := by decide +kernel
theorem dX10_waitOf_1 : decode cX10_waitOf 1 = .ok (.i2l, 1) := by decide +kernel
theorem dX10_waitOf_2 : decode cX10_waitOf 2 = .ok (.lconst 0, 1) := by decide +kernel
theorem dX10_waitOf_3 : decode cX10_waitOf 3 = .ok (.aload_n 0, 1) := by decide +kernel
theorem dX10_waitOf_4 : decode cX10_waitOf 4 = .ok (.getfield 7, 3) := by decide +kernel
end
section
theorem dX10_waitOf_7 : decode cX10_waitOf 7 = .ok (.iconst 5, 1) := by decide +kernel
theorem dX10_waitOf_8 : decode cX10_waitOf 8 = .ok (.iaload, 1) := by decide +kernel
theorem dX10_waitOf_9 : decode cX10_waitOf 9 = .ok (.i2l, 1) := by decide +kernel
theorem dX10_waitOf_10 : decode cX10_waitOf 10 = .ok (.lconst 1, 1) := by decide +kernel
theorem dX10_waitOf_11 : decode cX10_waitOf 11 = .ok (.lsub, 1) := by decide +kernel
theorem dX10_waitOf_12 : decode cX10_waitOf 12 = .ok (.invokestatic 35, 3) := by decide +kernel
theorem dX10_waitOf_15 : decode cX10_waitOf 15 = .ok (.istore_n 2, 1) := by decide +kernel
theorem dX10_waitOf_16 : decode cX10_waitOf 16 = .ok (.aload_n 0, 1) := by decide +kernel
theorem dX10_waitOf_17 : decode cX10_waitOf 17 = .ok (.iload_n 2, 1) := by decide +kernel
theorem dX10_waitOf_18 : decode cX10_waitOf 18 = .ok (.iload_n 2, 1) := by decide +kernel
theorem dX10_waitOf_19 : decode cX10_waitOf 19 = .ok (.ifCond .eq 28, 3) := by decide +kernel
theorem dX10_waitOf_22 : decode cX10_waitOf 22 = .ok (.aload_n 0, 1) := by decide +kernel
theorem dX10_waitOf_23 : decode cX10_waitOf 23 = .ok (.iload_n 1, 1) := by decide +kernel
theorem dX10_waitOf_24 : decode cX10_waitOf 24 = .ok (.iconst 4, 1) := by decide +kernel
theorem dX10_waitOf_25 : decode cX10_waitOf 25 = .ok (.invokevirtual 80, 3) := by decide +kernel
theorem dX10_waitOf_28 : decode cX10_waitOf 28 = .ok (.iconst (-1), 1) := by decide +kernel
theorem dX10_waitOf_29 : decode cX10_waitOf 29 = .ok (.if_icmp .ne 18, 3) := by decide +kernel
theorem dX10_waitOf_32 : decode cX10_waitOf 32 = .ok (.aload_n 0, 1) := by decide +kernel
theorem dX10_waitOf_33 : decode cX10_waitOf 33 = .ok (.getfield 7, 3) := by decide +kernel
theorem dX10_waitOf_36 : decode cX10_waitOf 36 = .ok (.iconst 3, 1) := by decide +kernel
theorem dX10_waitOf_37 : decode cX10_waitOf 37 = .ok (.iaload, 1) := by decide +kernel
theorem dX10_waitOf_38 : decode cX10_waitOf 38 = .ok (.ldc 118, 2) := by decide +kernel
theorem dX10_waitOf_40 : decode cX10_waitOf 40 = .ok (.if_icmp .gt 7, 3) := by decide +kernel
theorem dX10_waitOf_43 : decode cX10_waitOf 43 = .ok (.iconst 1, 1) := by decide +kernel
theorem dX10_waitOf_44 : decode cX10_waitOf 44 = .ok (.goto 4, 3) := by decide +kernel
theorem dX10_waitOf_47 : decode cX10_waitOf 47 = .ok (.iconst 0, 1) := by decide +kernel
theorem dX10_waitOf_48 : decode cX10_waitOf 48 = .ok (.iconst 1, 1) := by decide +kernel
theorem dX10_waitOf_49 : decode cX10_waitOf 49 = .ok (.invokevirtual 53, 3) := by decide +kernel
theorem dX10_waitOf_52 : decode cX10_waitOf 52 = .ok (.ifCond .ne 5, 3) := by decide +kernel
theorem dX10_waitOf_55 : decode cX10_waitOf 55 = .ok (.iconst 0, 1) := by decide +kernel
theorem dX10_waitOf_56 : decode cX10_waitOf 56 = .ok (.ireturn, 1) := by decide +kernel
theorem dX10_waitOf_57 : decode cX10_waitOf 57 = .ok (.aload_n 0, 1) := by decide +kernel
theorem dX10_waitOf_58 : decode cX10_waitOf 58 = .ok (.invokevirtual 143, 3) := by decide +kernel
theorem dX10_waitOf_61 : decode cX10_waitOf 61 = .ok (.iconst 0, 1) := by decide +kernel
theorem dX10_waitOf_62 : decode cX10_waitOf 62 = .ok (.istore_n 3, 1) := by decide +kernel
theorem dX10_waitOf_63 : decode cX10_waitOf 63 = .ok (.iload_n 3, 1) := by decide +kernel
theorem dX10_waitOf_64 : decode cX10_waitOf 64 = .ok (.sipush 300, 3) := by decide +kernel
theorem dX10_waitOf_67 : decode cX10_waitOf 67 = .ok (.if_icmp .ge 23, 3) := by decide +kernel
theorem dX10_waitOf_70 : decode cX10_waitOf 70 = .ok (.aload_n 0, 1) := by decide +kernel
theorem dX10_waitOf_71 : decode cX10_waitOf 71 = .ok (.iload_n 1, 1) := by decide +kernel
theorem dX10_waitOf_72 : decode cX10_waitOf 72 = .ok (.iconst 4, 1) := by decide +kernel
theorem dX10_waitOf_73 : decode cX10_waitOf 73 = .ok (.invokevirtual 80, 3) := by decide +kernel
theorem dX10_waitOf_76 : decode cX10_waitOf 76 = .ok (.iconst (-1), 1) := by decide +kernel
theorem dX10_waitOf_77 : decode cX10_waitOf 77 = .ok (.if_icmp .ne 13, 3) := by decide +kernel
theorem dX10_waitOf_80 : decode cX10_waitOf 80 = .ok (.aload_n 0, 1) := by decide +kernel
theorem dX10_waitOf_81 : decode cX10_waitOf 81 = .ok (.invokevirtual 119, 3) := by decide +kernel
theorem dX10_waitOf_84 : decode cX10_waitOf 84 = .ok (.iinc 3 1, 3) := by decide +kernel
theorem dX10_waitOf_87 : decode cX10_waitOf 87 = .ok (.goto (-24), 3) := by decide +kernel
theorem dX10_waitOf_90 : decode cX10_waitOf 90 = .ok (.aload_n 0, 1) := by decide +kernel
theorem dX10_waitOf_91 : decode cX10_waitOf 91 = .ok (.iload_n 1, 1) := by decide +kernel
theorem dX10_waitOf_92 : decode cX10_waitOf 92 = .ok (.iconst 4, 1) := by decide +kernel
theorem dX10_waitOf_93 : decode cX10_waitOf 93 = .ok (.invokevirtual 80, 3) := by decide +kernel
theorem dX10_waitOf_96 : decode cX10_waitOf 96 = .ok (.istore_n 3, 1) := by decide +kernel
theorem dX10_waitOf_97 : decode cX10_waitOf 97 = .ok (.aload_n 0, 1) := by decide +kernel
theorem dX10_waitOf_98 : decode cX10_waitOf 98 = .ok (.invokevirtual 146, 3) := by decide +kernel
theorem dX10_waitOf_101 : decode cX10_waitOf 101 = .ok (.iload_n 3, 1) := by decide +kernel
theorem dX10_waitOf_102 : decode cX10_waitOf 102 = .ok (.ireturn, 1) := by decide +kernel
theorem dX10_isComplete_0 : decode cX10_isComplete 0 = .ok (.iconst 1, 1) := by decide +kernel
theorem dX10_isComplete_1 : decode cX10_isComplete 1 = .ok (.istore_n 1, 1) := by decide +kernel
theorem dX10_isComplete_2 : decode cX10_isComplete 2 = .ok (.iconst 0, 1) := by decide +kernel
theorem dX10_isComplete_3 : decode cX10_isComplete 3 = .ok (.istore_n 2, 1) := by decide +kernel
theorem dX10_isComplete_4 : decode cX10_isComplete 4 = .ok (.iload_n 2, 1) := by decide +kernel
theorem dX10_isComplete_5 : decode cX10_isComplete 5 = .ok (.bipush 32, 2) := by decide +kernel
theorem dX10_isComplete_7 : decode cX10_isComplete 7 = .ok (.if_icmp .ge 47, 3) := by decide +kernel
theorem dX10_isComplete_10 : decode cX10_isComplete 10 = .ok (.iload_n 1, 1) := by decide +kernel
theorem dX10_isComplete_11 : decode cX10_isComplete 11 = .ok (.ifCond .eq 35, 3) := by decide +kernel
theorem dX10_isComplete_14 : decode cX10_isComplete 14 = .ok (.aload_n 0, 1) := by decide +kernel
theorem dX10_isComplete_15 : decode cX10_isComplete 15 = .ok (.iload_n 2, 1) := by decide +kernel
theorem dX10_isComplete_16 : decode cX10_isComplete 16 = .ok (.iconst 0, 1) := by decide +kernel
theorem dX10_isComplete_17 : decode cX10_isComplete 17 = .ok (.invokevirtual 39, 3) := by decide +kernel
theorem dX10_isComplete_20 : decode cX10_isComplete 20 = .ok (.ifCond .eq 22, 3) := by decide +kernel
theorem dX10_isComplete_23 : decode cX10_isComplete 23 = .ok (.aload_n 0, 1) := by decide +kernel
theorem dX10_isComplete_24 : decode cX10_isComplete 24 = .ok (.iload_n 2, 1) := by decide +kernel
theorem dX10_isComplete_25 : decode cX10_isComplete 25 = .ok (.iconst 1, 1) := by decide +kernel
theorem dX10_isComplete_26 : decode cX10_isComplete 26 = .ok (.invokevirtual 39, 3) := by decide +kernel
theorem dX10_isComplete_29 : decode cX10_isComplete 29 = .ok (.ifCond .eq 13, 3) := by decide +kernel
theorem dX10_isComplete_32 : decode cX10_isComplete 32 = .ok (.aload_n 0, 1) := by decide +kernel
theorem dX10_isComplete_33 : decode cX10_isComplete 33 = .ok (.iload_n 2, 1) := by decide +kernel
theorem dX10_isComplete_34 : decode cX10_isComplete 34 = .ok (.iconst 2, 1) := by decide +kernel
theorem dX10_isComplete_35 : decode cX10_isComplete 35 = .ok (.invokevirtual 39, 3) := by decide +kernel
theorem dX10_isComplete_38 : decode cX10_isComplete 38 = .ok (.iconst 1, 1) := by decide +kernel
theorem dX10_isComplete_39 : decode cX10_isComplete 39 = .ok (.if_icmp .ne 7, 3) := by decide +kernel
theorem dX10_isComplete_42 : decode cX10_isComplete 42 = .ok (.iconst 1, 1) := by decide +kernel
theorem dX10_isComplete_43 : decode cX10_isComplete 43 = .ok (.goto 4, 3) := by decide +kernel
theorem dX10_isComplete_46 : decode cX10_isComplete 46 = .ok (.iconst 0, 1) := by decide +kernel
theorem dX10_isComplete_47 : decode cX10_isComplete 47 = .ok (.istore_n 1, 1) := by decide +kernel
theorem dX10_isComplete_48 : decode cX10_isComplete 48 = .ok (.iinc 2 1, 3) := by decide +kernel
theorem dX10_isComplete_51 : decode cX10_isComplete 51 = .ok (.goto (-47), 3) := by decide +kernel
theorem dX10_isComplete_54 : decode cX10_isComplete 54 = .ok (.iload_n 1, 1) := by decide +kernel
theorem dX10_isComplete_55 : decode cX10_isComplete 55 = .ok (.ireturn, 1) := by decide +kernel
theorem dX10_completeAfter_0 : decode cX10_completeAfter 0 = .ok (.aload_n 0, 1) := by decide +kernel
theorem dX10_completeAfter_1 : decode cX10_completeAfter 1 = .ok (.aload_n 0, 1) := by decide +kernel
theorem dX10_completeAfter_2 : decode cX10_completeAfter 2 = .ok (.getfield 7, 3) := by decide +kernel
theorem dX10_completeAfter_5 : decode cX10_completeAfter 5 = .ok (.iconst 3, 1) := by decide +kernel
theorem dX10_completeAfter_6 : decode cX10_completeAfter 6 = .ok (.iaload, 1) := by decide +kernel
theorem dX10_completeAfter_7 : decode cX10_completeAfter 7 = .ok (.ldc 118, 2) := by decide +kernel
theorem dX10_completeAfter_9 : decode cX10_completeAfter 9 = .ok (.if_icmp .gt 7, 3) := by decide +kernel
theorem dX10_completeAfter_12 : decode cX10_completeAfter 12 = .ok (.iconst 1, 1) := by decide +kernel
theorem dX10_completeAfter_13 : decode cX10_completeAfter 13 = .ok (.goto 4, 3) := by decide +kernel
theorem dX10_completeAfter_16 : decode cX10_completeAfter 16 = .ok (.iconst 0, 1) := by decide +kernel
theorem dX10_completeAfter_17 : decode cX10_completeAfter 17 = .ok (.iconst 1, 1) := by decide +kernel
theorem dX10_completeAfter_18 : decode cX10_completeAfter 18 = .ok (.iconst 1, 1) := by decide +kernel
theorem dX10_completeAfter_19 : decode cX10_completeAfter 19 = .ok (.invokevirtual 53, 3) := by decide +kernel
theorem dX10_completeAfter_22 : decode cX10_completeAfter 22 = .ok (.ifCond .ne 5, 3) := by decide +kernel
theorem dX10_completeAfter_25 : decode cX10_completeAfter 25 = .ok (.iconst 0, 1) := by decide +kernel
theorem dX10_completeAfter_26 : decode cX10_completeAfter 26 = .ok (.ireturn, 1) := by decide +kernel
theorem dX10_completeAfter_27 : decode cX10_completeAfter 27 = .ok (.aload_n 0, 1) := by decide +kernel
theorem dX10_completeAfter_28 : decode cX10_completeAfter 28 = .ok (.invokevirtual 143, 3) := by decide +kernel
theorem dX10_completeAfter_31 : decode cX10_completeAfter 31 = .ok (.iconst 0, 1) := by decide +kernel
theorem dX10_completeAfter_32 : decode cX10_completeAfter 32 = .ok (.istore_n 1, 1) := by decide +kernel
theorem dX10_completeAfter_33 : decode cX10_completeAfter 33 = .ok (.iload_n 1, 1) := by decide +kernel
theorem dX10_completeAfter_34 : decode cX10_completeAfter 34 = .ok (.sipush 300, 3) := by decide +kernel
theorem dX10_completeAfter_37 : decode cX10_completeAfter 37 = .ok (.if_icmp .ge 20, 3) := by decide +kernel
theorem dX10_completeAfter_40 : decode cX10_completeAfter 40 = .ok (.aload_n 0, 1) := by decide +kernel
theorem dX10_completeAfter_41 : decode cX10_completeAfter 41 = .ok (.invokevirtual 149, 3) := by decide +kernel
theorem dX10_completeAfter_44 : decode cX10_completeAfter 44 = .ok (.ifCond .ne 13, 3) := by decide +kernel
theorem dX10_completeAfter_47 : decode cX10_completeAfter 47 = .ok (.aload_n 0, 1) := by decide +kernel
theorem dX10_completeAfter_48 : decode cX10_completeAfter 48 = .ok (.invokevirtual 119, 3) := by decide +kernel
theorem dX10_completeAfter_51 : decode cX10_completeAfter 51 = .ok (.iinc 1 1, 3) := by decide +kernel
theorem dX10_completeAfter_54 : decode cX10_completeAfter 54 = .ok (.goto (-21), 3) := by decide +kernel
theorem dX10_completeAfter_57 : decode cX10_completeAfter 57 = .ok (.aload_n 0, 1) := by decide +kernel
theorem dX10_completeAfter_58 : decode cX10_completeAfter 58 = .ok (.invokevirtual 149, 3) := by decide +kernel
theorem dX10_completeAfter_61 : decode cX10_completeAfter 61 = .ok (.ifCond .eq 7, 3) := by decide +kernel
theorem dX10_completeAfter_64 : decode cX10_completeAfter 64 = .ok (.iload_n 1, 1) := by decide +kernel
theorem dX10_completeAfter_65 : decode cX10_completeAfter 65 = .ok (.goto 4, 3) := by decide +kernel
theorem dX10_completeAfter_68 : decode cX10_completeAfter 68 = .ok (.iconst (-1), 1) := by decide +kernel
theorem dX10_completeAfter_69 : decode cX10_completeAfter 69 = .ok (.istore_n 1, 1) := by decide +kernel
theorem dX10_completeAfter_70 : decode cX10_completeAfter 70 = .ok (.aload_n 0, 1) := by decide +kernel
theorem dX10_completeAfter_71 : decode cX10_completeAfter 71 = .ok (.invokevirtual 146, 3) := by decide +kernel
theorem dX10_completeAfter_74 : decode cX10_completeAfter 74 = .ok (.iload_n 1, 1) := by decide +kernel
theorem dX10_completeAfter_75 : decode cX10_completeAfter 75 = .ok (.ireturn, 1) := by decide +kernel
theorem dX10_waiting_0 : decode cX10_waiting 0 = .ok (.iconst 0, 1) := by decide +kernel
theorem dX10_waiting_1 : decode cX10_waiting 1 = .ok (.istore_n 1, 1) := by decide +kernel
theorem dX10_waiting_2 : decode cX10_waiting 2 = .ok (.iconst 0, 1) := by decide +kernel
theorem dX10_waiting_3 : decode cX10_waiting 3 = .ok (.istore_n 2, 1) := by decide +kernel
theorem dX10_waiting_4 : decode cX10_waiting 4 = .ok (.iload_n 2, 1) := by decide +kernel
theorem dX10_waiting_5 : decode cX10_waiting 5 = .ok (.bipush 32, 2) := by decide +kernel
theorem dX10_waiting_7 : decode cX10_waiting 7 = .ok (.if_icmp .ge 41, 3) := by decide +kernel
theorem dX10_waiting_10 : decode cX10_waiting 10 = .ok (.iload_n 1, 1) := by decide +kernel
theorem dX10_waiting_11 : decode cX10_waiting 11 = .ok (.aload_n 0, 1) := by decide +kernel
theorem dX10_waiting_12 : decode cX10_waiting 12 = .ok (.iload_n 2, 1) := by decide +kernel
theorem dX10_waiting_13 : decode cX10_waiting 13 = .ok (.iconst 0, 1) := by decide +kernel
theorem dX10_waiting_14 : decode cX10_waiting 14 = .ok (.invokevirtual 39, 3) := by decide +kernel
theorem dX10_waiting_17 : decode cX10_waiting 17 = .ok (.iconst 1, 1) := by decide +kernel
theorem dX10_waiting_18 : decode cX10_waiting 18 = .ok (.if_icmp .ne 21, 3) := by decide +kernel
theorem dX10_waiting_21 : decode cX10_waiting 21 = .ok (.aload_n 0, 1) := by decide +kernel
theorem dX10_waiting_22 : decode cX10_waiting 22 = .ok (.iload_n 2, 1) := by decide +kernel
theorem dX10_waiting_23 : decode cX10_waiting 23 = .ok (.iconst 1, 1) := by decide +kernel
theorem dX10_waiting_24 : decode cX10_waiting 24 = .ok (.invokevirtual 39, 3) := by decide +kernel
theorem dX10_waiting_27 : decode cX10_waiting 27 = .ok (.iconst 1, 1) := by decide +kernel
theorem dX10_waiting_28 : decode cX10_waiting 28 = .ok (.if_icmp .ne 11, 3) := by decide +kernel
theorem dX10_waiting_31 : decode cX10_waiting 31 = .ok (.aload_n 0, 1) := by decide +kernel
theorem dX10_waiting_32 : decode cX10_waiting 32 = .ok (.iload_n 2, 1) := by decide +kernel
theorem dX10_waiting_33 : decode cX10_waiting 33 = .ok (.invokevirtual 131, 3) := by decide +kernel
theorem dX10_waiting_36 : decode cX10_waiting 36 = .ok (.goto 4, 3) := by decide +kernel
theorem dX10_waiting_39 : decode cX10_waiting 39 = .ok (.iconst 0, 1) := by decide +kernel
theorem dX10_waiting_40 : decode cX10_waiting 40 = .ok (.iadd, 1) := by decide +kernel
theorem dX10_waiting_41 : decode cX10_waiting 41 = .ok (.istore_n 1, 1) := by decide +kernel
theorem dX10_waiting_42 : decode cX10_waiting 42 = .ok (.iinc 2 1, 3) := by decide +kernel
theorem dX10_waiting_45 : decode cX10_waiting 45 = .ok (.goto (-41), 3) := by decide +kernel
theorem dX10_waiting_48 : decode cX10_waiting 48 = .ok (.iload_n 1, 1) := by decide +kernel
theorem dX10_waiting_49 : decode cX10_waiting 49 = .ok (.ireturn, 1) := by decide +kernel
theorem dX10_leastTarget_0 : decode cX10_leastTarget 0 = .ok (.aload_n 0, 1) := by decide +kernel
theorem dX10_leastTarget_1 : decode cX10_leastTarget 1 = .ok (.iload_n 1, 1) := by decide +kernel
theorem dX10_leastTarget_2 : decode cX10_leastTarget 2 = .ok (.i2l, 1) := by decide +kernel
theorem dX10_leastTarget_3 : decode cX10_leastTarget 3 = .ok (.lconst 0, 1) := by decide +kernel
theorem dX10_leastTarget_4 : decode cX10_leastTarget 4 = .ok (.ldc2_w 152, 3) := by decide +kernel
theorem dX10_leastTarget_7 : decode cX10_leastTarget 7 = .ok (.invokestatic 35, 3) := by decide +kernel
theorem dX10_leastTarget_10 : decode cX10_leastTarget 10 = .ok (.aload_n 0, 1) := by decide +kernel
theorem dX10_leastTarget_11 : decode cX10_leastTarget 11 = .ok (.getfield 7, 3) := by decide +kernel
theorem dX10_leastTarget_14 : decode cX10_leastTarget 14 = .ok (.iconst 3, 1) := by decide +kernel
theorem dX10_leastTarget_15 : decode cX10_leastTarget 15 = .ok (.iaload, 1) := by decide +kernel
theorem dX10_leastTarget_16 : decode cX10_leastTarget 16 = .ok (.ldc 118, 2) := by decide +kernel
theorem dX10_leastTarget_18 : decode cX10_leastTarget 18 = .ok (.if_icmp .gt 7, 3) := by decide +kernel
theorem dX10_leastTarget_21 : decode cX10_leastTarget 21 = .ok (.iconst 1, 1) := by decide +kernel
theorem dX10_leastTarget_22 : decode cX10_leastTarget 22 = .ok (.goto 4, 3) := by decide +kernel
theorem dX10_leastTarget_25 : decode cX10_leastTarget 25 = .ok (.iconst 0, 1) := by decide +kernel
theorem dX10_leastTarget_26 : decode cX10_leastTarget 26 = .ok (.iconst 1, 1) := by decide +kernel
theorem dX10_leastTarget_27 : decode cX10_leastTarget 27 = .ok (.invokevirtual 53, 3) := by decide +kernel
theorem dX10_leastTarget_30 : decode cX10_leastTarget 30 = .ok (.ifCond .ne 5, 3) := by decide +kernel
theorem dX10_leastTarget_33 : decode cX10_leastTarget 33 = .ok (.iconst 0, 1) := by decide +kernel
theorem dX10_leastTarget_34 : decode cX10_leastTarget 34 = .ok (.ireturn, 1) := by decide +kernel
theorem dX10_leastTarget_35 : decode cX10_leastTarget 35 = .ok (.aload_n 0, 1) := by decide +kernel
theorem dX10_leastTarget_36 : decode cX10_leastTarget 36 = .ok (.invokevirtual 143, 3) := by decide +kernel
theorem dX10_leastTarget_39 : decode cX10_leastTarget 39 = .ok (.bipush 20, 2) := by decide +kernel
theorem dX10_leastTarget_41 : decode cX10_leastTarget 41 = .ok (.istore_n 2, 1) := by decide +kernel
theorem dX10_leastTarget_42 : decode cX10_leastTarget 42 = .ok (.iload_n 2, 1) := by decide +kernel
theorem dX10_leastTarget_43 : decode cX10_leastTarget 43 = .ok (.sipush 400, 3) := by decide +kernel
theorem dX10_leastTarget_46 : decode cX10_leastTarget 46 = .ok (.if_icmp .gt 55, 3) := by decide +kernel
theorem dX10_leastTarget_49 : decode cX10_leastTarget 49 = .ok (.aload_n 0, 1) := by decide +kernel
theorem dX10_leastTarget_50 : decode cX10_leastTarget 50 = .ok (.getfield 7, 3) := by decide +kernel
theorem dX10_leastTarget_53 : decode cX10_leastTarget 53 = .ok (.iconst 0, 1) := by decide +kernel
theorem dX10_leastTarget_54 : decode cX10_leastTarget 54 = .ok (.iload_n 2, 1) := by decide +kernel
theorem dX10_leastTarget_55 : decode cX10_leastTarget 55 = .ok (.iastore, 1) := by decide +kernel
theorem dX10_leastTarget_56 : decode cX10_leastTarget 56 = .ok (.iconst 0, 1) := by decide +kernel
theorem dX10_leastTarget_57 : decode cX10_leastTarget 57 = .ok (.istore_n 3, 1) := by decide +kernel
theorem dX10_leastTarget_58 : decode cX10_leastTarget 58 = .ok (.iload_n 3, 1) := by decide +kernel
theorem dX10_leastTarget_59 : decode cX10_leastTarget 59 = .ok (.iload_n 1, 1) := by decide +kernel
theorem dX10_leastTarget_60 : decode cX10_leastTarget 60 = .ok (.if_icmp .ge 20, 3) := by decide +kernel
theorem dX10_leastTarget_63 : decode cX10_leastTarget 63 = .ok (.aload_n 0, 1) := by decide +kernel
theorem dX10_leastTarget_64 : decode cX10_leastTarget 64 = .ok (.invokevirtual 154, 3) := by decide +kernel
theorem dX10_leastTarget_67 : decode cX10_leastTarget 67 = .ok (.ifCond .le 13, 3) := by decide +kernel
theorem dX10_leastTarget_70 : decode cX10_leastTarget 70 = .ok (.aload_n 0, 1) := by decide +kernel
theorem dX10_leastTarget_71 : decode cX10_leastTarget 71 = .ok (.invokevirtual 119, 3) := by decide +kernel
theorem dX10_leastTarget_74 : decode cX10_leastTarget 74 = .ok (.iinc 3 1, 3) := by decide +kernel
theorem dX10_leastTarget_77 : decode cX10_leastTarget 77 = .ok (.goto (-19), 3) := by decide +kernel
theorem dX10_leastTarget_80 : decode cX10_leastTarget 80 = .ok (.aload_n 0, 1) := by decide +kernel
theorem dX10_leastTarget_81 : decode cX10_leastTarget 81 = .ok (.invokevirtual 154, 3) := by decide +kernel
theorem dX10_leastTarget_84 : decode cX10_leastTarget 84 = .ok (.istore_n 3, 1) := by decide +kernel
theorem dX10_leastTarget_85 : decode cX10_leastTarget 85 = .ok (.aload_n 0, 1) := by decide +kernel
theorem dX10_leastTarget_86 : decode cX10_leastTarget 86 = .ok (.invokevirtual 146, 3) := by decide +kernel
theorem dX10_leastTarget_89 : decode cX10_leastTarget 89 = .ok (.iload_n 3, 1) := by decide +kernel
theorem dX10_leastTarget_90 : decode cX10_leastTarget 90 = .ok (.ifCond .ne 5, 3) := by decide +kernel
theorem dX10_leastTarget_93 : decode cX10_leastTarget 93 = .ok (.iload_n 2, 1) := by decide +kernel
theorem dX10_leastTarget_94 : decode cX10_leastTarget 94 = .ok (.ireturn, 1) := by decide +kernel
theorem dX10_leastTarget_95 : decode cX10_leastTarget 95 = .ok (.iinc 2 20, 3) := by decide +kernel
theorem dX10_leastTarget_98 : decode cX10_leastTarget 98 = .ok (.goto (-56), 3) := by decide +kernel
theorem dX10_leastTarget_101 : decode cX10_leastTarget 101 = .ok (.iconst (-1), 1) := by decide +kernel
theorem dX10_leastTarget_102 : decode cX10_leastTarget 102 = .ok (.ireturn, 1) := by decide +kernel
theorem dX10_append_0 : decode cX10_append 0 = .ok (.aload_n 0, 1) := by decide +kernel
theorem dX10_append_1 : decode cX10_append 1 = .ok (.iload_n 1, 1) := by decide +kernel
theorem dX10_append_2 : decode cX10_append 2 = .ok (.i2l, 1) := by decide +kernel
theorem dX10_append_3 : decode cX10_append 3 = .ok (.lconst 0, 1) := by decide +kernel
theorem dX10_append_4 : decode cX10_append 4 = .ok (.ldc2_w 157, 3) := by decide +kernel
theorem dX10_append_7 : decode cX10_append 7 = .ok (.invokestatic 35, 3) := by decide +kernel
theorem dX10_append_10 : decode cX10_append 10 = .ok (.aload_n 0, 1) := by decide +kernel
theorem dX10_append_11 : decode cX10_append 11 = .ok (.getfield 159, 3) := by decide +kernel
theorem dX10_append_14 : decode cX10_append 14 = .ok (.bipush 120, 2) := by decide +kernel
theorem dX10_append_16 : decode cX10_append 16 = .ok (.if_icmp .ge 7, 3) := by decide +kernel
theorem dX10_append_19 : decode cX10_append 19 = .ok (.iconst 1, 1) := by decide +kernel
theorem dX10_append_20 : decode cX10_append 20 = .ok (.goto 4, 3) := by decide +kernel
theorem dX10_append_23 : decode cX10_append 23 = .ok (.iconst 0, 1) := by decide +kernel
theorem dX10_append_24 : decode cX10_append 24 = .ok (.iconst 1, 1) := by decide +kernel
theorem dX10_append_25 : decode cX10_append 25 = .ok (.invokevirtual 53, 3) := by decide +kernel
theorem dX10_append_28 : decode cX10_append 28 = .ok (.ifCond .ne 5, 3) := by decide +kernel
theorem dX10_append_31 : decode cX10_append 31 = .ok (.iconst 0, 1) := by decide +kernel
theorem dX10_append_32 : decode cX10_append 32 = .ok (.ireturn, 1) := by decide +kernel
theorem dX10_append_33 : decode cX10_append 33 = .ok (.aload_n 0, 1) := by decide +kernel
theorem dX10_append_34 : decode cX10_append 34 = .ok (.getfield 19, 3) := by decide +kernel
theorem dX10_append_37 : decode cX10_append 37 = .ok (.aload_n 0, 1) := by decide +kernel
theorem dX10_append_38 : decode cX10_append 38 = .ok (.getfield 159, 3) := by decide +kernel
theorem dX10_append_41 : decode cX10_append 41 = .ok (.iload_n 1, 1) := by decide +kernel
theorem dX10_append_42 : decode cX10_append 42 = .ok (.iastore, 1) := by decide +kernel
theorem dX10_append_43 : decode cX10_append 43 = .ok (.aload_n 0, 1) := by decide +kernel
theorem dX10_append_44 : decode cX10_append 44 = .ok (.dup, 1) := by decide +kernel
theorem dX10_append_45 : decode cX10_append 45 = .ok (.getfield 159, 3) := by decide +kernel
theorem dX10_append_48 : decode cX10_append 48 = .ok (.iconst 1, 1) := by decide +kernel
theorem dX10_append_49 : decode cX10_append 49 = .ok (.iadd, 1) := by decide +kernel
theorem dX10_append_50 : decode cX10_append 50 = .ok (.putfield 159, 3) := by decide +kernel
theorem dX10_append_53 : decode cX10_append 53 = .ok (.aload_n 0, 1) := by decide +kernel
theorem dX10_append_54 : decode cX10_append 54 = .ok (.getfield 159, 3) := by decide +kernel
theorem dX10_append_57 : decode cX10_append 57 = .ok (.ireturn, 1) := by decide +kernel
theorem dX10_clearText_0 : decode cX10_clearText 0 = .ok (.aload_n 0, 1) := by decide +kernel
theorem dX10_clearText_1 : decode cX10_clearText 1 = .ok (.iconst 0, 1) := by decide +kernel
theorem dX10_clearText_2 : decode cX10_clearText 2 = .ok (.putfield 22, 3) := by decide +kernel
theorem dX10_clearText_5 : decode cX10_clearText 5 = .ok (.aload_n 0, 1) := by decide +kernel
theorem dX10_clearText_6 : decode cX10_clearText 6 = .ok (.getfield 159, 3) := by decide +kernel
theorem dX10_clearText_9 : decode cX10_clearText 9 = .ok (.istore_n 1, 1) := by decide +kernel
theorem dX10_clearText_10 : decode cX10_clearText 10 = .ok (.aload_n 0, 1) := by decide +kernel
theorem dX10_clearText_11 : decode cX10_clearText 11 = .ok (.iconst 0, 1) := by decide +kernel
theorem dX10_clearText_12 : decode cX10_clearText 12 = .ok (.putfield 159, 3) := by decide +kernel
theorem dX10_clearText_15 : decode cX10_clearText 15 = .ok (.iload_n 1, 1) := by decide +kernel
theorem dX10_clearText_16 : decode cX10_clearText 16 = .ok (.ireturn, 1) := by decide +kernel
theorem dX10_isFigure_0 : decode cX10_isFigure 0 = .ok (.aload_n 0, 1) := by decide +kernel
theorem dX10_isFigure_1 : decode cX10_isFigure 1 = .ok (.getfield 162, 3) := by decide +kernel
theorem dX10_isFigure_4 : decode cX10_isFigure 4 = .ok (.aload_n 0, 1) := by decide +kernel
theorem dX10_isFigure_5 : decode cX10_isFigure 5 = .ok (.getfield 159, 3) := by decide +kernel
theorem dX10_isFigure_8 : decode cX10_isFigure 8 = .ok (.if_icmp .ge 29, 3) := by decide +kernel
theorem dX10_isFigure_11 : decode cX10_isFigure 11 = .ok (.aload_n 0, 1) := by decide +kernel
theorem dX10_isFigure_12 : decode cX10_isFigure 12 = .ok (.getfield 19, 3) := by decide +kernel
theorem dX10_isFigure_15 : decode cX10_isFigure 15 = .ok (.aload_n 0, 1) := by decide +kernel
theorem dX10_isFigure_16 : decode cX10_isFigure 16 = .ok (.getfield 162, 3) := by decide +kernel
theorem dX10_isFigure_19 : decode cX10_isFigure 19 = .ok (.iaload, 1) := by decide +kernel
theorem dX10_isFigure_20 : decode cX10_isFigure 20 = .ok (.i2l, 1) := by decide +kernel
theorem dX10_isFigure_21 : decode cX10_isFigure 21 = .ok (.ldc2_w 165, 3) := by decide +kernel
theorem dX10_isFigure_24 : decode cX10_isFigure 24 = .ok (.ldc2_w 167, 3) := by decide +kernel
theorem dX10_isFigure_27 : decode cX10_isFigure 27 = .ok (.invokestatic 35, 3) := by decide +kernel
theorem dX10_isFigure_30 : decode cX10_isFigure 30 = .ok (.ifCond .eq 7, 3) := by decide +kernel
theorem dX10_isFigure_33 : decode cX10_isFigure 33 = .ok (.iconst 1, 1) := by decide +kernel
theorem dX10_isFigure_34 : decode cX10_isFigure 34 = .ok (.goto 4, 3) := by decide +kernel
theorem dX10_isFigure_37 : decode cX10_isFigure 37 = .ok (.iconst 0, 1) := by decide +kernel
theorem dX10_isFigure_38 : decode cX10_isFigure 38 = .ok (.ireturn, 1) := by decide +kernel
theorem dX10_passesByte_0 : decode cX10_passesByte 0 = .ok (.aload_n 0, 1) := by decide +kernel
theorem dX10_passesByte_1 : decode cX10_passesByte 1 = .ok (.getfield 162, 3) := by decide +kernel
theorem dX10_passesByte_4 : decode cX10_passesByte 4 = .ok (.aload_n 0, 1) := by decide +kernel
theorem dX10_passesByte_5 : decode cX10_passesByte 5 = .ok (.getfield 159, 3) := by decide +kernel
theorem dX10_passesByte_8 : decode cX10_passesByte 8 = .ok (.if_icmp .ge 20, 3) := by decide +kernel
theorem dX10_passesByte_11 : decode cX10_passesByte 11 = .ok (.aload_n 0, 1) := by decide +kernel
theorem dX10_passesByte_12 : decode cX10_passesByte 12 = .ok (.getfield 19, 3) := by decide +kernel
theorem dX10_passesByte_15 : decode cX10_passesByte 15 = .ok (.aload_n 0, 1) := by decide +kernel
theorem dX10_passesByte_16 : decode cX10_passesByte 16 = .ok (.getfield 162, 3) := by decide +kernel
theorem dX10_passesByte_19 : decode cX10_passesByte 19 = .ok (.iaload, 1) := by decide +kernel
theorem dX10_passesByte_20 : decode cX10_passesByte 20 = .ok (.iload_n 1, 1) := by decide +kernel
theorem dX10_passesByte_21 : decode cX10_passesByte 21 = .ok (.if_icmp .ne 7, 3) := by decide +kernel
theorem dX10_passesByte_24 : decode cX10_passesByte 24 = .ok (.iconst 1, 1) := by decide +kernel
theorem dX10_passesByte_25 : decode cX10_passesByte 25 = .ok (.goto 4, 3) := by decide +kernel
theorem dX10_passesByte_28 : decode cX10_passesByte 28 = .ok (.iconst 0, 1) := by decide +kernel
theorem dX10_passesByte_29 : decode cX10_passesByte 29 = .ok (.istore_n 2, 1) := by decide +kernel
theorem dX10_passesByte_30 : decode cX10_passesByte 30 = .ok (.aload_n 0, 1) := by decide +kernel
theorem dX10_passesByte_31 : decode cX10_passesByte 31 = .ok (.dup, 1) := by decide +kernel
theorem dX10_passesByte_32 : decode cX10_passesByte 32 = .ok (.getfield 162, 3) := by decide +kernel
theorem dX10_passesByte_35 : decode cX10_passesByte 35 = .ok (.iload_n 2, 1) := by decide +kernel
theorem dX10_passesByte_36 : decode cX10_passesByte 36 = .ok (.ifCond .eq 7, 3) := by decide +kernel
theorem dX10_passesByte_39 : decode cX10_passesByte 39 = .ok (.iconst 1, 1) := by decide +kernel
theorem dX10_passesByte_40 : decode cX10_passesByte 40 = .ok (.goto 4, 3) := by decide +kernel
theorem dX10_passesByte_43 : decode cX10_passesByte 43 = .ok (.iconst 0, 1) := by decide +kernel
theorem dX10_passesByte_44 : decode cX10_passesByte 44 = .ok (.iadd, 1) := by decide +kernel
theorem dX10_passesByte_45 : decode cX10_passesByte 45 = .ok (.putfield 162, 3) := by decide +kernel
theorem dX10_passesByte_48 : decode cX10_passesByte 48 = .ok (.iload_n 2, 1) := by decide +kernel
theorem dX10_passesByte_49 : decode cX10_passesByte 49 = .ok (.ireturn, 1) := by decide +kernel
theorem dX10_readsNumber_0 : decode cX10_readsNumber 0 = .ok (.aload_n 0, 1) := by decide +kernel
theorem dX10_readsNumber_1 : decode cX10_readsNumber 1 = .ok (.getfield 162, 3) := by decide +kernel
theorem dX10_readsNumber_4 : decode cX10_readsNumber 4 = .ok (.istore_n 1, 1) := by decide +kernel
theorem dX10_readsNumber_5 : decode cX10_readsNumber 5 = .ok (.aload_n 0, 1) := by decide +kernel
theorem dX10_readsNumber_6 : decode cX10_readsNumber 6 = .ok (.iconst 0, 1) := by decide +kernel
theorem dX10_readsNumber_7 : decode cX10_readsNumber 7 = .ok (.putfield 169, 3) := by decide +kernel
theorem dX10_readsNumber_10 : decode cX10_readsNumber 10 = .ok (.aload_n 0, 1) := by decide +kernel
theorem dX10_readsNumber_11 : decode cX10_readsNumber 11 = .ok (.invokevirtual 172, 3) := by decide +kernel
theorem dX10_readsNumber_14 : decode cX10_readsNumber 14 = .ok (.ifCond .eq 50, 3) := by decide +kernel
theorem dX10_readsNumber_17 : decode cX10_readsNumber 17 = .ok (.aload_n 0, 1) := by decide +kernel
theorem dX10_readsNumber_18 : decode cX10_readsNumber 18 = .ok (.getfield 162, 3) := by decide +kernel
theorem dX10_readsNumber_21 : decode cX10_readsNumber 21 = .ok (.iload_n 1, 1) := by decide +kernel
theorem dX10_readsNumber_22 : decode cX10_readsNumber 22 = .ok (.iconst 2, 1) := by decide +kernel
theorem dX10_readsNumber_23 : decode cX10_readsNumber 23 = .ok (.iadd, 1) := by decide +kernel
theorem dX10_readsNumber_24 : decode cX10_readsNumber 24 = .ok (.if_icmp .ge 40, 3) := by decide +kernel
theorem dX10_readsNumber_27 : decode cX10_readsNumber 27 = .ok (.aload_n 0, 1) := by decide +kernel
theorem dX10_readsNumber_28 : decode cX10_readsNumber 28 = .ok (.bipush 10, 2) := by decide +kernel
theorem dX10_readsNumber_30 : decode cX10_readsNumber 30 = .ok (.aload_n 0, 1) := by decide +kernel
theorem dX10_readsNumber_31 : decode cX10_readsNumber 31 = .ok (.getfield 169, 3) := by decide +kernel
theorem dX10_readsNumber_34 : decode cX10_readsNumber 34 = .ok (.imul, 1) := by decide +kernel
theorem dX10_readsNumber_35 : decode cX10_readsNumber 35 = .ok (.aload_n 0, 1) := by decide +kernel
theorem dX10_readsNumber_36 : decode cX10_readsNumber 36 = .ok (.getfield 19, 3) := by decide +kernel
theorem dX10_readsNumber_39 : decode cX10_readsNumber 39 = .ok (.aload_n 0, 1) := by decide +kernel
theorem dX10_readsNumber_40 : decode cX10_readsNumber 40 = .ok (.getfield 162, 3) := by decide +kernel
theorem dX10_readsNumber_43 : decode cX10_readsNumber 43 = .ok (.iaload, 1) := by decide +kernel
theorem dX10_readsNumber_44 : decode cX10_readsNumber 44 = .ok (.iadd, 1) := by decide +kernel
theorem dX10_readsNumber_45 : decode cX10_readsNumber 45 = .ok (.bipush 48, 2) := by decide +kernel
theorem dX10_readsNumber_47 : decode cX10_readsNumber 47 = .ok (.isub, 1) := by decide +kernel
theorem dX10_readsNumber_48 : decode cX10_readsNumber 48 = .ok (.putfield 169, 3) := by decide +kernel
theorem dX10_readsNumber_51 : decode cX10_readsNumber 51 = .ok (.aload_n 0, 1) := by decide +kernel
theorem dX10_readsNumber_52 : decode cX10_readsNumber 52 = .ok (.dup, 1) := by decide +kernel
theorem dX10_readsNumber_53 : decode cX10_readsNumber 53 = .ok (.getfield 162, 3) := by decide +kernel
theorem dX10_readsNumber_56 : decode cX10_readsNumber 56 = .ok (.iconst 1, 1) := by decide +kernel
theorem dX10_readsNumber_57 : decode cX10_readsNumber 57 = .ok (.iadd, 1) := by decide +kernel
theorem dX10_readsNumber_58 : decode cX10_readsNumber 58 = .ok (.putfield 162, 3) := by decide +kernel
theorem dX10_readsNumber_61 : decode cX10_readsNumber 61 = .ok (.goto (-51), 3) := by decide +kernel
theorem dX10_readsNumber_64 : decode cX10_readsNumber 64 = .ok (.aload_n 0, 1) := by decide +kernel
theorem dX10_readsNumber_65 : decode cX10_readsNumber 65 = .ok (.getfield 162, 3) := by decide +kernel
theorem dX10_readsNumber_68 : decode cX10_readsNumber 68 = .ok (.iload_n 1, 1) := by decide +kernel
theorem dX10_readsNumber_69 : decode cX10_readsNumber 69 = .ok (.if_icmp .le 14, 3) := by decide +kernel
theorem dX10_readsNumber_72 : decode cX10_readsNumber 72 = .ok (.aload_n 0, 1) := by decide +kernel
theorem dX10_readsNumber_73 : decode cX10_readsNumber 73 = .ok (.invokevirtual 172, 3) := by decide +kernel
theorem dX10_readsNumber_76 : decode cX10_readsNumber 76 = .ok (.ifCond .ne 7, 3) := by decide +kernel
theorem dX10_readsNumber_79 : decode cX10_readsNumber 79 = .ok (.iconst 1, 1) := by decide +kernel
theorem dX10_readsNumber_80 : decode cX10_readsNumber 80 = .ok (.goto 4, 3) := by decide +kernel
theorem dX10_readsNumber_83 : decode cX10_readsNumber 83 = .ok (.iconst 0, 1) := by decide +kernel
theorem dX10_readsNumber_84 : decode cX10_readsNumber 84 = .ok (.ireturn, 1) := by decide +kernel
theorem dX10_readsItem_0 : decode cX10_readsItem 0 = .ok (.aload_n 0, 1) := by decide +kernel
theorem dX10_readsItem_1 : decode cX10_readsItem 1 = .ok (.getfield 162, 3) := by decide +kernel
theorem dX10_readsItem_4 : decode cX10_readsItem 4 = .ok (.iconst 1, 1) := by decide +kernel
theorem dX10_readsItem_5 : decode cX10_readsItem 5 = .ok (.iadd, 1) := by decide +kernel
theorem dX10_readsItem_6 : decode cX10_readsItem 6 = .ok (.istore_n 1, 1) := by decide +kernel
theorem dX10_readsItem_7 : decode cX10_readsItem 7 = .ok (.aload_n 0, 1) := by decide +kernel
theorem dX10_readsItem_8 : decode cX10_readsItem 8 = .ok (.invokevirtual 49, 3) := by decide +kernel
theorem dX10_readsItem_11 : decode cX10_readsItem 11 = .ok (.bipush 8, 2) := by decide +kernel
theorem dX10_readsItem_13 : decode cX10_readsItem 13 = .ok (.if_icmp .ge 71, 3) := by decide +kernel
theorem dX10_readsItem_16 : decode cX10_readsItem 16 = .ok (.aload_n 0, 1) := by decide +kernel
theorem dX10_readsItem_17 : decode cX10_readsItem 17 = .ok (.bipush 115, 2) := by decide +kernel
theorem dX10_readsItem_19 : decode cX10_readsItem 19 = .ok (.invokevirtual 175, 3) := by decide +kernel
theorem dX10_readsItem_22 : decode cX10_readsItem 22 = .ok (.ifCond .eq 62, 3) := by decide +kernel
theorem dX10_readsItem_25 : decode cX10_readsItem 25 = .ok (.aload_n 0, 1) := by decide +kernel
theorem dX10_readsItem_26 : decode cX10_readsItem 26 = .ok (.invokevirtual 178, 3) := by decide +kernel
theorem dX10_readsItem_29 : decode cX10_readsItem 29 = .ok (.ifCond .ne 5, 3) := by decide +kernel
theorem dX10_readsItem_32 : decode cX10_readsItem 32 = .ok (.iconst 0, 1) := by decide +kernel
theorem dX10_readsItem_33 : decode cX10_readsItem 33 = .ok (.ireturn, 1) := by decide +kernel
theorem dX10_readsItem_34 : decode cX10_readsItem 34 = .ok (.aload_n 0, 1) := by decide +kernel
theorem dX10_readsItem_35 : decode cX10_readsItem 35 = .ok (.getfield 169, 3) := by decide +kernel
theorem dX10_readsItem_38 : decode cX10_readsItem 38 = .ok (.bipush 32, 2) := by decide +kernel
theorem dX10_readsItem_40 : decode cX10_readsItem 40 = .ok (.if_icmp .ge 14, 3) := by decide +kernel
theorem dX10_readsItem_43 : decode cX10_readsItem 43 = .ok (.aload_n 0, 1) := by decide +kernel
theorem dX10_readsItem_44 : decode cX10_readsItem 44 = .ok (.aload_n 0, 1) := by decide +kernel
theorem dX10_readsItem_45 : decode cX10_readsItem 45 = .ok (.getfield 169, 3) := by decide +kernel
theorem dX10_readsItem_48 : decode cX10_readsItem 48 = .ok (.invokevirtual 45, 3) := by decide +kernel
theorem dX10_readsItem_51 : decode cX10_readsItem 51 = .ok (.ifCond .eq 10, 3) := by decide +kernel
theorem dX10_readsItem_54 : decode cX10_readsItem 54 = .ok (.aload_n 0, 1) := by decide +kernel
theorem dX10_readsItem_55 : decode cX10_readsItem 55 = .ok (.iload_n 1, 1) := by decide +kernel
theorem dX10_readsItem_56 : decode cX10_readsItem 56 = .ok (.putfield 162, 3) := by decide +kernel
theorem dX10_readsItem_59 : decode cX10_readsItem 59 = .ok (.iconst 0, 1) := by decide +kernel
theorem dX10_readsItem_60 : decode cX10_readsItem 60 = .ok (.ireturn, 1) := by decide +kernel
theorem dX10_readsItem_61 : decode cX10_readsItem 61 = .ok (.aload_n 0, 1) := by decide +kernel
theorem dX10_readsItem_62 : decode cX10_readsItem 62 = .ok (.aload_n 0, 1) := by decide +kernel
theorem dX10_readsItem_63 : decode cX10_readsItem 63 = .ok (.getfield 169, 3) := by decide +kernel
theorem dX10_readsItem_66 : decode cX10_readsItem 66 = .ok (.putfield 181, 3) := by decide +kernel
theorem dX10_readsItem_69 : decode cX10_readsItem 69 = .ok (.aload_n 0, 1) := by decide +kernel
theorem dX10_readsItem_70 : decode cX10_readsItem 70 = .ok (.aload_n 0, 1) := by decide +kernel
theorem dX10_readsItem_71 : decode cX10_readsItem 71 = .ok (.getfield 169, 3) := by decide +kernel
theorem dX10_readsItem_74 : decode cX10_readsItem 74 = .ok (.invokevirtual 60, 3) := by decide +kernel
theorem dX10_readsItem_77 : decode cX10_readsItem 77 = .ok (.aload_n 0, 1) := by decide +kernel
theorem dX10_readsItem_78 : decode cX10_readsItem 78 = .ok (.bipush 59, 2) := by decide +kernel
theorem dX10_readsItem_80 : decode cX10_readsItem 80 = .ok (.invokevirtual 175, 3) := by decide +kernel
theorem dX10_readsItem_83 : decode cX10_readsItem 83 = .ok (.ireturn, 1) := by decide +kernel
theorem dX10_readsItem_84 : decode cX10_readsItem 84 = .ok (.aload_n 0, 1) := by decide +kernel
theorem dX10_readsItem_85 : decode cX10_readsItem 85 = .ok (.getfield 181, 3) := by decide +kernel
theorem dX10_readsItem_88 : decode cX10_readsItem 88 = .ok (.iconst (-1), 1) := by decide +kernel
theorem dX10_readsItem_89 : decode cX10_readsItem 89 = .ok (.if_icmp .eq 19, 3) := by decide +kernel
theorem dX10_readsItem_92 : decode cX10_readsItem 92 = .ok (.aload_n 0, 1) := by decide +kernel
theorem dX10_readsItem_93 : decode cX10_readsItem 93 = .ok (.bipush 109, 2) := by decide +kernel
theorem dX10_readsItem_95 : decode cX10_readsItem 95 = .ok (.invokevirtual 175, 3) := by decide +kernel
theorem dX10_readsItem_98 : decode cX10_readsItem 98 = .ok (.ifCond .eq 10, 3) := by decide +kernel
theorem dX10_readsItem_101 : decode cX10_readsItem 101 = .ok (.aload_n 0, 1) := by decide +kernel
theorem dX10_readsItem_102 : decode cX10_readsItem 102 = .ok (.invokevirtual 178, 3) := by decide +kernel
theorem dX10_readsItem_105 : decode cX10_readsItem 105 = .ok (.ifCond .ne 5, 3) := by decide +kernel
theorem dX10_readsItem_108 : decode cX10_readsItem 108 = .ok (.iconst 0, 1) := by decide +kernel
theorem dX10_readsItem_109 : decode cX10_readsItem 109 = .ok (.ireturn, 1) := by decide +kernel
theorem dX10_readsItem_110 : decode cX10_readsItem 110 = .ok (.aload_n 0, 1) := by decide +kernel
theorem dX10_readsItem_111 : decode cX10_readsItem 111 = .ok (.getfield 169, 3) := by decide +kernel
theorem dX10_readsItem_114 : decode cX10_readsItem 114 = .ok (.i2l, 1) := by decide +kernel
theorem dX10_readsItem_115 : decode cX10_readsItem 115 = .ok (.lconst 1, 1) := by decide +kernel
theorem dX10_readsItem_116 : decode cX10_readsItem 116 = .ok (.ldc2_w 66, 3) := by decide +kernel
theorem dX10_readsItem_119 : decode cX10_readsItem 119 = .ok (.invokestatic 35, 3) := by decide +kernel
theorem dX10_readsItem_122 : decode cX10_readsItem 122 = .ok (.ifCond .ne 10, 3) := by decide +kernel
theorem dX10_readsItem_125 : decode cX10_readsItem 125 = .ok (.aload_n 0, 1) := by decide +kernel
theorem dX10_readsItem_126 : decode cX10_readsItem 126 = .ok (.iload_n 1, 1) := by decide +kernel
theorem dX10_readsItem_127 : decode cX10_readsItem 127 = .ok (.putfield 162, 3) := by decide +kernel
theorem dX10_readsItem_130 : decode cX10_readsItem 130 = .ok (.iconst 0, 1) := by decide +kernel
theorem dX10_readsItem_131 : decode cX10_readsItem 131 = .ok (.ireturn, 1) := by decide +kernel
theorem dX10_readsItem_132 : decode cX10_readsItem 132 = .ok (.aload_n 0, 1) := by decide +kernel
theorem dX10_readsItem_133 : decode cX10_readsItem 133 = .ok (.getfield 169, 3) := by decide +kernel
theorem dX10_readsItem_136 : decode cX10_readsItem 136 = .ok (.istore_n 2, 1) := by decide +kernel
theorem dX10_readsItem_137 : decode cX10_readsItem 137 = .ok (.aload_n 0, 1) := by decide +kernel
theorem dX10_readsItem_138 : decode cX10_readsItem 138 = .ok (.bipush 44, 2) := by decide +kernel
theorem dX10_readsItem_140 : decode cX10_readsItem 140 = .ok (.invokevirtual 175, 3) := by decide +kernel
theorem dX10_readsItem_143 : decode cX10_readsItem 143 = .ok (.ifCond .eq 10, 3) := by decide +kernel
theorem dX10_readsItem_146 : decode cX10_readsItem 146 = .ok (.aload_n 0, 1) := by decide +kernel
theorem dX10_readsItem_147 : decode cX10_readsItem 147 = .ok (.invokevirtual 172, 3) := by decide +kernel
theorem dX10_readsItem_150 : decode cX10_readsItem 150 = .ok (.ifCond .ne 5, 3) := by decide +kernel
theorem dX10_readsItem_153 : decode cX10_readsItem 153 = .ok (.iconst 0, 1) := by decide +kernel
theorem dX10_readsItem_154 : decode cX10_readsItem 154 = .ok (.ireturn, 1) := by decide +kernel
theorem dX10_readsItem_155 : decode cX10_readsItem 155 = .ok (.aload_n 0, 1) := by decide +kernel
theorem dX10_readsItem_156 : decode cX10_readsItem 156 = .ok (.aload_n 0, 1) := by decide +kernel
theorem dX10_readsItem_157 : decode cX10_readsItem 157 = .ok (.getfield 181, 3) := by decide +kernel
theorem dX10_readsItem_160 : decode cX10_readsItem 160 = .ok (.iload_n 2, 1) := by decide +kernel
theorem dX10_readsItem_161 : decode cX10_readsItem 161 = .ok (.aload_n 0, 1) := by decide +kernel
theorem dX10_readsItem_162 : decode cX10_readsItem 162 = .ok (.getfield 19, 3) := by decide +kernel
theorem dX10_readsItem_165 : decode cX10_readsItem 165 = .ok (.aload_n 0, 1) := by decide +kernel
theorem dX10_readsItem_166 : decode cX10_readsItem 166 = .ok (.getfield 162, 3) := by decide +kernel
theorem dX10_readsItem_169 : decode cX10_readsItem 169 = .ok (.iaload, 1) := by decide +kernel
theorem dX10_readsItem_170 : decode cX10_readsItem 170 = .ok (.bipush 48, 2) := by decide +kernel
theorem dX10_readsItem_172 : decode cX10_readsItem 172 = .ok (.isub, 1) := by decide +kernel
theorem dX10_readsItem_173 : decode cX10_readsItem 173 = .ok (.invokevirtual 70, 3) := by decide +kernel
theorem dX10_readsItem_176 : decode cX10_readsItem 176 = .ok (.istore_n 3, 1) := by decide +kernel
theorem dX10_readsItem_177 : decode cX10_readsItem 177 = .ok (.aload_n 0, 1) := by decide +kernel
theorem dX10_readsItem_178 : decode cX10_readsItem 178 = .ok (.dup, 1) := by decide +kernel
theorem dX10_readsItem_179 : decode cX10_readsItem 179 = .ok (.getfield 162, 3) := by decide +kernel
theorem dX10_readsItem_182 : decode cX10_readsItem 182 = .ok (.iconst 1, 1) := by decide +kernel
theorem dX10_readsItem_183 : decode cX10_readsItem 183 = .ok (.iadd, 1) := by decide +kernel
theorem dX10_readsItem_184 : decode cX10_readsItem 184 = .ok (.putfield 162, 3) := by decide +kernel
theorem dX10_readsItem_187 : decode cX10_readsItem 187 = .ok (.aload_n 0, 1) := by decide +kernel
theorem dX10_readsItem_188 : decode cX10_readsItem 188 = .ok (.bipush 59, 2) := by decide +kernel
theorem dX10_readsItem_190 : decode cX10_readsItem 190 = .ok (.invokevirtual 175, 3) := by decide +kernel
theorem dX10_readsItem_193 : decode cX10_readsItem 193 = .ok (.ireturn, 1) := by decide +kernel
theorem dX10_parse_0 : decode cX10_parse 0 = .ok (.aload_n 0, 1) := by decide +kernel
theorem dX10_parse_1 : decode cX10_parse 1 = .ok (.iconst 0, 1) := by decide +kernel
theorem dX10_parse_2 : decode cX10_parse 2 = .ok (.putfield 22, 3) := by decide +kernel
theorem dX10_parse_5 : decode cX10_parse 5 = .ok (.aload_n 0, 1) := by decide +kernel
theorem dX10_parse_6 : decode cX10_parse 6 = .ok (.invokevirtual 143, 3) := by decide +kernel
theorem dX10_parse_9 : decode cX10_parse 9 = .ok (.iconst 3, 1) := by decide +kernel
theorem dX10_parse_10 : decode cX10_parse 10 = .ok (.istore_n 1, 1) := by decide +kernel
theorem dX10_parse_11 : decode cX10_parse 11 = .ok (.iload_n 1, 1) := by decide +kernel
theorem dX10_parse_12 : decode cX10_parse 12 = .ok (.sipush 942, 3) := by decide +kernel
theorem dX10_parse_15 : decode cX10_parse 15 = .ok (.if_icmp .ge 16, 3) := by decide +kernel
theorem dX10_parse_18 : decode cX10_parse 18 = .ok (.aload_n 0, 1) := by decide +kernel
theorem dX10_parse_19 : decode cX10_parse 19 = .ok (.getfield 7, 3) := by decide +kernel
theorem dX10_parse_22 : decode cX10_parse 22 = .ok (.iload_n 1, 1) := by decide +kernel
theorem dX10_parse_23 : decode cX10_parse 23 = .ok (.iconst 0, 1) := by decide +kernel
theorem dX10_parse_24 : decode cX10_parse 24 = .ok (.iastore, 1) := by decide +kernel
theorem dX10_parse_25 : decode cX10_parse 25 = .ok (.iinc 1 1, 3) := by decide +kernel
theorem dX10_parse_28 : decode cX10_parse 28 = .ok (.goto (-17), 3) := by decide +kernel
theorem dX10_parse_31 : decode cX10_parse 31 = .ok (.aload_n 0, 1) := by decide +kernel
theorem dX10_parse_32 : decode cX10_parse 32 = .ok (.getfield 7, 3) := by decide +kernel
theorem dX10_parse_35 : decode cX10_parse 35 = .ok (.iconst 4, 1) := by decide +kernel
theorem dX10_parse_36 : decode cX10_parse 36 = .ok (.iconst (-1), 1) := by decide +kernel
theorem dX10_parse_37 : decode cX10_parse 37 = .ok (.iastore, 1) := by decide +kernel
theorem dX10_parse_38 : decode cX10_parse 38 = .ok (.aload_n 0, 1) := by decide +kernel
theorem dX10_parse_39 : decode cX10_parse 39 = .ok (.iconst (-1), 1) := by decide +kernel
theorem dX10_parse_40 : decode cX10_parse 40 = .ok (.putfield 181, 3) := by decide +kernel
theorem dX10_parse_43 : decode cX10_parse 43 = .ok (.aload_n 0, 1) := by decide +kernel
theorem dX10_parse_44 : decode cX10_parse 44 = .ok (.iconst 0, 1) := by decide +kernel
theorem dX10_parse_45 : decode cX10_parse 45 = .ok (.putfield 162, 3) := by decide +kernel
theorem dX10_parse_48 : decode cX10_parse 48 = .ok (.iconst 0, 1) := by decide +kernel
theorem dX10_parse_49 : decode cX10_parse 49 = .ok (.istore_n 1, 1) := by decide +kernel
theorem dX10_parse_50 : decode cX10_parse 50 = .ok (.aload_n 0, 1) := by decide +kernel
theorem dX10_parse_51 : decode cX10_parse 51 = .ok (.getfield 162, 3) := by decide +kernel
theorem dX10_parse_54 : decode cX10_parse 54 = .ok (.aload_n 0, 1) := by decide +kernel
theorem dX10_parse_55 : decode cX10_parse 55 = .ok (.getfield 159, 3) := by decide +kernel
theorem dX10_parse_58 : decode cX10_parse 58 = .ok (.if_icmp .ge 28, 3) := by decide +kernel
theorem dX10_parse_61 : decode cX10_parse 61 = .ok (.aload_n 0, 1) := by decide +kernel
theorem dX10_parse_62 : decode cX10_parse 62 = .ok (.invokevirtual 184, 3) := by decide +kernel
theorem dX10_parse_65 : decode cX10_parse 65 = .ok (.ifCond .ne 15, 3) := by decide +kernel
theorem dX10_parse_68 : decode cX10_parse 68 = .ok (.aload_n 0, 1) := by decide +kernel
theorem dX10_parse_69 : decode cX10_parse 69 = .ok (.invokevirtual 146, 3) := by decide +kernel
theorem dX10_parse_72 : decode cX10_parse 72 = .ok (.bipush (-10), 2) := by decide +kernel
theorem dX10_parse_74 : decode cX10_parse 74 = .ok (.aload_n 0, 1) := by decide +kernel
theorem dX10_parse_75 : decode cX10_parse 75 = .ok (.getfield 162, 3) := by decide +kernel
theorem dX10_parse_78 : decode cX10_parse 78 = .ok (.isub, 1) := by decide +kernel
theorem dX10_parse_79 : decode cX10_parse 79 = .ok (.ireturn, 1) := by decide +kernel
theorem dX10_parse_80 : decode cX10_parse 80 = .ok (.iinc 1 1, 3) := by decide +kernel
theorem dX10_parse_83 : decode cX10_parse 83 = .ok (.goto (-33), 3) := by decide +kernel
theorem dX10_parse_86 : decode cX10_parse 86 = .ok (.iconst 0, 1) := by decide +kernel
theorem dX10_parse_87 : decode cX10_parse 87 = .ok (.istore_n 2, 1) := by decide +kernel
theorem dX10_parse_88 : decode cX10_parse 88 = .ok (.iload_n 2, 1) := by decide +kernel
theorem dX10_parse_89 : decode cX10_parse 89 = .ok (.sipush 942, 3) := by decide +kernel
theorem dX10_parse_92 : decode cX10_parse 92 = .ok (.if_icmp .ge 35, 3) := by decide +kernel
theorem dX10_parse_95 : decode cX10_parse 95 = .ok (.aload_n 0, 1) := by decide +kernel
theorem dX10_parse_96 : decode cX10_parse 96 = .ok (.getfield 7, 3) := by decide +kernel
theorem dX10_parse_99 : decode cX10_parse 99 = .ok (.iload_n 2, 1) := by decide +kernel
theorem dX10_parse_100 : decode cX10_parse 100 = .ok (.iaload, 1) := by decide +kernel
theorem dX10_parse_101 : decode cX10_parse 101 = .ok (.istore_n 3, 1) := by decide +kernel
theorem dX10_parse_102 : decode cX10_parse 102 = .ok (.aload_n 0, 1) := by decide +kernel
theorem dX10_parse_103 : decode cX10_parse 103 = .ok (.getfield 7, 3) := by decide +kernel
theorem dX10_parse_106 : decode cX10_parse 106 = .ok (.iload_n 2, 1) := by decide +kernel
theorem dX10_parse_107 : decode cX10_parse 107 = .ok (.aload_n 0, 1) := by decide +kernel
theorem dX10_parse_108 : decode cX10_parse 108 = .ok (.getfield 16, 3) := by decide +kernel
theorem dX10_parse_111 : decode cX10_parse 111 = .ok (.iload_n 2, 1) := by decide +kernel
theorem dX10_parse_112 : decode cX10_parse 112 = .ok (.iaload, 1) := by decide +kernel
theorem dX10_parse_113 : decode cX10_parse 113 = .ok (.iastore, 1) := by decide +kernel
theorem dX10_parse_114 : decode cX10_parse 114 = .ok (.aload_n 0, 1) := by decide +kernel
theorem dX10_parse_115 : decode cX10_parse 115 = .ok (.getfield 16, 3) := by decide +kernel
theorem dX10_parse_118 : decode cX10_parse 118 = .ok (.iload_n 2, 1) := by decide +kernel
theorem dX10_parse_119 : decode cX10_parse 119 = .ok (.iload_n 3, 1) := by decide +kernel
theorem dX10_parse_120 : decode cX10_parse 120 = .ok (.iastore, 1) := by decide +kernel
theorem dX10_parse_121 : decode cX10_parse 121 = .ok (.iinc 2 1, 3) := by decide +kernel
theorem dX10_parse_124 : decode cX10_parse 124 = .ok (.goto (-36), 3) := by decide +kernel
theorem dX10_parse_127 : decode cX10_parse 127 = .ok (.aload_n 0, 1) := by decide +kernel
theorem dX10_parse_128 : decode cX10_parse 128 = .ok (.invokevirtual 57, 3) := by decide +kernel
theorem dX10_parse_131 : decode cX10_parse 131 = .ok (.aload_n 0, 1) := by decide +kernel
theorem dX10_parse_132 : decode cX10_parse 132 = .ok (.invokevirtual 146, 3) := by decide +kernel
theorem dX10_parse_135 : decode cX10_parse 135 = .ok (.iload_n 1, 1) := by decide +kernel
theorem dX10_parse_136 : decode cX10_parse 136 = .ok (.ireturn, 1) := by decide +kernel
theorem dX10_undo_0 : decode cX10_undo 0 = .ok (.aload_n 0, 1) := by decide +kernel
theorem dX10_undo_1 : decode cX10_undo 1 = .ok (.aload_n 0, 1) := by decide +kernel
theorem dX10_undo_2 : decode cX10_undo 2 = .ok (.getfield 26, 3) := by decide +kernel
theorem dX10_undo_5 : decode cX10_undo 5 = .ok (.ifCond .le 7, 3) := by decide +kernel
theorem dX10_undo_8 : decode cX10_undo 8 = .ok (.iconst 1, 1) := by decide +kernel
theorem dX10_undo_9 : decode cX10_undo 9 = .ok (.goto 4, 3) := by decide +kernel
theorem dX10_undo_12 : decode cX10_undo 12 = .ok (.iconst 0, 1) := by decide +kernel
theorem dX10_undo_13 : decode cX10_undo 13 = .ok (.iconst 1, 1) := by decide +kernel
theorem dX10_undo_14 : decode cX10_undo 14 = .ok (.iconst 1, 1) := by decide +kernel
theorem dX10_undo_15 : decode cX10_undo 15 = .ok (.invokevirtual 53, 3) := by decide +kernel
theorem dX10_undo_18 : decode cX10_undo 18 = .ok (.ifCond .ne 5, 3) := by decide +kernel
theorem dX10_undo_21 : decode cX10_undo 21 = .ok (.iconst 0, 1) := by decide +kernel
theorem dX10_undo_22 : decode cX10_undo 22 = .ok (.ireturn, 1) := by decide +kernel
theorem dX10_undo_23 : decode cX10_undo 23 = .ok (.aload_n 0, 1) := by decide +kernel
theorem dX10_undo_24 : decode cX10_undo 24 = .ok (.dup, 1) := by decide +kernel
theorem dX10_undo_25 : decode cX10_undo 25 = .ok (.getfield 26, 3) := by decide +kernel
theorem dX10_undo_28 : decode cX10_undo 28 = .ok (.iconst 1, 1) := by decide +kernel
theorem dX10_undo_29 : decode cX10_undo 29 = .ok (.isub, 1) := by decide +kernel
theorem dX10_undo_30 : decode cX10_undo 30 = .ok (.putfield 26, 3) := by decide +kernel
theorem dX10_undo_33 : decode cX10_undo 33 = .ok (.iconst 0, 1) := by decide +kernel
theorem dX10_undo_34 : decode cX10_undo 34 = .ok (.istore_n 1, 1) := by decide +kernel
theorem dX10_undo_35 : decode cX10_undo 35 = .ok (.iload_n 1, 1) := by decide +kernel
theorem dX10_undo_36 : decode cX10_undo 36 = .ok (.sipush 942, 3) := by decide +kernel
theorem dX10_undo_39 : decode cX10_undo 39 = .ok (.if_icmp .ge 30, 3) := by decide +kernel
theorem dX10_undo_42 : decode cX10_undo 42 = .ok (.aload_n 0, 1) := by decide +kernel
theorem dX10_undo_43 : decode cX10_undo 43 = .ok (.getfield 7, 3) := by decide +kernel
theorem dX10_undo_46 : decode cX10_undo 46 = .ok (.iload_n 1, 1) := by decide +kernel
theorem dX10_undo_47 : decode cX10_undo 47 = .ok (.aload_n 0, 1) := by decide +kernel
theorem dX10_undo_48 : decode cX10_undo 48 = .ok (.getfield 13, 3) := by decide +kernel
theorem dX10_undo_51 : decode cX10_undo 51 = .ok (.sipush 942, 3) := by decide +kernel
theorem dX10_undo_54 : decode cX10_undo 54 = .ok (.aload_n 0, 1) := by decide +kernel
theorem dX10_undo_55 : decode cX10_undo 55 = .ok (.getfield 26, 3) := by decide +kernel
theorem dX10_undo_58 : decode cX10_undo 58 = .ok (.imul, 1) := by decide +kernel
theorem dX10_undo_59 : decode cX10_undo 59 = .ok (.iload_n 1, 1) := by decide +kernel
theorem dX10_undo_60 : decode cX10_undo 60 = .ok (.iadd, 1) := by decide +kernel
theorem dX10_undo_61 : decode cX10_undo 61 = .ok (.iaload, 1) := by decide +kernel
theorem dX10_undo_62 : decode cX10_undo 62 = .ok (.iastore, 1) := by decide +kernel
theorem dX10_undo_63 : decode cX10_undo 63 = .ok (.iinc 1 1, 3) := by decide +kernel
theorem dX10_undo_66 : decode cX10_undo 66 = .ok (.goto (-31), 3) := by decide +kernel
theorem dX10_undo_69 : decode cX10_undo 69 = .ok (.aload_n 0, 1) := by decide +kernel
theorem dX10_undo_70 : decode cX10_undo 70 = .ok (.getfield 26, 3) := by decide +kernel
theorem dX10_undo_73 : decode cX10_undo 73 = .ok (.ireturn, 1) := by decide +kernel
theorem dX10_sums_0 : decode cX10_sums 0 = .ok (.ldc2_w 33, 3) := by decide +kernel
theorem dX10_sums_3 : decode cX10_sums 3 = .ok (.lload_n 0, 1) := by decide +kernel
theorem dX10_sums_4 : decode cX10_sums 4 = .ok (.lmul, 1) := by decide +kernel
theorem dX10_sums_5 : decode cX10_sums 5 = .ok (.lload_n 2, 1) := by decide +kernel
theorem dX10_sums_6 : decode cX10_sums 6 = .ok (.ladd, 1) := by decide +kernel
theorem dX10_sums_7 : decode cX10_sums 7 = .ok (.lreturn, 1) := by decide +kernel
theorem dX10_withStation_0 : decode cX10_withStation 0 = .ok (.lload_n 1, 1) := by decide +kernel
theorem dX10_withStation_1 : decode cX10_withStation 1 = .ok (.iload_n 3, 1) := by decide +kernel
theorem dX10_withStation_2 : decode cX10_withStation 2 = .ok (.i2l, 1) := by decide +kernel
theorem dX10_withStation_3 : decode cX10_withStation 3 = .ok (.invokestatic 187, 3) := by decide +kernel
theorem dX10_withStation_6 : decode cX10_withStation 6 = .ok (.lstore 4, 2) := by decide +kernel
theorem dX10_withStation_8 : decode cX10_withStation 8 = .ok (.iconst 0, 1) := by decide +kernel
theorem dX10_withStation_9 : decode cX10_withStation 9 = .ok (.istore 6, 2) := by decide +kernel
theorem dX10_withStation_11 : decode cX10_withStation 11 = .ok (.iload 6, 2) := by decide +kernel
theorem dX10_withStation_13 : decode cX10_withStation 13 = .ok (.bipush 7, 2) := by decide +kernel
theorem dX10_withStation_15 : decode cX10_withStation 15 = .ok (.if_icmp .ge 24, 3) := by decide +kernel
theorem dX10_withStation_18 : decode cX10_withStation 18 = .ok (.lload 4, 2) := by decide +kernel
theorem dX10_withStation_20 : decode cX10_withStation 20 = .ok (.aload_n 0, 1) := by decide +kernel
theorem dX10_withStation_21 : decode cX10_withStation 21 = .ok (.iload_n 3, 1) := by decide +kernel
theorem dX10_withStation_22 : decode cX10_withStation 22 = .ok (.iload 6, 2) := by decide +kernel
theorem dX10_withStation_24 : decode cX10_withStation 24 = .ok (.invokevirtual 136, 3) := by decide +kernel
theorem dX10_withStation_27 : decode cX10_withStation 27 = .ok (.i2l, 1) := by decide +kernel
theorem dX10_withStation_28 : decode cX10_withStation 28 = .ok (.invokestatic 187, 3) := by decide +kernel
theorem dX10_withStation_31 : decode cX10_withStation 31 = .ok (.lstore 4, 2) := by decide +kernel
theorem dX10_withStation_33 : decode cX10_withStation 33 = .ok (.iinc 6 1, 3) := by decide +kernel
theorem dX10_withStation_36 : decode cX10_withStation 36 = .ok (.goto (-25), 3) := by decide +kernel
theorem dX10_withStation_39 : decode cX10_withStation 39 = .ok (.aload_n 0, 1) := by decide +kernel
theorem dX10_withStation_40 : decode cX10_withStation 40 = .ok (.iload_n 3, 1) := by decide +kernel
theorem dX10_withStation_41 : decode cX10_withStation 41 = .ok (.iconst (-1), 1) := by decide +kernel
theorem dX10_withStation_42 : decode cX10_withStation 42 = .ok (.invokevirtual 86, 3) := by decide +kernel
theorem dX10_withStation_45 : decode cX10_withStation 45 = .ok (.istore 6, 2) := by decide +kernel
theorem dX10_withStation_47 : decode cX10_withStation 47 = .ok (.iload 6, 2) := by decide +kernel
theorem dX10_withStation_49 : decode cX10_withStation 49 = .ok (.iconst (-1), 1) := by decide +kernel
theorem dX10_withStation_50 : decode cX10_withStation 50 = .ok (.if_icmp .eq 25, 3) := by decide +kernel
theorem dX10_withStation_53 : decode cX10_withStation 53 = .ok (.lload 4, 2) := by decide +kernel
theorem dX10_withStation_55 : decode cX10_withStation 55 = .ok (.iload 6, 2) := by decide +kernel
theorem dX10_withStation_57 : decode cX10_withStation 57 = .ok (.i2l, 1) := by decide +kernel
theorem dX10_withStation_58 : decode cX10_withStation 58 = .ok (.invokestatic 187, 3) := by decide +kernel
theorem dX10_withStation_61 : decode cX10_withStation 61 = .ok (.lstore 4, 2) := by decide +kernel
theorem dX10_withStation_63 : decode cX10_withStation 63 = .ok (.aload_n 0, 1) := by decide +kernel
theorem dX10_withStation_64 : decode cX10_withStation 64 = .ok (.iload_n 3, 1) := by decide +kernel
theorem dX10_withStation_65 : decode cX10_withStation 65 = .ok (.iload 6, 2) := by decide +kernel
theorem dX10_withStation_67 : decode cX10_withStation 67 = .ok (.invokevirtual 86, 3) := by decide +kernel
theorem dX10_withStation_70 : decode cX10_withStation 70 = .ok (.istore 6, 2) := by decide +kernel
theorem dX10_withStation_72 : decode cX10_withStation 72 = .ok (.goto (-25), 3) := by decide +kernel
theorem dX10_withStation_75 : decode cX10_withStation 75 = .ok (.lload 4, 2) := by decide +kernel
theorem dX10_withStation_77 : decode cX10_withStation 77 = .ok (.lreturn, 1) := by decide +kernel
theorem dX10_digest_0 : decode cX10_digest 0 = .ok (.aload_n 0, 1) := by decide +kernel
theorem dX10_digest_1 : decode cX10_digest 1 = .ok (.iconst 0, 1) := by decide +kernel
theorem dX10_digest_2 : decode cX10_digest 2 = .ok (.putfield 22, 3) := by decide +kernel
theorem dX10_digest_5 : decode cX10_digest 5 = .ok (.ldc2_w 191, 3) := by decide +kernel
theorem dX10_digest_8 : decode cX10_digest 8 = .ok (.aload_n 0, 1) := by decide +kernel
theorem dX10_digest_9 : decode cX10_digest 9 = .ok (.getfield 159, 3) := by decide +kernel
theorem dX10_digest_12 : decode cX10_digest 12 = .ok (.i2l, 1) := by decide +kernel
theorem dX10_digest_13 : decode cX10_digest 13 = .ok (.invokestatic 187, 3) := by decide +kernel
theorem dX10_digest_16 : decode cX10_digest 16 = .ok (.lstore_n 1, 1) := by decide +kernel
theorem dX10_digest_17 : decode cX10_digest 17 = .ok (.iconst 0, 1) := by decide +kernel
theorem dX10_digest_18 : decode cX10_digest 18 = .ok (.istore_n 3, 1) := by decide +kernel
theorem dX10_digest_19 : decode cX10_digest 19 = .ok (.iload_n 3, 1) := by decide +kernel
theorem dX10_digest_20 : decode cX10_digest 20 = .ok (.bipush 9, 2) := by decide +kernel
theorem dX10_digest_22 : decode cX10_digest 22 = .ok (.if_icmp .ge 20, 3) := by decide +kernel
theorem dX10_digest_25 : decode cX10_digest 25 = .ok (.lload_n 1, 1) := by decide +kernel
theorem dX10_digest_26 : decode cX10_digest 26 = .ok (.aload_n 0, 1) := by decide +kernel
theorem dX10_digest_27 : decode cX10_digest 27 = .ok (.iload_n 3, 1) := by decide +kernel
theorem dX10_digest_28 : decode cX10_digest 28 = .ok (.invokevirtual 127, 3) := by decide +kernel
theorem dX10_digest_31 : decode cX10_digest 31 = .ok (.i2l, 1) := by decide +kernel
theorem dX10_digest_32 : decode cX10_digest 32 = .ok (.invokestatic 187, 3) := by decide +kernel
theorem dX10_digest_35 : decode cX10_digest 35 = .ok (.lstore_n 1, 1) := by decide +kernel
theorem dX10_digest_36 : decode cX10_digest 36 = .ok (.iinc 3 1, 3) := by decide +kernel
theorem dX10_digest_39 : decode cX10_digest 39 = .ok (.goto (-20), 3) := by decide +kernel
theorem dX10_digest_42 : decode cX10_digest 42 = .ok (.iconst 0, 1) := by decide +kernel
theorem dX10_digest_43 : decode cX10_digest 43 = .ok (.istore_n 3, 1) := by decide +kernel
theorem dX10_digest_44 : decode cX10_digest 44 = .ok (.iload_n 3, 1) := by decide +kernel
theorem dX10_digest_45 : decode cX10_digest 45 = .ok (.bipush 32, 2) := by decide +kernel
theorem dX10_digest_47 : decode cX10_digest 47 = .ok (.if_icmp .ge 30, 3) := by decide +kernel
theorem dX10_digest_50 : decode cX10_digest 50 = .ok (.aload_n 0, 1) := by decide +kernel
theorem dX10_digest_51 : decode cX10_digest 51 = .ok (.iload_n 3, 1) := by decide +kernel
theorem dX10_digest_52 : decode cX10_digest 52 = .ok (.iconst 0, 1) := by decide +kernel
theorem dX10_digest_53 : decode cX10_digest 53 = .ok (.invokevirtual 39, 3) := by decide +kernel
theorem dX10_digest_56 : decode cX10_digest 56 = .ok (.iconst 1, 1) := by decide +kernel
theorem dX10_digest_57 : decode cX10_digest 57 = .ok (.if_icmp .ne 12, 3) := by decide +kernel
theorem dX10_digest_60 : decode cX10_digest 60 = .ok (.aload_n 0, 1) := by decide +kernel
theorem dX10_digest_61 : decode cX10_digest 61 = .ok (.lload_n 1, 1) := by decide +kernel
theorem dX10_digest_62 : decode cX10_digest 62 = .ok (.iload_n 3, 1) := by decide +kernel
theorem dX10_digest_63 : decode cX10_digest 63 = .ok (.invokevirtual 193, 3) := by decide +kernel
theorem dX10_digest_66 : decode cX10_digest 66 = .ok (.goto 4, 3) := by decide +kernel
theorem dX10_digest_69 : decode cX10_digest 69 = .ok (.lload_n 1, 1) := by decide +kernel
theorem dX10_digest_70 : decode cX10_digest 70 = .ok (.lstore_n 1, 1) := by decide +kernel
theorem dX10_digest_71 : decode cX10_digest 71 = .ok (.iinc 3 1, 3) := by decide +kernel
theorem dX10_digest_74 : decode cX10_digest 74 = .ok (.goto (-30), 3) := by decide +kernel
theorem dX10_digest_77 : decode cX10_digest 77 = .ok (.iconst 0, 1) := by decide +kernel
theorem dX10_digest_78 : decode cX10_digest 78 = .ok (.istore_n 3, 1) := by decide +kernel
theorem dX10_digest_79 : decode cX10_digest 79 = .ok (.iload_n 3, 1) := by decide +kernel
theorem dX10_digest_80 : decode cX10_digest 80 = .ok (.iconst 5, 1) := by decide +kernel
theorem dX10_digest_81 : decode cX10_digest 81 = .ok (.aload_n 0, 1) := by decide +kernel
theorem dX10_digest_82 : decode cX10_digest 82 = .ok (.getfield 7, 3) := by decide +kernel
theorem dX10_digest_85 : decode cX10_digest 85 = .ok (.iconst 5, 1) := by decide +kernel
theorem dX10_digest_86 : decode cX10_digest 86 = .ok (.iaload, 1) := by decide +kernel
theorem dX10_digest_87 : decode cX10_digest 87 = .ok (.imul, 1) := by decide +kernel
theorem dX10_digest_88 : decode cX10_digest 88 = .ok (.if_icmp .ge 25, 3) := by decide +kernel
theorem dX10_digest_91 : decode cX10_digest 91 = .ok (.lload_n 1, 1) := by decide +kernel
theorem dX10_digest_92 : decode cX10_digest 92 = .ok (.aload_n 0, 1) := by decide +kernel
theorem dX10_digest_93 : decode cX10_digest 93 = .ok (.getfield 7, 3) := by decide +kernel
theorem dX10_digest_96 : decode cX10_digest 96 = .ok (.sipush 242, 3) := by decide +kernel
theorem dX10_digest_99 : decode cX10_digest 99 = .ok (.iload_n 3, 1) := by decide +kernel
theorem dX10_digest_100 : decode cX10_digest 100 = .ok (.iadd, 1) := by decide +kernel
theorem dX10_digest_101 : decode cX10_digest 101 = .ok (.iaload, 1) := by decide +kernel
theorem dX10_digest_102 : decode cX10_digest 102 = .ok (.i2l, 1) := by decide +kernel
theorem dX10_digest_103 : decode cX10_digest 103 = .ok (.invokestatic 187, 3) := by decide +kernel
theorem dX10_digest_106 : decode cX10_digest 106 = .ok (.lstore_n 1, 1) := by decide +kernel
theorem dX10_digest_107 : decode cX10_digest 107 = .ok (.iinc 3 1, 3) := by decide +kernel
theorem dX10_digest_110 : decode cX10_digest 110 = .ok (.goto (-31), 3) := by decide +kernel
theorem dX10_digest_113 : decode cX10_digest 113 = .ok (.iconst 0, 1) := by decide +kernel
theorem dX10_digest_114 : decode cX10_digest 114 = .ok (.istore_n 3, 1) := by decide +kernel
theorem dX10_digest_115 : decode cX10_digest 115 = .ok (.iload_n 3, 1) := by decide +kernel
theorem dX10_digest_116 : decode cX10_digest 116 = .ok (.bipush 7, 2) := by decide +kernel
theorem dX10_digest_118 : decode cX10_digest 118 = .ok (.if_icmp .ge 24, 3) := by decide +kernel
theorem dX10_digest_121 : decode cX10_digest 121 = .ok (.lload_n 1, 1) := by decide +kernel
theorem dX10_digest_122 : decode cX10_digest 122 = .ok (.aload_n 0, 1) := by decide +kernel
theorem dX10_digest_123 : decode cX10_digest 123 = .ok (.getfield 7, 3) := by decide +kernel
theorem dX10_digest_126 : decode cX10_digest 126 = .ok (.bipush 9, 2) := by decide +kernel
theorem dX10_digest_128 : decode cX10_digest 128 = .ok (.iload_n 3, 1) := by decide +kernel
theorem dX10_digest_129 : decode cX10_digest 129 = .ok (.iadd, 1) := by decide +kernel
theorem dX10_digest_130 : decode cX10_digest 130 = .ok (.iaload, 1) := by decide +kernel
theorem dX10_digest_131 : decode cX10_digest 131 = .ok (.i2l, 1) := by decide +kernel
theorem dX10_digest_132 : decode cX10_digest 132 = .ok (.invokestatic 187, 3) := by decide +kernel
theorem dX10_digest_135 : decode cX10_digest 135 = .ok (.lstore_n 1, 1) := by decide +kernel
theorem dX10_digest_136 : decode cX10_digest 136 = .ok (.iinc 3 1, 3) := by decide +kernel
theorem dX10_digest_139 : decode cX10_digest 139 = .ok (.goto (-24), 3) := by decide +kernel
theorem dX10_digest_142 : decode cX10_digest 142 = .ok (.lload_n 1, 1) := by decide +kernel
theorem dX10_digest_143 : decode cX10_digest 143 = .ok (.aload_n 0, 1) := by decide +kernel
theorem dX10_digest_144 : decode cX10_digest 144 = .ok (.getfield 7, 3) := by decide +kernel
theorem dX10_digest_147 : decode cX10_digest 147 = .ok (.bipush 8, 2) := by decide +kernel
theorem dX10_digest_149 : decode cX10_digest 149 = .ok (.iaload, 1) := by decide +kernel
theorem dX10_digest_150 : decode cX10_digest 150 = .ok (.i2l, 1) := by decide +kernel
theorem dX10_digest_151 : decode cX10_digest 151 = .ok (.invokestatic 187, 3) := by decide +kernel
theorem dX10_digest_154 : decode cX10_digest 154 = .ok (.aload_n 0, 1) := by decide +kernel
theorem dX10_digest_155 : decode cX10_digest 155 = .ok (.getfield 7, 3) := by decide +kernel
theorem dX10_digest_158 : decode cX10_digest 158 = .ok (.bipush 7, 2) := by decide +kernel
theorem dX10_digest_160 : decode cX10_digest 160 = .ok (.iaload, 1) := by decide +kernel
theorem dX10_digest_161 : decode cX10_digest 161 = .ok (.i2l, 1) := by decide +kernel
theorem dX10_digest_162 : decode cX10_digest 162 = .ok (.invokestatic 187, 3) := by decide +kernel
theorem dX10_digest_165 : decode cX10_digest 165 = .ok (.lstore_n 1, 1) := by decide +kernel
theorem dX10_digest_166 : decode cX10_digest 166 = .ok (.iconst 0, 1) := by decide +kernel
theorem dX10_digest_167 : decode cX10_digest 167 = .ok (.istore_n 3, 1) := by decide +kernel
theorem dX10_digest_168 : decode cX10_digest 168 = .ok (.iload_n 3, 1) := by decide +kernel
theorem dX10_digest_169 : decode cX10_digest 169 = .ok (.iconst 4, 1) := by decide +kernel
theorem dX10_digest_170 : decode cX10_digest 170 = .ok (.aload_n 0, 1) := by decide +kernel
theorem dX10_digest_171 : decode cX10_digest 171 = .ok (.getfield 7, 3) := by decide +kernel
theorem dX10_digest_174 : decode cX10_digest 174 = .ok (.bipush 7, 2) := by decide +kernel
theorem dX10_digest_176 : decode cX10_digest 176 = .ok (.iaload, 1) := by decide +kernel
theorem dX10_digest_177 : decode cX10_digest 177 = .ok (.imul, 1) := by decide +kernel
theorem dX10_digest_178 : decode cX10_digest 178 = .ok (.if_icmp .ge 25, 3) := by decide +kernel
theorem dX10_digest_181 : decode cX10_digest 181 = .ok (.lload_n 1, 1) := by decide +kernel
theorem dX10_digest_182 : decode cX10_digest 182 = .ok (.aload_n 0, 1) := by decide +kernel
theorem dX10_digest_183 : decode cX10_digest 183 = .ok (.getfield 7, 3) := by decide +kernel
theorem dX10_digest_186 : decode cX10_digest 186 = .ok (.sipush 782, 3) := by decide +kernel
theorem dX10_digest_189 : decode cX10_digest 189 = .ok (.iload_n 3, 1) := by decide +kernel
theorem dX10_digest_190 : decode cX10_digest 190 = .ok (.iadd, 1) := by decide +kernel
theorem dX10_digest_191 : decode cX10_digest 191 = .ok (.iaload, 1) := by decide +kernel
theorem dX10_digest_192 : decode cX10_digest 192 = .ok (.i2l, 1) := by decide +kernel
theorem dX10_digest_193 : decode cX10_digest 193 = .ok (.invokestatic 187, 3) := by decide +kernel
theorem dX10_digest_196 : decode cX10_digest 196 = .ok (.lstore_n 1, 1) := by decide +kernel
theorem dX10_digest_197 : decode cX10_digest 197 = .ok (.iinc 3 1, 3) := by decide +kernel
theorem dX10_digest_200 : decode cX10_digest 200 = .ok (.goto (-32), 3) := by decide +kernel
theorem dX10_digest_203 : decode cX10_digest 203 = .ok (.lload_n 1, 1) := by decide +kernel
theorem dX10_digest_204 : decode cX10_digest 204 = .ok (.aload_n 0, 1) := by decide +kernel
theorem dX10_digest_205 : decode cX10_digest 205 = .ok (.getfield 26, 3) := by decide +kernel
theorem dX10_digest_208 : decode cX10_digest 208 = .ok (.i2l, 1) := by decide +kernel
theorem dX10_digest_209 : decode cX10_digest 209 = .ok (.invokestatic 187, 3) := by decide +kernel
theorem dX10_digest_212 : decode cX10_digest 212 = .ok (.lreturn, 1) := by decide +kernel
theorem dL_addStation_0 : decode cL_addStation 0 = .ok (.aload_n 2, 1) := by decide +kernel
theorem dL_addStation_1 : decode cL_addStation 1 = .ok (.iconst 0, 1) := by decide +kernel
theorem dL_addStation_2 : decode cL_addStation 2 = .ok (.aload_n 0, 1) := by decide +kernel
theorem dL_addStation_3 : decode cL_addStation 3 = .ok (.iload_n 1, 1) := by decide +kernel
theorem dL_addStation_4 : decode cL_addStation 4 = .ok (.invokevirtual 7, 3) := by decide +kernel
theorem dL_addStation_7 : decode cL_addStation 7 = .ok (.i2l, 1) := by decide +kernel
theorem dL_addStation_8 : decode cL_addStation 8 = .ok (.lastore, 1) := by decide +kernel
theorem dL_addStation_9 : decode cL_addStation 9 = .ok (.goto 9, 3) := by decide +kernel
theorem dL_addStation_12 : decode cL_addStation 12 = .ok (.astore_n 3, 1) := by decide +kernel
theorem dL_addStation_13 : decode cL_addStation 13 = .ok (.iconst 1, 1) := by decide +kernel
theorem dL_addStation_14 : decode cL_addStation 14 = .ok (.ireturn, 1) := by decide +kernel
theorem dL_addStation_15 : decode cL_addStation 15 = .ok (.astore_n 3, 1) := by decide +kernel
theorem dL_addStation_16 : decode cL_addStation 16 = .ok (.iconst 2, 1) := by decide +kernel
theorem dL_addStation_17 : decode cL_addStation 17 = .ok (.ireturn, 1) := by decide +kernel
theorem dL_addStation_18 : decode cL_addStation 18 = .ok (.iconst 0, 1) := by decide +kernel
theorem dL_addStation_19 : decode cL_addStation 19 = .ok (.ireturn, 1) := by decide +kernel
theorem dL_setOn_0 : decode cL_setOn 0 = .ok (.aload_n 3, 1) := by decide +kernel
theorem dL_setOn_1 : decode cL_setOn 1 = .ok (.iconst 0, 1) := by decide +kernel
theorem dL_setOn_2 : decode cL_setOn 2 = .ok (.aload_n 0, 1) := by decide +kernel
theorem dL_setOn_3 : decode cL_setOn 3 = .ok (.iload_n 1, 1) := by decide +kernel
theorem dL_setOn_4 : decode cL_setOn 4 = .ok (.iload_n 2, 1) := by decide +kernel
theorem dL_setOn_5 : decode cL_setOn 5 = .ok (.invokevirtual 17, 3) := by decide +kernel
theorem dL_setOn_8 : decode cL_setOn 8 = .ok (.ifCond .eq 7, 3) := by decide +kernel
theorem dL_setOn_11 : decode cL_setOn 11 = .ok (.lconst 1, 1) := by decide +kernel
theorem dL_setOn_12 : decode cL_setOn 12 = .ok (.goto 4, 3) := by decide +kernel
theorem dL_setOn_15 : decode cL_setOn 15 = .ok (.lconst 0, 1) := by decide +kernel
theorem dL_setOn_16 : decode cL_setOn 16 = .ok (.lastore, 1) := by decide +kernel
theorem dL_setOn_17 : decode cL_setOn 17 = .ok (.goto 7, 3) := by decide +kernel
theorem dL_setOn_20 : decode cL_setOn 20 = .ok (.astore 4, 2) := by decide +kernel
theorem dL_setOn_22 : decode cL_setOn 22 = .ok (.iconst 1, 1) := by decide +kernel
theorem dL_setOn_23 : decode cL_setOn 23 = .ok (.ireturn, 1) := by decide +kernel
theorem dL_setOn_24 : decode cL_setOn 24 = .ok (.iconst 0, 1) := by decide +kernel
theorem dL_setOn_25 : decode cL_setOn 25 = .ok (.ireturn, 1) := by decide +kernel
theorem dL_setTimes_0 : decode cL_setTimes 0 = .ok (.aload 4, 2) := by decide +kernel
theorem dL_setTimes_2 : decode cL_setTimes 2 = .ok (.iconst 0, 1) := by decide +kernel
theorem dL_setTimes_3 : decode cL_setTimes 3 = .ok (.aload_n 0, 1) := by decide +kernel
theorem dL_setTimes_4 : decode cL_setTimes 4 = .ok (.iload_n 1, 1) := by decide +kernel
theorem dL_setTimes_5 : decode cL_setTimes 5 = .ok (.iload_n 2, 1) := by decide +kernel
theorem dL_setTimes_6 : decode cL_setTimes 6 = .ok (.iload_n 3, 1) := by decide +kernel
theorem dL_setTimes_7 : decode cL_setTimes 7 = .ok (.invokevirtual 23, 3) := by decide +kernel
theorem dL_setTimes_10 : decode cL_setTimes 10 = .ok (.i2l, 1) := by decide +kernel
theorem dL_setTimes_11 : decode cL_setTimes 11 = .ok (.lastore, 1) := by decide +kernel
theorem dL_setTimes_12 : decode cL_setTimes 12 = .ok (.goto 7, 3) := by decide +kernel
theorem dL_setTimes_15 : decode cL_setTimes 15 = .ok (.astore 5, 2) := by decide +kernel
theorem dL_setTimes_17 : decode cL_setTimes 17 = .ok (.iconst 1, 1) := by decide +kernel
theorem dL_setTimes_18 : decode cL_setTimes 18 = .ok (.ireturn, 1) := by decide +kernel
theorem dL_setTimes_19 : decode cL_setTimes 19 = .ok (.iconst 0, 1) := by decide +kernel
theorem dL_setTimes_20 : decode cL_setTimes 20 = .ok (.ireturn, 1) := by decide +kernel
theorem dL_give_0 : decode cL_give 0 = .ok (.aload 4, 2) := by decide +kernel
theorem dL_give_2 : decode cL_give 2 = .ok (.iconst 0, 1) := by decide +kernel
theorem dL_give_3 : decode cL_give 3 = .ok (.aload_n 0, 1) := by decide +kernel
theorem dL_give_4 : decode cL_give 4 = .ok (.iload_n 1, 1) := by decide +kernel
theorem dL_give_5 : decode cL_give 5 = .ok (.iload_n 2, 1) := by decide +kernel
theorem dL_give_6 : decode cL_give 6 = .ok (.iload_n 3, 1) := by decide +kernel
theorem dL_give_7 : decode cL_give 7 = .ok (.invokevirtual 27, 3) := by decide +kernel
theorem dL_give_10 : decode cL_give 10 = .ok (.i2l, 1) := by decide +kernel
theorem dL_give_11 : decode cL_give 11 = .ok (.lastore, 1) := by decide +kernel
theorem dL_give_12 : decode cL_give 12 = .ok (.goto 15, 3) := by decide +kernel
theorem dL_give_15 : decode cL_give 15 = .ok (.astore 5, 2) := by decide +kernel
theorem dL_give_17 : decode cL_give 17 = .ok (.iconst 1, 1) := by decide +kernel
theorem dL_give_18 : decode cL_give 18 = .ok (.ireturn, 1) := by decide +kernel
theorem dL_give_19 : decode cL_give 19 = .ok (.astore 5, 2) := by decide +kernel
theorem dL_give_21 : decode cL_give 21 = .ok (.iconst 2, 1) := by decide +kernel
theorem dL_give_22 : decode cL_give 22 = .ok (.ireturn, 1) := by decide +kernel
theorem dL_give_23 : decode cL_give 23 = .ok (.astore 5, 2) := by decide +kernel
theorem dL_give_25 : decode cL_give 25 = .ok (.iconst 3, 1) := by decide +kernel
theorem dL_give_26 : decode cL_give 26 = .ok (.ireturn, 1) := by decide +kernel
theorem dL_give_27 : decode cL_give 27 = .ok (.iconst 0, 1) := by decide +kernel
theorem dL_give_28 : decode cL_give 28 = .ok (.ireturn, 1) := by decide +kernel
theorem dL_addNoise_0 : decode cL_addNoise 0 = .ok (.aload_n 3, 1) := by decide +kernel
theorem dL_addNoise_1 : decode cL_addNoise 1 = .ok (.iconst 0, 1) := by decide +kernel
theorem dL_addNoise_2 : decode cL_addNoise 2 = .ok (.aload_n 0, 1) := by decide +kernel
theorem dL_addNoise_3 : decode cL_addNoise 3 = .ok (.iload_n 1, 1) := by decide +kernel
theorem dL_addNoise_4 : decode cL_addNoise 4 = .ok (.iload_n 2, 1) := by decide +kernel
theorem dL_addNoise_5 : decode cL_addNoise 5 = .ok (.invokevirtual 30, 3) := by decide +kernel
theorem dL_addNoise_8 : decode cL_addNoise 8 = .ok (.i2l, 1) := by decide +kernel
theorem dL_addNoise_9 : decode cL_addNoise 9 = .ok (.lastore, 1) := by decide +kernel
theorem dL_addNoise_10 : decode cL_addNoise 10 = .ok (.goto 11, 3) := by decide +kernel
theorem dL_addNoise_13 : decode cL_addNoise 13 = .ok (.astore 4, 2) := by decide +kernel
theorem dL_addNoise_15 : decode cL_addNoise 15 = .ok (.iconst 1, 1) := by decide +kernel
theorem dL_addNoise_16 : decode cL_addNoise 16 = .ok (.ireturn, 1) := by decide +kernel
theorem dL_addNoise_17 : decode cL_addNoise 17 = .ok (.astore 4, 2) := by decide +kernel
theorem dL_addNoise_19 : decode cL_addNoise 19 = .ok (.iconst 2, 1) := by decide +kernel
theorem dL_addNoise_20 : decode cL_addNoise 20 = .ok (.ireturn, 1) := by decide +kernel
theorem dL_addNoise_21 : decode cL_addNoise 21 = .ok (.iconst 0, 1) := by decide +kernel
theorem dL_addNoise_22 : decode cL_addNoise 22 = .ok (.ireturn, 1) := by decide +kernel
theorem dL_run_0 : decode cL_run 0 = .ok (.aload_n 2, 1) := by decide +kernel
theorem dL_run_1 : decode cL_run 1 = .ok (.iconst 0, 1) := by decide +kernel
theorem dL_run_2 : decode cL_run 2 = .ok (.aload_n 0, 1) := by decide +kernel
theorem dL_run_3 : decode cL_run 3 = .ok (.iload_n 1, 1) := by decide +kernel
theorem dL_run_4 : decode cL_run 4 = .ok (.invokevirtual 34, 3) := by decide +kernel
theorem dL_run_7 : decode cL_run 7 = .ok (.i2l, 1) := by decide +kernel
theorem dL_run_8 : decode cL_run 8 = .ok (.lastore, 1) := by decide +kernel
theorem dL_run_9 : decode cL_run 9 = .ok (.goto 9, 3) := by decide +kernel
theorem dL_run_12 : decode cL_run 12 = .ok (.astore_n 3, 1) := by decide +kernel
theorem dL_run_13 : decode cL_run 13 = .ok (.iconst 1, 1) := by decide +kernel
theorem dL_run_14 : decode cL_run 14 = .ok (.ireturn, 1) := by decide +kernel
theorem dL_run_15 : decode cL_run 15 = .ok (.astore_n 3, 1) := by decide +kernel
theorem dL_run_16 : decode cL_run 16 = .ok (.iconst 2, 1) := by decide +kernel
theorem dL_run_17 : decode cL_run 17 = .ok (.ireturn, 1) := by decide +kernel
theorem dL_run_18 : decode cL_run 18 = .ok (.iconst 0, 1) := by decide +kernel
theorem dL_run_19 : decode cL_run 19 = .ok (.ireturn, 1) := by decide +kernel
theorem dL_setting_0 : decode cL_setting 0 = .ok (.aload_n 2, 1) := by decide +kernel
theorem dL_setting_1 : decode cL_setting 1 = .ok (.iconst 0, 1) := by decide +kernel
theorem dL_setting_2 : decode cL_setting 2 = .ok (.aload_n 0, 1) := by decide +kernel
theorem dL_setting_3 : decode cL_setting 3 = .ok (.iload_n 1, 1) := by decide +kernel
theorem dL_setting_4 : decode cL_setting 4 = .ok (.invokevirtual 37, 3) := by decide +kernel
theorem dL_setting_7 : decode cL_setting 7 = .ok (.i2l, 1) := by decide +kernel
theorem dL_setting_8 : decode cL_setting 8 = .ok (.lastore, 1) := by decide +kernel
theorem dL_setting_9 : decode cL_setting 9 = .ok (.goto 6, 3) := by decide +kernel
theorem dL_setting_12 : decode cL_setting 12 = .ok (.astore_n 3, 1) := by decide +kernel
theorem dL_setting_13 : decode cL_setting 13 = .ok (.iconst 1, 1) := by decide +kernel
theorem dL_setting_14 : decode cL_setting 14 = .ok (.ireturn, 1) := by decide +kernel
theorem dL_setting_15 : decode cL_setting 15 = .ok (.iconst 0, 1) := by decide +kernel
theorem dL_setting_16 : decode cL_setting 16 = .ok (.ireturn, 1) := by decide +kernel
theorem dL_station_0 : decode cL_station 0 = .ok (.aload_n 3, 1) := by decide +kernel
theorem dL_station_1 : decode cL_station 1 = .ok (.iconst 0, 1) := by decide +kernel
theorem dL_station_2 : decode cL_station 2 = .ok (.aload_n 0, 1) := by decide +kernel
theorem dL_station_3 : decode cL_station 3 = .ok (.iload_n 1, 1) := by decide +kernel
theorem dL_station_4 : decode cL_station 4 = .ok (.iload_n 2, 1) := by decide +kernel
theorem dL_station_5 : decode cL_station 5 = .ok (.invokevirtual 40, 3) := by decide +kernel
theorem dL_station_8 : decode cL_station 8 = .ok (.i2l, 1) := by decide +kernel
theorem dL_station_9 : decode cL_station 9 = .ok (.lastore, 1) := by decide +kernel
theorem dL_station_10 : decode cL_station 10 = .ok (.goto 11, 3) := by decide +kernel
theorem dL_station_13 : decode cL_station 13 = .ok (.astore 4, 2) := by decide +kernel
theorem dL_station_15 : decode cL_station 15 = .ok (.iconst 1, 1) := by decide +kernel
theorem dL_station_16 : decode cL_station 16 = .ok (.ireturn, 1) := by decide +kernel
theorem dL_station_17 : decode cL_station 17 = .ok (.astore 4, 2) := by decide +kernel
theorem dL_station_19 : decode cL_station 19 = .ok (.iconst 2, 1) := by decide +kernel
theorem dL_station_20 : decode cL_station 20 = .ok (.ireturn, 1) := by decide +kernel
theorem dL_station_21 : decode cL_station 21 = .ok (.iconst 0, 1) := by decide +kernel
theorem dL_station_22 : decode cL_station 22 = .ok (.ireturn, 1) := by decide +kernel
theorem dL_addressAt_0 : decode cL_addressAt 0 = .ok (.aload_n 2, 1) := by decide +kernel
theorem dL_addressAt_1 : decode cL_addressAt 1 = .ok (.iconst 0, 1) := by decide +kernel
theorem dL_addressAt_2 : decode cL_addressAt 2 = .ok (.aload_n 0, 1) := by decide +kernel
theorem dL_addressAt_3 : decode cL_addressAt 3 = .ok (.iload_n 1, 1) := by decide +kernel
theorem dL_addressAt_4 : decode cL_addressAt 4 = .ok (.invokevirtual 43, 3) := by decide +kernel
theorem dL_addressAt_7 : decode cL_addressAt 7 = .ok (.i2l, 1) := by decide +kernel
theorem dL_addressAt_8 : decode cL_addressAt 8 = .ok (.lastore, 1) := by decide +kernel
theorem dL_addressAt_9 : decode cL_addressAt 9 = .ok (.goto 6, 3) := by decide +kernel
theorem dL_addressAt_12 : decode cL_addressAt 12 = .ok (.astore_n 3, 1) := by decide +kernel
theorem dL_addressAt_13 : decode cL_addressAt 13 = .ok (.iconst 1, 1) := by decide +kernel
theorem dL_addressAt_14 : decode cL_addressAt 14 = .ok (.ireturn, 1) := by decide +kernel
theorem dL_addressAt_15 : decode cL_addressAt 15 = .ok (.iconst 0, 1) := by decide +kernel
theorem dL_addressAt_16 : decode cL_addressAt 16 = .ok (.ireturn, 1) := by decide +kernel
theorem dL_queued_0 : decode cL_queued 0 = .ok (.aload_n 3, 1) := by decide +kernel
theorem dL_queued_1 : decode cL_queued 1 = .ok (.iconst 0, 1) := by decide +kernel
theorem dL_queued_2 : decode cL_queued 2 = .ok (.aload_n 0, 1) := by decide +kernel
theorem dL_queued_3 : decode cL_queued 3 = .ok (.iload_n 1, 1) := by decide +kernel
theorem dL_queued_4 : decode cL_queued 4 = .ok (.iload_n 2, 1) := by decide +kernel
theorem dL_queued_5 : decode cL_queued 5 = .ok (.invokevirtual 48, 3) := by decide +kernel
theorem dL_queued_8 : decode cL_queued 8 = .ok (.i2l, 1) := by decide +kernel
theorem dL_queued_9 : decode cL_queued 9 = .ok (.lastore, 1) := by decide +kernel
theorem dL_queued_10 : decode cL_queued 10 = .ok (.goto 11, 3) := by decide +kernel
theorem dL_queued_13 : decode cL_queued 13 = .ok (.astore 4, 2) := by decide +kernel
theorem dL_queued_15 : decode cL_queued 15 = .ok (.iconst 1, 1) := by decide +kernel
theorem dL_queued_16 : decode cL_queued 16 = .ok (.ireturn, 1) := by decide +kernel
theorem dL_queued_17 : decode cL_queued 17 = .ok (.astore 4, 2) := by decide +kernel
theorem dL_queued_19 : decode cL_queued 19 = .ok (.iconst 2, 1) := by decide +kernel
theorem dL_queued_20 : decode cL_queued 20 = .ok (.ireturn, 1) := by decide +kernel
theorem dL_queued_21 : decode cL_queued 21 = .ok (.iconst 0, 1) := by decide +kernel
theorem dL_queued_22 : decode cL_queued 22 = .ok (.ireturn, 1) := by decide +kernel
theorem dL_message_0 : decode cL_message 0 = .ok (.aload_n 3, 1) := by decide +kernel
theorem dL_message_1 : decode cL_message 1 = .ok (.iconst 0, 1) := by decide +kernel
theorem dL_message_2 : decode cL_message 2 = .ok (.aload_n 0, 1) := by decide +kernel
theorem dL_message_3 : decode cL_message 3 = .ok (.iload_n 1, 1) := by decide +kernel
theorem dL_message_4 : decode cL_message 4 = .ok (.iload_n 2, 1) := by decide +kernel
theorem dL_message_5 : decode cL_message 5 = .ok (.invokevirtual 51, 3) := by decide +kernel
theorem dL_message_8 : decode cL_message 8 = .ok (.i2l, 1) := by decide +kernel
theorem dL_message_9 : decode cL_message 9 = .ok (.lastore, 1) := by decide +kernel
theorem dL_message_10 : decode cL_message 10 = .ok (.goto 11, 3) := by decide +kernel
theorem dL_message_13 : decode cL_message 13 = .ok (.astore 4, 2) := by decide +kernel
theorem dL_message_15 : decode cL_message 15 = .ok (.iconst 1, 1) := by decide +kernel
theorem dL_message_16 : decode cL_message 16 = .ok (.ireturn, 1) := by decide +kernel
theorem dL_message_17 : decode cL_message 17 = .ok (.astore 4, 2) := by decide +kernel
theorem dL_message_19 : decode cL_message 19 = .ok (.iconst 2, 1) := by decide +kernel
theorem dL_message_20 : decode cL_message 20 = .ok (.ireturn, 1) := by decide +kernel
theorem dL_message_21 : decode cL_message 21 = .ok (.iconst 0, 1) := by decide +kernel
theorem dL_message_22 : decode cL_message 22 = .ok (.ireturn, 1) := by decide +kernel
theorem dL_count_0 : decode cL_count 0 = .ok (.aload_n 2, 1) := by decide +kernel
theorem dL_count_1 : decode cL_count 1 = .ok (.iconst 0, 1) := by decide +kernel
theorem dL_count_2 : decode cL_count 2 = .ok (.aload_n 0, 1) := by decide +kernel
theorem dL_count_3 : decode cL_count 3 = .ok (.iload_n 1, 1) := by decide +kernel
theorem dL_count_4 : decode cL_count 4 = .ok (.invokevirtual 54, 3) := by decide +kernel
theorem dL_count_7 : decode cL_count 7 = .ok (.i2l, 1) := by decide +kernel
theorem dL_count_8 : decode cL_count 8 = .ok (.lastore, 1) := by decide +kernel
theorem dL_count_9 : decode cL_count 9 = .ok (.goto 6, 3) := by decide +kernel
theorem dL_count_12 : decode cL_count 12 = .ok (.astore_n 3, 1) := by decide +kernel
theorem dL_count_13 : decode cL_count 13 = .ok (.iconst 1, 1) := by decide +kernel
theorem dL_count_14 : decode cL_count 14 = .ok (.ireturn, 1) := by decide +kernel
theorem dL_count_15 : decode cL_count 15 = .ok (.iconst 0, 1) := by decide +kernel
theorem dL_count_16 : decode cL_count 16 = .ok (.ireturn, 1) := by decide +kernel
theorem dL_isNoisy_0 : decode cL_isNoisy 0 = .ok (.aload_n 2, 1) := by decide +kernel
theorem dL_isNoisy_1 : decode cL_isNoisy 1 = .ok (.iconst 0, 1) := by decide +kernel
theorem dL_isNoisy_2 : decode cL_isNoisy 2 = .ok (.aload_n 0, 1) := by decide +kernel
theorem dL_isNoisy_3 : decode cL_isNoisy 3 = .ok (.iload_n 1, 1) := by decide +kernel
theorem dL_isNoisy_4 : decode cL_isNoisy 4 = .ok (.invokevirtual 57, 3) := by decide +kernel
theorem dL_isNoisy_7 : decode cL_isNoisy 7 = .ok (.ifCond .eq 7, 3) := by decide +kernel
theorem dL_isNoisy_10 : decode cL_isNoisy 10 = .ok (.lconst 1, 1) := by decide +kernel
theorem dL_isNoisy_11 : decode cL_isNoisy 11 = .ok (.goto 4, 3) := by decide +kernel
theorem dL_isNoisy_14 : decode cL_isNoisy 14 = .ok (.lconst 0, 1) := by decide +kernel
theorem dL_isNoisy_15 : decode cL_isNoisy 15 = .ok (.lastore, 1) := by decide +kernel
theorem dL_isNoisy_16 : decode cL_isNoisy 16 = .ok (.goto 6, 3) := by decide +kernel
theorem dL_isNoisy_19 : decode cL_isNoisy 19 = .ok (.astore_n 3, 1) := by decide +kernel
theorem dL_isNoisy_20 : decode cL_isNoisy 20 = .ok (.iconst 1, 1) := by decide +kernel
theorem dL_isNoisy_21 : decode cL_isNoisy 21 = .ok (.ireturn, 1) := by decide +kernel
theorem dL_isNoisy_22 : decode cL_isNoisy 22 = .ok (.iconst 0, 1) := by decide +kernel
theorem dL_isNoisy_23 : decode cL_isNoisy 23 = .ok (.ireturn, 1) := by decide +kernel
theorem dL_visit_0 : decode cL_visit 0 = .ok (.aload_n 3, 1) := by decide +kernel
theorem dL_visit_1 : decode cL_visit 1 = .ok (.iconst 0, 1) := by decide +kernel
theorem dL_visit_2 : decode cL_visit 2 = .ok (.aload_n 0, 1) := by decide +kernel
theorem dL_visit_3 : decode cL_visit 3 = .ok (.iload_n 1, 1) := by decide +kernel
theorem dL_visit_4 : decode cL_visit 4 = .ok (.iload_n 2, 1) := by decide +kernel
theorem dL_visit_5 : decode cL_visit 5 = .ok (.invokevirtual 61, 3) := by decide +kernel
theorem dL_visit_8 : decode cL_visit 8 = .ok (.i2l, 1) := by decide +kernel
theorem dL_visit_9 : decode cL_visit 9 = .ok (.lastore, 1) := by decide +kernel
theorem dL_visit_10 : decode cL_visit 10 = .ok (.goto 11, 3) := by decide +kernel
theorem dL_visit_13 : decode cL_visit 13 = .ok (.astore 4, 2) := by decide +kernel
theorem dL_visit_15 : decode cL_visit 15 = .ok (.iconst 1, 1) := by decide +kernel
end
section
theorem dL_visit_16 : decode cL_visit 16 = .ok (.ireturn, 1) := by decide +kernel
theorem dL_visit_17 : decode cL_visit 17 = .ok (.astore 4, 2) := by decide +kernel
theorem dL_visit_19 : decode cL_visit 19 = .ok (.iconst 2, 1) := by decide +kernel
theorem dL_visit_20 : decode cL_visit 20 = .ok (.ireturn, 1) := by decide +kernel
theorem dL_visit_21 : decode cL_visit 21 = .ok (.iconst 0, 1) := by decide +kernel
theorem dL_visit_22 : decode cL_visit 22 = .ok (.ireturn, 1) := by decide +kernel
theorem dL_waitOf_0 : decode cL_waitOf 0 = .ok (.aload_n 2, 1) := by decide +kernel
theorem dL_waitOf_1 : decode cL_waitOf 1 = .ok (.iconst 0, 1) := by decide +kernel
theorem dL_waitOf_2 : decode cL_waitOf 2 = .ok (.aload_n 0, 1) := by decide +kernel
theorem dL_waitOf_3 : decode cL_waitOf 3 = .ok (.iload_n 1, 1) := by decide +kernel
theorem dL_waitOf_4 : decode cL_waitOf 4 = .ok (.invokevirtual 64, 3) := by decide +kernel
theorem dL_waitOf_7 : decode cL_waitOf 7 = .ok (.i2l, 1) := by decide +kernel
theorem dL_waitOf_8 : decode cL_waitOf 8 = .ok (.lastore, 1) := by decide +kernel
theorem dL_waitOf_9 : decode cL_waitOf 9 = .ok (.goto 9, 3) := by decide +kernel
theorem dL_waitOf_12 : decode cL_waitOf 12 = .ok (.astore_n 3, 1) := by decide +kernel
theorem dL_waitOf_13 : decode cL_waitOf 13 = .ok (.iconst 1, 1) := by decide +kernel
theorem dL_waitOf_14 : decode cL_waitOf 14 = .ok (.ireturn, 1) := by decide +kernel
theorem dL_waitOf_15 : decode cL_waitOf 15 = .ok (.astore_n 3, 1) := by decide +kernel
theorem dL_waitOf_16 : decode cL_waitOf 16 = .ok (.iconst 2, 1) := by decide +kernel
theorem dL_waitOf_17 : decode cL_waitOf 17 = .ok (.ireturn, 1) := by decide +kernel
theorem dL_waitOf_18 : decode cL_waitOf 18 = .ok (.iconst 0, 1) := by decide +kernel
theorem dL_waitOf_19 : decode cL_waitOf 19 = .ok (.ireturn, 1) := by decide +kernel
theorem dL_completeAfter_0 : decode cL_completeAfter 0 = .ok (.aload_n 1, 1) := by decide +kernel
theorem dL_completeAfter_1 : decode cL_completeAfter 1 = .ok (.iconst 0, 1) := by decide +kernel
theorem dL_completeAfter_2 : decode cL_completeAfter 2 = .ok (.aload_n 0, 1) := by decide +kernel
theorem dL_completeAfter_3 : decode cL_completeAfter 3 = .ok (.invokevirtual 67, 3) := by decide +kernel
theorem dL_completeAfter_6 : decode cL_completeAfter 6 = .ok (.i2l, 1) := by decide +kernel
theorem dL_completeAfter_7 : decode cL_completeAfter 7 = .ok (.lastore, 1) := by decide +kernel
theorem dL_completeAfter_8 : decode cL_completeAfter 8 = .ok (.goto 6, 3) := by decide +kernel
theorem dL_completeAfter_11 : decode cL_completeAfter 11 = .ok (.astore_n 2, 1) := by decide +kernel
theorem dL_completeAfter_12 : decode cL_completeAfter 12 = .ok (.iconst 1, 1) := by decide +kernel
theorem dL_completeAfter_13 : decode cL_completeAfter 13 = .ok (.ireturn, 1) := by decide +kernel
theorem dL_completeAfter_14 : decode cL_completeAfter 14 = .ok (.iconst 0, 1) := by decide +kernel
theorem dL_completeAfter_15 : decode cL_completeAfter 15 = .ok (.ireturn, 1) := by decide +kernel
theorem dL_leastTarget_0 : decode cL_leastTarget 0 = .ok (.aload_n 2, 1) := by decide +kernel
theorem dL_leastTarget_1 : decode cL_leastTarget 1 = .ok (.iconst 0, 1) := by decide +kernel
theorem dL_leastTarget_2 : decode cL_leastTarget 2 = .ok (.aload_n 0, 1) := by decide +kernel
theorem dL_leastTarget_3 : decode cL_leastTarget 3 = .ok (.iload_n 1, 1) := by decide +kernel
theorem dL_leastTarget_4 : decode cL_leastTarget 4 = .ok (.invokevirtual 71, 3) := by decide +kernel
theorem dL_leastTarget_7 : decode cL_leastTarget 7 = .ok (.i2l, 1) := by decide +kernel
theorem dL_leastTarget_8 : decode cL_leastTarget 8 = .ok (.lastore, 1) := by decide +kernel
theorem dL_leastTarget_9 : decode cL_leastTarget 9 = .ok (.goto 9, 3) := by decide +kernel
theorem dL_leastTarget_12 : decode cL_leastTarget 12 = .ok (.astore_n 3, 1) := by decide +kernel
theorem dL_leastTarget_13 : decode cL_leastTarget 13 = .ok (.iconst 1, 1) := by decide +kernel
theorem dL_leastTarget_14 : decode cL_leastTarget 14 = .ok (.ireturn, 1) := by decide +kernel
theorem dL_leastTarget_15 : decode cL_leastTarget 15 = .ok (.astore_n 3, 1) := by decide +kernel
theorem dL_leastTarget_16 : decode cL_leastTarget 16 = .ok (.iconst 2, 1) := by decide +kernel
theorem dL_leastTarget_17 : decode cL_leastTarget 17 = .ok (.ireturn, 1) := by decide +kernel
theorem dL_leastTarget_18 : decode cL_leastTarget 18 = .ok (.iconst 0, 1) := by decide +kernel
theorem dL_leastTarget_19 : decode cL_leastTarget 19 = .ok (.ireturn, 1) := by decide +kernel
theorem dL_append_0 : decode cL_append 0 = .ok (.aload_n 2, 1) := by decide +kernel
theorem dL_append_1 : decode cL_append 1 = .ok (.iconst 0, 1) := by decide +kernel
theorem dL_append_2 : decode cL_append 2 = .ok (.aload_n 0, 1) := by decide +kernel
theorem dL_append_3 : decode cL_append 3 = .ok (.iload_n 1, 1) := by decide +kernel
theorem dL_append_4 : decode cL_append 4 = .ok (.invokevirtual 74, 3) := by decide +kernel
theorem dL_append_7 : decode cL_append 7 = .ok (.i2l, 1) := by decide +kernel
theorem dL_append_8 : decode cL_append 8 = .ok (.lastore, 1) := by decide +kernel
theorem dL_append_9 : decode cL_append 9 = .ok (.goto 9, 3) := by decide +kernel
theorem dL_append_12 : decode cL_append 12 = .ok (.astore_n 3, 1) := by decide +kernel
theorem dL_append_13 : decode cL_append 13 = .ok (.iconst 1, 1) := by decide +kernel
theorem dL_append_14 : decode cL_append 14 = .ok (.ireturn, 1) := by decide +kernel
theorem dL_append_15 : decode cL_append 15 = .ok (.astore_n 3, 1) := by decide +kernel
theorem dL_append_16 : decode cL_append 16 = .ok (.iconst 2, 1) := by decide +kernel
theorem dL_append_17 : decode cL_append 17 = .ok (.ireturn, 1) := by decide +kernel
theorem dL_append_18 : decode cL_append 18 = .ok (.iconst 0, 1) := by decide +kernel
theorem dL_append_19 : decode cL_append 19 = .ok (.ireturn, 1) := by decide +kernel
theorem dL_undo_0 : decode cL_undo 0 = .ok (.aload_n 1, 1) := by decide +kernel
theorem dL_undo_1 : decode cL_undo 1 = .ok (.iconst 0, 1) := by decide +kernel
theorem dL_undo_2 : decode cL_undo 2 = .ok (.aload_n 0, 1) := by decide +kernel
theorem dL_undo_3 : decode cL_undo 3 = .ok (.invokevirtual 77, 3) := by decide +kernel
theorem dL_undo_6 : decode cL_undo 6 = .ok (.i2l, 1) := by decide +kernel
theorem dL_undo_7 : decode cL_undo 7 = .ok (.lastore, 1) := by decide +kernel
theorem dL_undo_8 : decode cL_undo 8 = .ok (.goto 6, 3) := by decide +kernel
theorem dL_undo_11 : decode cL_undo 11 = .ok (.astore_n 2, 1) := by decide +kernel
theorem dL_undo_12 : decode cL_undo 12 = .ok (.iconst 1, 1) := by decide +kernel
theorem dL_undo_13 : decode cL_undo 13 = .ok (.ireturn, 1) := by decide +kernel
theorem dL_undo_14 : decode cL_undo 14 = .ok (.iconst 0, 1) := by decide +kernel
theorem dL_undo_15 : decode cL_undo 15 = .ok (.ireturn, 1) := by decide +kernel
theorem dL_law_0 : decode cL_law 0 = .ok (.new 8, 3) := by decide +kernel
theorem dL_law_3 : decode cL_law 3 = .ok (.dup, 1) := by decide +kernel
theorem dL_law_4 : decode cL_law 4 = .ok (.invokespecial 80, 3) := by decide +kernel
theorem dL_law_7 : decode cL_law 7 = .ok (.astore_n 1, 1) := by decide +kernel
theorem dL_law_8 : decode cL_law 8 = .ok (.new 81, 3) := by decide +kernel
theorem dL_law_11 : decode cL_law 11 = .ok (.dup, 1) := by decide +kernel
theorem dL_law_12 : decode cL_law 12 = .ok (.invokespecial 83, 3) := by decide +kernel
theorem dL_law_15 : decode cL_law 15 = .ok (.astore_n 2, 1) := by decide +kernel
theorem dL_law_16 : decode cL_law 16 = .ok (.iconst 1, 1) := by decide +kernel
theorem dL_law_17 : decode cL_law 17 = .ok (.newarray .long, 2) := by decide +kernel
theorem dL_law_19 : decode cL_law 19 = .ok (.astore_n 3, 1) := by decide +kernel
theorem dL_law_20 : decode cL_law 20 = .ok (.iconst 0, 1) := by decide +kernel
theorem dL_law_21 : decode cL_law 21 = .ok (.istore 4, 2) := by decide +kernel
theorem dL_law_23 : decode cL_law 23 = .ok (.iload 4, 2) := by decide +kernel
theorem dL_law_25 : decode cL_law 25 = .ok (.aload_n 0, 1) := by decide +kernel
theorem dL_law_26 : decode cL_law 26 = .ok (.arraylength, 1) := by decide +kernel
theorem dL_law_27 : decode cL_law 27 = .ok (.iconst 4, 1) := by decide +kernel
theorem dL_law_28 : decode cL_law 28 = .ok (.isub, 1) := by decide +kernel
theorem dL_law_29 : decode cL_law 29 = .ok (.if_icmp .gt 1516, 3) := by decide +kernel
theorem dL_law_32 : decode cL_law 32 = .ok (.aload_n 0, 1) := by decide +kernel
theorem dL_law_33 : decode cL_law 33 = .ok (.iload 4, 2) := by decide +kernel
theorem dL_law_35 : decode cL_law 35 = .ok (.iaload, 1) := by decide +kernel
theorem dL_law_36 : decode cL_law 36 = .ok (.bipush 31, 2) := by decide +kernel
theorem dL_law_38 : decode cL_law 38 = .ok (.iand, 1) := by decide +kernel
theorem dL_law_39 : decode cL_law 39 = .ok (.tableswitch 1500 0 26 #[121, 177, 268, 348, 428, 496, 552, 565, 621, 689, 745, 813, 881, 937, 1000, 1013, 1081, 1094, 1163, 1204, 1260, 1304, 1360, 1416, 1429, 1442, 1486], 121) := by decide +kernel
theorem dL_law_160 : decode cL_law 160 = .ok (.aload_n 1, 1) := by decide +kernel
theorem dL_law_161 : decode cL_law 161 = .ok (.aload_n 0, 1) := by decide +kernel
theorem dL_law_162 : decode cL_law 162 = .ok (.iload 4, 2) := by decide +kernel
theorem dL_law_164 : decode cL_law 164 = .ok (.iconst 1, 1) := by decide +kernel
theorem dL_law_165 : decode cL_law 165 = .ok (.iadd, 1) := by decide +kernel
theorem dL_law_166 : decode cL_law 166 = .ok (.iaload, 1) := by decide +kernel
theorem dL_law_167 : decode cL_law 167 = .ok (.aload_n 3, 1) := by decide +kernel
theorem dL_law_168 : decode cL_law 168 = .ok (.invokestatic 84, 3) := by decide +kernel
theorem dL_law_171 : decode cL_law 171 = .ok (.istore 5, 2) := by decide +kernel
theorem dL_law_173 : decode cL_law 173 = .ok (.aload_n 2, 1) := by decide +kernel
theorem dL_law_174 : decode cL_law 174 = .ok (.aload_n 0, 1) := by decide +kernel
theorem dL_law_175 : decode cL_law 175 = .ok (.iload 4, 2) := by decide +kernel
theorem dL_law_177 : decode cL_law 177 = .ok (.iconst 1, 1) := by decide +kernel
theorem dL_law_178 : decode cL_law 178 = .ok (.iadd, 1) := by decide +kernel
theorem dL_law_179 : decode cL_law 179 = .ok (.iaload, 1) := by decide +kernel
theorem dL_law_180 : decode cL_law 180 = .ok (.invokevirtual 89, 3) := by decide +kernel
theorem dL_law_183 : decode cL_law 183 = .ok (.istore 6, 2) := by decide +kernel
theorem dL_law_185 : decode cL_law 185 = .ok (.aload_n 2, 1) := by decide +kernel
theorem dL_law_186 : decode cL_law 186 = .ok (.invokevirtual 90, 3) := by decide +kernel
theorem dL_law_189 : decode cL_law 189 = .ok (.iload 5, 2) := by decide +kernel
theorem dL_law_191 : decode cL_law 191 = .ok (.if_icmp .eq 5, 3) := by decide +kernel
theorem dL_law_194 : decode cL_law 194 = .ok (.iconst 0, 1) := by decide +kernel
theorem dL_law_195 : decode cL_law 195 = .ok (.ireturn, 1) := by decide +kernel
theorem dL_law_196 : decode cL_law 196 = .ok (.iload 5, 2) := by decide +kernel
theorem dL_law_198 : decode cL_law 198 = .ok (.ifCond .ne 15, 3) := by decide +kernel
theorem dL_law_201 : decode cL_law 201 = .ok (.aload_n 3, 1) := by decide +kernel
theorem dL_law_202 : decode cL_law 202 = .ok (.iconst 0, 1) := by decide +kernel
theorem dL_law_203 : decode cL_law 203 = .ok (.laload, 1) := by decide +kernel
theorem dL_law_204 : decode cL_law 204 = .ok (.iload 6, 2) := by decide +kernel
theorem dL_law_206 : decode cL_law 206 = .ok (.i2l, 1) := by decide +kernel
theorem dL_law_207 : decode cL_law 207 = .ok (.lcmp, 1) := by decide +kernel
theorem dL_law_208 : decode cL_law 208 = .ok (.ifCond .eq 5, 3) := by decide +kernel
theorem dL_law_211 : decode cL_law 211 = .ok (.iconst 0, 1) := by decide +kernel
theorem dL_law_212 : decode cL_law 212 = .ok (.ireturn, 1) := by decide +kernel
theorem dL_law_213 : decode cL_law 213 = .ok (.goto 1326, 3) := by decide +kernel
theorem dL_law_216 : decode cL_law 216 = .ok (.aload_n 1, 1) := by decide +kernel
theorem dL_law_217 : decode cL_law 217 = .ok (.aload_n 0, 1) := by decide +kernel
theorem dL_law_218 : decode cL_law 218 = .ok (.iload 4, 2) := by decide +kernel
theorem dL_law_220 : decode cL_law 220 = .ok (.iconst 1, 1) := by decide +kernel
theorem dL_law_221 : decode cL_law 221 = .ok (.iadd, 1) := by decide +kernel
theorem dL_law_222 : decode cL_law 222 = .ok (.iaload, 1) := by decide +kernel
theorem dL_law_223 : decode cL_law 223 = .ok (.aload_n 0, 1) := by decide +kernel
theorem dL_law_224 : decode cL_law 224 = .ok (.iload 4, 2) := by decide +kernel
theorem dL_law_226 : decode cL_law 226 = .ok (.iconst 2, 1) := by decide +kernel
theorem dL_law_227 : decode cL_law 227 = .ok (.iadd, 1) := by decide +kernel
theorem dL_law_228 : decode cL_law 228 = .ok (.iaload, 1) := by decide +kernel
theorem dL_law_229 : decode cL_law 229 = .ok (.ifCond .eq 7, 3) := by decide +kernel
theorem dL_law_232 : decode cL_law 232 = .ok (.iconst 1, 1) := by decide +kernel
theorem dL_law_233 : decode cL_law 233 = .ok (.goto 4, 3) := by decide +kernel
theorem dL_law_236 : decode cL_law 236 = .ok (.iconst 0, 1) := by decide +kernel
theorem dL_law_237 : decode cL_law 237 = .ok (.aload_n 3, 1) := by decide +kernel
theorem dL_law_238 : decode cL_law 238 = .ok (.invokestatic 93, 3) := by decide +kernel
theorem dL_law_241 : decode cL_law 241 = .ok (.istore 5, 2) := by decide +kernel
theorem dL_law_243 : decode cL_law 243 = .ok (.aload_n 2, 1) := by decide +kernel
theorem dL_law_244 : decode cL_law 244 = .ok (.aload_n 0, 1) := by decide +kernel
theorem dL_law_245 : decode cL_law 245 = .ok (.iload 4, 2) := by decide +kernel
theorem dL_law_247 : decode cL_law 247 = .ok (.iconst 1, 1) := by decide +kernel
theorem dL_law_248 : decode cL_law 248 = .ok (.iadd, 1) := by decide +kernel
theorem dL_law_249 : decode cL_law 249 = .ok (.iaload, 1) := by decide +kernel
theorem dL_law_250 : decode cL_law 250 = .ok (.aload_n 0, 1) := by decide +kernel
theorem dL_law_251 : decode cL_law 251 = .ok (.iload 4, 2) := by decide +kernel
theorem dL_law_253 : decode cL_law 253 = .ok (.iconst 2, 1) := by decide +kernel
theorem dL_law_254 : decode cL_law 254 = .ok (.iadd, 1) := by decide +kernel
theorem dL_law_255 : decode cL_law 255 = .ok (.iaload, 1) := by decide +kernel
theorem dL_law_256 : decode cL_law 256 = .ok (.ifCond .eq 7, 3) := by decide +kernel
theorem dL_law_259 : decode cL_law 259 = .ok (.iconst 1, 1) := by decide +kernel
theorem dL_law_260 : decode cL_law 260 = .ok (.goto 4, 3) := by decide +kernel
theorem dL_law_263 : decode cL_law 263 = .ok (.iconst 0, 1) := by decide +kernel
theorem dL_law_264 : decode cL_law 264 = .ok (.invokevirtual 96, 3) := by decide +kernel
theorem dL_law_267 : decode cL_law 267 = .ok (.istore 6, 2) := by decide +kernel
theorem dL_law_269 : decode cL_law 269 = .ok (.aload_n 2, 1) := by decide +kernel
theorem dL_law_270 : decode cL_law 270 = .ok (.invokevirtual 90, 3) := by decide +kernel
theorem dL_law_273 : decode cL_law 273 = .ok (.iload 5, 2) := by decide +kernel
theorem dL_law_275 : decode cL_law 275 = .ok (.if_icmp .eq 5, 3) := by decide +kernel
theorem dL_law_278 : decode cL_law 278 = .ok (.iconst 0, 1) := by decide +kernel
theorem dL_law_279 : decode cL_law 279 = .ok (.ireturn, 1) := by decide +kernel
theorem dL_law_280 : decode cL_law 280 = .ok (.iload 5, 2) := by decide +kernel
theorem dL_law_282 : decode cL_law 282 = .ok (.ifCond .ne 22, 3) := by decide +kernel
theorem dL_law_285 : decode cL_law 285 = .ok (.aload_n 3, 1) := by decide +kernel
theorem dL_law_286 : decode cL_law 286 = .ok (.iconst 0, 1) := by decide +kernel
theorem dL_law_287 : decode cL_law 287 = .ok (.laload, 1) := by decide +kernel
theorem dL_law_288 : decode cL_law 288 = .ok (.iload 6, 2) := by decide +kernel
theorem dL_law_290 : decode cL_law 290 = .ok (.ifCond .eq 7, 3) := by decide +kernel
theorem dL_law_293 : decode cL_law 293 = .ok (.lconst 1, 1) := by decide +kernel
theorem dL_law_294 : decode cL_law 294 = .ok (.goto 4, 3) := by decide +kernel
theorem dL_law_297 : decode cL_law 297 = .ok (.lconst 0, 1) := by decide +kernel
theorem dL_law_298 : decode cL_law 298 = .ok (.lcmp, 1) := by decide +kernel
theorem dL_law_299 : decode cL_law 299 = .ok (.ifCond .eq 5, 3) := by decide +kernel
theorem dL_law_302 : decode cL_law 302 = .ok (.iconst 0, 1) := by decide +kernel
theorem dL_law_303 : decode cL_law 303 = .ok (.ireturn, 1) := by decide +kernel
theorem dL_law_304 : decode cL_law 304 = .ok (.goto 1235, 3) := by decide +kernel
theorem dL_law_307 : decode cL_law 307 = .ok (.aload_n 1, 1) := by decide +kernel
theorem dL_law_308 : decode cL_law 308 = .ok (.aload_n 0, 1) := by decide +kernel
theorem dL_law_309 : decode cL_law 309 = .ok (.iload 4, 2) := by decide +kernel
theorem dL_law_311 : decode cL_law 311 = .ok (.iconst 1, 1) := by decide +kernel
theorem dL_law_312 : decode cL_law 312 = .ok (.iadd, 1) := by decide +kernel
theorem dL_law_313 : decode cL_law 313 = .ok (.iaload, 1) := by decide +kernel
theorem dL_law_314 : decode cL_law 314 = .ok (.aload_n 0, 1) := by decide +kernel
theorem dL_law_315 : decode cL_law 315 = .ok (.iload 4, 2) := by decide +kernel
theorem dL_law_317 : decode cL_law 317 = .ok (.iconst 2, 1) := by decide +kernel
theorem dL_law_318 : decode cL_law 318 = .ok (.iadd, 1) := by decide +kernel
theorem dL_law_319 : decode cL_law 319 = .ok (.iaload, 1) := by decide +kernel
theorem dL_law_320 : decode cL_law 320 = .ok (.aload_n 0, 1) := by decide +kernel
theorem dL_law_321 : decode cL_law 321 = .ok (.iload 4, 2) := by decide +kernel
theorem dL_law_323 : decode cL_law 323 = .ok (.iconst 3, 1) := by decide +kernel
theorem dL_law_324 : decode cL_law 324 = .ok (.iadd, 1) := by decide +kernel
theorem dL_law_325 : decode cL_law 325 = .ok (.iaload, 1) := by decide +kernel
theorem dL_law_326 : decode cL_law 326 = .ok (.aload_n 3, 1) := by decide +kernel
theorem dL_law_327 : decode cL_law 327 = .ok (.invokestatic 97, 3) := by decide +kernel
theorem dL_law_330 : decode cL_law 330 = .ok (.istore 5, 2) := by decide +kernel
theorem dL_law_332 : decode cL_law 332 = .ok (.aload_n 2, 1) := by decide +kernel
theorem dL_law_333 : decode cL_law 333 = .ok (.aload_n 0, 1) := by decide +kernel
theorem dL_law_334 : decode cL_law 334 = .ok (.iload 4, 2) := by decide +kernel
theorem dL_law_336 : decode cL_law 336 = .ok (.iconst 1, 1) := by decide +kernel
theorem dL_law_337 : decode cL_law 337 = .ok (.iadd, 1) := by decide +kernel
theorem dL_law_338 : decode cL_law 338 = .ok (.iaload, 1) := by decide +kernel
theorem dL_law_339 : decode cL_law 339 = .ok (.aload_n 0, 1) := by decide +kernel
theorem dL_law_340 : decode cL_law 340 = .ok (.iload 4, 2) := by decide +kernel
theorem dL_law_342 : decode cL_law 342 = .ok (.iconst 2, 1) := by decide +kernel
theorem dL_law_343 : decode cL_law 343 = .ok (.iadd, 1) := by decide +kernel
theorem dL_law_344 : decode cL_law 344 = .ok (.iaload, 1) := by decide +kernel
theorem dL_law_345 : decode cL_law 345 = .ok (.aload_n 0, 1) := by decide +kernel
theorem dL_law_346 : decode cL_law 346 = .ok (.iload 4, 2) := by decide +kernel
theorem dL_law_348 : decode cL_law 348 = .ok (.iconst 3, 1) := by decide +kernel
theorem dL_law_349 : decode cL_law 349 = .ok (.iadd, 1) := by decide +kernel
theorem dL_law_350 : decode cL_law 350 = .ok (.iaload, 1) := by decide +kernel
theorem dL_law_351 : decode cL_law 351 = .ok (.invokevirtual 100, 3) := by decide +kernel
theorem dL_law_354 : decode cL_law 354 = .ok (.istore 6, 2) := by decide +kernel
theorem dL_law_356 : decode cL_law 356 = .ok (.aload_n 2, 1) := by decide +kernel
theorem dL_law_357 : decode cL_law 357 = .ok (.invokevirtual 90, 3) := by decide +kernel
theorem dL_law_360 : decode cL_law 360 = .ok (.iload 5, 2) := by decide +kernel
theorem dL_law_362 : decode cL_law 362 = .ok (.if_icmp .eq 5, 3) := by decide +kernel
theorem dL_law_365 : decode cL_law 365 = .ok (.iconst 0, 1) := by decide +kernel
theorem dL_law_366 : decode cL_law 366 = .ok (.ireturn, 1) := by decide +kernel
theorem dL_law_367 : decode cL_law 367 = .ok (.iload 5, 2) := by decide +kernel
theorem dL_law_369 : decode cL_law 369 = .ok (.ifCond .ne 15, 3) := by decide +kernel
theorem dL_law_372 : decode cL_law 372 = .ok (.aload_n 3, 1) := by decide +kernel
theorem dL_law_373 : decode cL_law 373 = .ok (.iconst 0, 1) := by decide +kernel
theorem dL_law_374 : decode cL_law 374 = .ok (.laload, 1) := by decide +kernel
theorem dL_law_375 : decode cL_law 375 = .ok (.iload 6, 2) := by decide +kernel
theorem dL_law_377 : decode cL_law 377 = .ok (.i2l, 1) := by decide +kernel
theorem dL_law_378 : decode cL_law 378 = .ok (.lcmp, 1) := by decide +kernel
theorem dL_law_379 : decode cL_law 379 = .ok (.ifCond .eq 5, 3) := by decide +kernel
theorem dL_law_382 : decode cL_law 382 = .ok (.iconst 0, 1) := by decide +kernel
theorem dL_law_383 : decode cL_law 383 = .ok (.ireturn, 1) := by decide +kernel
theorem dL_law_384 : decode cL_law 384 = .ok (.goto 1155, 3) := by decide +kernel
theorem dL_law_387 : decode cL_law 387 = .ok (.aload_n 1, 1) := by decide +kernel
theorem dL_law_388 : decode cL_law 388 = .ok (.aload_n 0, 1) := by decide +kernel
theorem dL_law_389 : decode cL_law 389 = .ok (.iload 4, 2) := by decide +kernel
theorem dL_law_391 : decode cL_law 391 = .ok (.iconst 1, 1) := by decide +kernel
theorem dL_law_392 : decode cL_law 392 = .ok (.iadd, 1) := by decide +kernel
theorem dL_law_393 : decode cL_law 393 = .ok (.iaload, 1) := by decide +kernel
theorem dL_law_394 : decode cL_law 394 = .ok (.aload_n 0, 1) := by decide +kernel
theorem dL_law_395 : decode cL_law 395 = .ok (.iload 4, 2) := by decide +kernel
theorem dL_law_397 : decode cL_law 397 = .ok (.iconst 2, 1) := by decide +kernel
theorem dL_law_398 : decode cL_law 398 = .ok (.iadd, 1) := by decide +kernel
theorem dL_law_399 : decode cL_law 399 = .ok (.iaload, 1) := by decide +kernel
theorem dL_law_400 : decode cL_law 400 = .ok (.aload_n 0, 1) := by decide +kernel
theorem dL_law_401 : decode cL_law 401 = .ok (.iload 4, 2) := by decide +kernel
theorem dL_law_403 : decode cL_law 403 = .ok (.iconst 3, 1) := by decide +kernel
theorem dL_law_404 : decode cL_law 404 = .ok (.iadd, 1) := by decide +kernel
theorem dL_law_405 : decode cL_law 405 = .ok (.iaload, 1) := by decide +kernel
theorem dL_law_406 : decode cL_law 406 = .ok (.aload_n 3, 1) := by decide +kernel
theorem dL_law_407 : decode cL_law 407 = .ok (.invokestatic 101, 3) := by decide +kernel
theorem dL_law_410 : decode cL_law 410 = .ok (.istore 5, 2) := by decide +kernel
theorem dL_law_412 : decode cL_law 412 = .ok (.aload_n 2, 1) := by decide +kernel
theorem dL_law_413 : decode cL_law 413 = .ok (.aload_n 0, 1) := by decide +kernel
theorem dL_law_414 : decode cL_law 414 = .ok (.iload 4, 2) := by decide +kernel
theorem dL_law_416 : decode cL_law 416 = .ok (.iconst 1, 1) := by decide +kernel
theorem dL_law_417 : decode cL_law 417 = .ok (.iadd, 1) := by decide +kernel
theorem dL_law_418 : decode cL_law 418 = .ok (.iaload, 1) := by decide +kernel
theorem dL_law_419 : decode cL_law 419 = .ok (.aload_n 0, 1) := by decide +kernel
theorem dL_law_420 : decode cL_law 420 = .ok (.iload 4, 2) := by decide +kernel
theorem dL_law_422 : decode cL_law 422 = .ok (.iconst 2, 1) := by decide +kernel
theorem dL_law_423 : decode cL_law 423 = .ok (.iadd, 1) := by decide +kernel
theorem dL_law_424 : decode cL_law 424 = .ok (.iaload, 1) := by decide +kernel
theorem dL_law_425 : decode cL_law 425 = .ok (.aload_n 0, 1) := by decide +kernel
theorem dL_law_426 : decode cL_law 426 = .ok (.iload 4, 2) := by decide +kernel
theorem dL_law_428 : decode cL_law 428 = .ok (.iconst 3, 1) := by decide +kernel
theorem dL_law_429 : decode cL_law 429 = .ok (.iadd, 1) := by decide +kernel
theorem dL_law_430 : decode cL_law 430 = .ok (.iaload, 1) := by decide +kernel
theorem dL_law_431 : decode cL_law 431 = .ok (.invokevirtual 103, 3) := by decide +kernel
theorem dL_law_434 : decode cL_law 434 = .ok (.istore 6, 2) := by decide +kernel
theorem dL_law_436 : decode cL_law 436 = .ok (.aload_n 2, 1) := by decide +kernel
theorem dL_law_437 : decode cL_law 437 = .ok (.invokevirtual 90, 3) := by decide +kernel
theorem dL_law_440 : decode cL_law 440 = .ok (.iload 5, 2) := by decide +kernel
theorem dL_law_442 : decode cL_law 442 = .ok (.if_icmp .eq 5, 3) := by decide +kernel
theorem dL_law_445 : decode cL_law 445 = .ok (.iconst 0, 1) := by decide +kernel
theorem dL_law_446 : decode cL_law 446 = .ok (.ireturn, 1) := by decide +kernel
theorem dL_law_447 : decode cL_law 447 = .ok (.iload 5, 2) := by decide +kernel
theorem dL_law_449 : decode cL_law 449 = .ok (.ifCond .ne 15, 3) := by decide +kernel
theorem dL_law_452 : decode cL_law 452 = .ok (.aload_n 3, 1) := by decide +kernel
theorem dL_law_453 : decode cL_law 453 = .ok (.iconst 0, 1) := by decide +kernel
theorem dL_law_454 : decode cL_law 454 = .ok (.laload, 1) := by decide +kernel
theorem dL_law_455 : decode cL_law 455 = .ok (.iload 6, 2) := by decide +kernel
theorem dL_law_457 : decode cL_law 457 = .ok (.i2l, 1) := by decide +kernel
theorem dL_law_458 : decode cL_law 458 = .ok (.lcmp, 1) := by decide +kernel
theorem dL_law_459 : decode cL_law 459 = .ok (.ifCond .eq 5, 3) := by decide +kernel
theorem dL_law_462 : decode cL_law 462 = .ok (.iconst 0, 1) := by decide +kernel
theorem dL_law_463 : decode cL_law 463 = .ok (.ireturn, 1) := by decide +kernel
theorem dL_law_464 : decode cL_law 464 = .ok (.goto 1075, 3) := by decide +kernel
theorem dL_law_467 : decode cL_law 467 = .ok (.aload_n 1, 1) := by decide +kernel
theorem dL_law_468 : decode cL_law 468 = .ok (.aload_n 0, 1) := by decide +kernel
theorem dL_law_469 : decode cL_law 469 = .ok (.iload 4, 2) := by decide +kernel
theorem dL_law_471 : decode cL_law 471 = .ok (.iconst 1, 1) := by decide +kernel
theorem dL_law_472 : decode cL_law 472 = .ok (.iadd, 1) := by decide +kernel
theorem dL_law_473 : decode cL_law 473 = .ok (.iaload, 1) := by decide +kernel
theorem dL_law_474 : decode cL_law 474 = .ok (.aload_n 0, 1) := by decide +kernel
theorem dL_law_475 : decode cL_law 475 = .ok (.iload 4, 2) := by decide +kernel
theorem dL_law_477 : decode cL_law 477 = .ok (.iconst 2, 1) := by decide +kernel
theorem dL_law_478 : decode cL_law 478 = .ok (.iadd, 1) := by decide +kernel
theorem dL_law_479 : decode cL_law 479 = .ok (.iaload, 1) := by decide +kernel
theorem dL_law_480 : decode cL_law 480 = .ok (.aload_n 3, 1) := by decide +kernel
theorem dL_law_481 : decode cL_law 481 = .ok (.invokestatic 104, 3) := by decide +kernel
theorem dL_law_484 : decode cL_law 484 = .ok (.istore 5, 2) := by decide +kernel
theorem dL_law_486 : decode cL_law 486 = .ok (.aload_n 2, 1) := by decide +kernel
theorem dL_law_487 : decode cL_law 487 = .ok (.aload_n 0, 1) := by decide +kernel
theorem dL_law_488 : decode cL_law 488 = .ok (.iload 4, 2) := by decide +kernel
theorem dL_law_490 : decode cL_law 490 = .ok (.iconst 1, 1) := by decide +kernel
theorem dL_law_491 : decode cL_law 491 = .ok (.iadd, 1) := by decide +kernel
theorem dL_law_492 : decode cL_law 492 = .ok (.iaload, 1) := by decide +kernel
theorem dL_law_493 : decode cL_law 493 = .ok (.aload_n 0, 1) := by decide +kernel
theorem dL_law_494 : decode cL_law 494 = .ok (.iload 4, 2) := by decide +kernel
theorem dL_law_496 : decode cL_law 496 = .ok (.iconst 2, 1) := by decide +kernel
theorem dL_law_497 : decode cL_law 497 = .ok (.iadd, 1) := by decide +kernel
theorem dL_law_498 : decode cL_law 498 = .ok (.iaload, 1) := by decide +kernel
theorem dL_law_499 : decode cL_law 499 = .ok (.invokevirtual 107, 3) := by decide +kernel
theorem dL_law_502 : decode cL_law 502 = .ok (.istore 6, 2) := by decide +kernel
theorem dL_law_504 : decode cL_law 504 = .ok (.aload_n 2, 1) := by decide +kernel
theorem dL_law_505 : decode cL_law 505 = .ok (.invokevirtual 90, 3) := by decide +kernel
theorem dL_law_508 : decode cL_law 508 = .ok (.iload 5, 2) := by decide +kernel
theorem dL_law_510 : decode cL_law 510 = .ok (.if_icmp .eq 5, 3) := by decide +kernel
theorem dL_law_513 : decode cL_law 513 = .ok (.iconst 0, 1) := by decide +kernel
theorem dL_law_514 : decode cL_law 514 = .ok (.ireturn, 1) := by decide +kernel
theorem dL_law_515 : decode cL_law 515 = .ok (.iload 5, 2) := by decide +kernel
theorem dL_law_517 : decode cL_law 517 = .ok (.ifCond .ne 15, 3) := by decide +kernel
theorem dL_law_520 : decode cL_law 520 = .ok (.aload_n 3, 1) := by decide +kernel
theorem dL_law_521 : decode cL_law 521 = .ok (.iconst 0, 1) := by decide +kernel
theorem dL_law_522 : decode cL_law 522 = .ok (.laload, 1) := by decide +kernel
theorem dL_law_523 : decode cL_law 523 = .ok (.iload 6, 2) := by decide +kernel
theorem dL_law_525 : decode cL_law 525 = .ok (.i2l, 1) := by decide +kernel
theorem dL_law_526 : decode cL_law 526 = .ok (.lcmp, 1) := by decide +kernel
theorem dL_law_527 : decode cL_law 527 = .ok (.ifCond .eq 5, 3) := by decide +kernel
theorem dL_law_530 : decode cL_law 530 = .ok (.iconst 0, 1) := by decide +kernel
theorem dL_law_531 : decode cL_law 531 = .ok (.ireturn, 1) := by decide +kernel
theorem dL_law_532 : decode cL_law 532 = .ok (.goto 1007, 3) := by decide +kernel
theorem dL_law_535 : decode cL_law 535 = .ok (.aload_n 1, 1) := by decide +kernel
theorem dL_law_536 : decode cL_law 536 = .ok (.aload_n 0, 1) := by decide +kernel
theorem dL_law_537 : decode cL_law 537 = .ok (.iload 4, 2) := by decide +kernel
theorem dL_law_539 : decode cL_law 539 = .ok (.iconst 1, 1) := by decide +kernel
theorem dL_law_540 : decode cL_law 540 = .ok (.iadd, 1) := by decide +kernel
theorem dL_law_541 : decode cL_law 541 = .ok (.iaload, 1) := by decide +kernel
theorem dL_law_542 : decode cL_law 542 = .ok (.aload_n 3, 1) := by decide +kernel
theorem dL_law_543 : decode cL_law 543 = .ok (.invokestatic 108, 3) := by decide +kernel
theorem dL_law_546 : decode cL_law 546 = .ok (.istore 5, 2) := by decide +kernel
theorem dL_law_548 : decode cL_law 548 = .ok (.aload_n 2, 1) := by decide +kernel
theorem dL_law_549 : decode cL_law 549 = .ok (.aload_n 0, 1) := by decide +kernel
theorem dL_law_550 : decode cL_law 550 = .ok (.iload 4, 2) := by decide +kernel
theorem dL_law_552 : decode cL_law 552 = .ok (.iconst 1, 1) := by decide +kernel
theorem dL_law_553 : decode cL_law 553 = .ok (.iadd, 1) := by decide +kernel
theorem dL_law_554 : decode cL_law 554 = .ok (.iaload, 1) := by decide +kernel
theorem dL_law_555 : decode cL_law 555 = .ok (.invokevirtual 110, 3) := by decide +kernel
theorem dL_law_558 : decode cL_law 558 = .ok (.istore 6, 2) := by decide +kernel
theorem dL_law_560 : decode cL_law 560 = .ok (.aload_n 2, 1) := by decide +kernel
theorem dL_law_561 : decode cL_law 561 = .ok (.invokevirtual 90, 3) := by decide +kernel
theorem dL_law_564 : decode cL_law 564 = .ok (.iload 5, 2) := by decide +kernel
theorem dL_law_566 : decode cL_law 566 = .ok (.if_icmp .eq 5, 3) := by decide +kernel
theorem dL_law_569 : decode cL_law 569 = .ok (.iconst 0, 1) := by decide +kernel
theorem dL_law_570 : decode cL_law 570 = .ok (.ireturn, 1) := by decide +kernel
theorem dL_law_571 : decode cL_law 571 = .ok (.iload 5, 2) := by decide +kernel
theorem dL_law_573 : decode cL_law 573 = .ok (.ifCond .ne 15, 3) := by decide +kernel
theorem dL_law_576 : decode cL_law 576 = .ok (.aload_n 3, 1) := by decide +kernel
theorem dL_law_577 : decode cL_law 577 = .ok (.iconst 0, 1) := by decide +kernel
theorem dL_law_578 : decode cL_law 578 = .ok (.laload, 1) := by decide +kernel
theorem dL_law_579 : decode cL_law 579 = .ok (.iload 6, 2) := by decide +kernel
theorem dL_law_581 : decode cL_law 581 = .ok (.i2l, 1) := by decide +kernel
theorem dL_law_582 : decode cL_law 582 = .ok (.lcmp, 1) := by decide +kernel
theorem dL_law_583 : decode cL_law 583 = .ok (.ifCond .eq 5, 3) := by decide +kernel
theorem dL_law_586 : decode cL_law 586 = .ok (.iconst 0, 1) := by decide +kernel
theorem dL_law_587 : decode cL_law 587 = .ok (.ireturn, 1) := by decide +kernel
theorem dL_law_588 : decode cL_law 588 = .ok (.goto 951, 3) := by decide +kernel
theorem dL_law_591 : decode cL_law 591 = .ok (.aload_n 1, 1) := by decide +kernel
theorem dL_law_592 : decode cL_law 592 = .ok (.invokevirtual 111, 3) := by decide +kernel
theorem dL_law_595 : decode cL_law 595 = .ok (.aload_n 2, 1) := by decide +kernel
theorem dL_law_596 : decode cL_law 596 = .ok (.invokevirtual 114, 3) := by decide +kernel
theorem dL_law_599 : decode cL_law 599 = .ok (.if_icmp .eq 940, 3) := by decide +kernel
theorem dL_law_602 : decode cL_law 602 = .ok (.iconst 0, 1) := by decide +kernel
theorem dL_law_603 : decode cL_law 603 = .ok (.ireturn, 1) := by decide +kernel
theorem dL_law_604 : decode cL_law 604 = .ok (.aload_n 1, 1) := by decide +kernel
theorem dL_law_605 : decode cL_law 605 = .ok (.aload_n 0, 1) := by decide +kernel
theorem dL_law_606 : decode cL_law 606 = .ok (.iload 4, 2) := by decide +kernel
theorem dL_law_608 : decode cL_law 608 = .ok (.iconst 1, 1) := by decide +kernel
theorem dL_law_609 : decode cL_law 609 = .ok (.iadd, 1) := by decide +kernel
theorem dL_law_610 : decode cL_law 610 = .ok (.iaload, 1) := by decide +kernel
theorem dL_law_611 : decode cL_law 611 = .ok (.aload_n 3, 1) := by decide +kernel
theorem dL_law_612 : decode cL_law 612 = .ok (.invokestatic 115, 3) := by decide +kernel
theorem dL_law_615 : decode cL_law 615 = .ok (.istore 5, 2) := by decide +kernel
theorem dL_law_617 : decode cL_law 617 = .ok (.aload_n 2, 1) := by decide +kernel
theorem dL_law_618 : decode cL_law 618 = .ok (.aload_n 0, 1) := by decide +kernel
theorem dL_law_619 : decode cL_law 619 = .ok (.iload 4, 2) := by decide +kernel
theorem dL_law_621 : decode cL_law 621 = .ok (.iconst 1, 1) := by decide +kernel
theorem dL_law_622 : decode cL_law 622 = .ok (.iadd, 1) := by decide +kernel
theorem dL_law_623 : decode cL_law 623 = .ok (.iaload, 1) := by decide +kernel
theorem dL_law_624 : decode cL_law 624 = .ok (.invokevirtual 117, 3) := by decide +kernel
theorem dL_law_627 : decode cL_law 627 = .ok (.istore 6, 2) := by decide +kernel
theorem dL_law_629 : decode cL_law 629 = .ok (.aload_n 2, 1) := by decide +kernel
theorem dL_law_630 : decode cL_law 630 = .ok (.invokevirtual 90, 3) := by decide +kernel
theorem dL_law_633 : decode cL_law 633 = .ok (.iload 5, 2) := by decide +kernel
theorem dL_law_635 : decode cL_law 635 = .ok (.if_icmp .eq 5, 3) := by decide +kernel
theorem dL_law_638 : decode cL_law 638 = .ok (.iconst 0, 1) := by decide +kernel
theorem dL_law_639 : decode cL_law 639 = .ok (.ireturn, 1) := by decide +kernel
theorem dL_law_640 : decode cL_law 640 = .ok (.iload 5, 2) := by decide +kernel
theorem dL_law_642 : decode cL_law 642 = .ok (.ifCond .ne 15, 3) := by decide +kernel
theorem dL_law_645 : decode cL_law 645 = .ok (.aload_n 3, 1) := by decide +kernel
theorem dL_law_646 : decode cL_law 646 = .ok (.iconst 0, 1) := by decide +kernel
theorem dL_law_647 : decode cL_law 647 = .ok (.laload, 1) := by decide +kernel
theorem dL_law_648 : decode cL_law 648 = .ok (.iload 6, 2) := by decide +kernel
theorem dL_law_650 : decode cL_law 650 = .ok (.i2l, 1) := by decide +kernel
theorem dL_law_651 : decode cL_law 651 = .ok (.lcmp, 1) := by decide +kernel
theorem dL_law_652 : decode cL_law 652 = .ok (.ifCond .eq 5, 3) := by decide +kernel
theorem dL_law_655 : decode cL_law 655 = .ok (.iconst 0, 1) := by decide +kernel
theorem dL_law_656 : decode cL_law 656 = .ok (.ireturn, 1) := by decide +kernel
theorem dL_law_657 : decode cL_law 657 = .ok (.goto 882, 3) := by decide +kernel
theorem dL_law_660 : decode cL_law 660 = .ok (.aload_n 1, 1) := by decide +kernel
theorem dL_law_661 : decode cL_law 661 = .ok (.aload_n 0, 1) := by decide +kernel
theorem dL_law_662 : decode cL_law 662 = .ok (.iload 4, 2) := by decide +kernel
theorem dL_law_664 : decode cL_law 664 = .ok (.iconst 1, 1) := by decide +kernel
theorem dL_law_665 : decode cL_law 665 = .ok (.iadd, 1) := by decide +kernel
theorem dL_law_666 : decode cL_law 666 = .ok (.iaload, 1) := by decide +kernel
theorem dL_law_667 : decode cL_law 667 = .ok (.aload_n 0, 1) := by decide +kernel
theorem dL_law_668 : decode cL_law 668 = .ok (.iload 4, 2) := by decide +kernel
theorem dL_law_670 : decode cL_law 670 = .ok (.iconst 2, 1) := by decide +kernel
theorem dL_law_671 : decode cL_law 671 = .ok (.iadd, 1) := by decide +kernel
theorem dL_law_672 : decode cL_law 672 = .ok (.iaload, 1) := by decide +kernel
theorem dL_law_673 : decode cL_law 673 = .ok (.aload_n 3, 1) := by decide +kernel
theorem dL_law_674 : decode cL_law 674 = .ok (.invokestatic 118, 3) := by decide +kernel
theorem dL_law_677 : decode cL_law 677 = .ok (.istore 5, 2) := by decide +kernel
theorem dL_law_679 : decode cL_law 679 = .ok (.aload_n 2, 1) := by decide +kernel
theorem dL_law_680 : decode cL_law 680 = .ok (.aload_n 0, 1) := by decide +kernel
theorem dL_law_681 : decode cL_law 681 = .ok (.iload 4, 2) := by decide +kernel
theorem dL_law_683 : decode cL_law 683 = .ok (.iconst 1, 1) := by decide +kernel
theorem dL_law_684 : decode cL_law 684 = .ok (.iadd, 1) := by decide +kernel
theorem dL_law_685 : decode cL_law 685 = .ok (.iaload, 1) := by decide +kernel
theorem dL_law_686 : decode cL_law 686 = .ok (.aload_n 0, 1) := by decide +kernel
theorem dL_law_687 : decode cL_law 687 = .ok (.iload 4, 2) := by decide +kernel
theorem dL_law_689 : decode cL_law 689 = .ok (.iconst 2, 1) := by decide +kernel
theorem dL_law_690 : decode cL_law 690 = .ok (.iadd, 1) := by decide +kernel
theorem dL_law_691 : decode cL_law 691 = .ok (.iaload, 1) := by decide +kernel
theorem dL_law_692 : decode cL_law 692 = .ok (.invokevirtual 120, 3) := by decide +kernel
theorem dL_law_695 : decode cL_law 695 = .ok (.istore 6, 2) := by decide +kernel
theorem dL_law_697 : decode cL_law 697 = .ok (.aload_n 2, 1) := by decide +kernel
theorem dL_law_698 : decode cL_law 698 = .ok (.invokevirtual 90, 3) := by decide +kernel
theorem dL_law_701 : decode cL_law 701 = .ok (.iload 5, 2) := by decide +kernel
theorem dL_law_703 : decode cL_law 703 = .ok (.if_icmp .eq 5, 3) := by decide +kernel
theorem dL_law_706 : decode cL_law 706 = .ok (.iconst 0, 1) := by decide +kernel
theorem dL_law_707 : decode cL_law 707 = .ok (.ireturn, 1) := by decide +kernel
theorem dL_law_708 : decode cL_law 708 = .ok (.iload 5, 2) := by decide +kernel
theorem dL_law_710 : decode cL_law 710 = .ok (.ifCond .ne 15, 3) := by decide +kernel
theorem dL_law_713 : decode cL_law 713 = .ok (.aload_n 3, 1) := by decide +kernel
theorem dL_law_714 : decode cL_law 714 = .ok (.iconst 0, 1) := by decide +kernel
theorem dL_law_715 : decode cL_law 715 = .ok (.laload, 1) := by decide +kernel
theorem dL_law_716 : decode cL_law 716 = .ok (.iload 6, 2) := by decide +kernel
theorem dL_law_718 : decode cL_law 718 = .ok (.i2l, 1) := by decide +kernel
theorem dL_law_719 : decode cL_law 719 = .ok (.lcmp, 1) := by decide +kernel
theorem dL_law_720 : decode cL_law 720 = .ok (.ifCond .eq 5, 3) := by decide +kernel
theorem dL_law_723 : decode cL_law 723 = .ok (.iconst 0, 1) := by decide +kernel
theorem dL_law_724 : decode cL_law 724 = .ok (.ireturn, 1) := by decide +kernel
theorem dL_law_725 : decode cL_law 725 = .ok (.goto 814, 3) := by decide +kernel
theorem dL_law_728 : decode cL_law 728 = .ok (.aload_n 1, 1) := by decide +kernel
theorem dL_law_729 : decode cL_law 729 = .ok (.aload_n 0, 1) := by decide +kernel
theorem dL_law_730 : decode cL_law 730 = .ok (.iload 4, 2) := by decide +kernel
theorem dL_law_732 : decode cL_law 732 = .ok (.iconst 1, 1) := by decide +kernel
theorem dL_law_733 : decode cL_law 733 = .ok (.iadd, 1) := by decide +kernel
theorem dL_law_734 : decode cL_law 734 = .ok (.iaload, 1) := by decide +kernel
theorem dL_law_735 : decode cL_law 735 = .ok (.aload_n 3, 1) := by decide +kernel
theorem dL_law_736 : decode cL_law 736 = .ok (.invokestatic 121, 3) := by decide +kernel
theorem dL_law_739 : decode cL_law 739 = .ok (.istore 5, 2) := by decide +kernel
theorem dL_law_741 : decode cL_law 741 = .ok (.aload_n 2, 1) := by decide +kernel
theorem dL_law_742 : decode cL_law 742 = .ok (.aload_n 0, 1) := by decide +kernel
theorem dL_law_743 : decode cL_law 743 = .ok (.iload 4, 2) := by decide +kernel
theorem dL_law_745 : decode cL_law 745 = .ok (.iconst 1, 1) := by decide +kernel
theorem dL_law_746 : decode cL_law 746 = .ok (.iadd, 1) := by decide +kernel
theorem dL_law_747 : decode cL_law 747 = .ok (.iaload, 1) := by decide +kernel
theorem dL_law_748 : decode cL_law 748 = .ok (.invokevirtual 123, 3) := by decide +kernel
theorem dL_law_751 : decode cL_law 751 = .ok (.istore 6, 2) := by decide +kernel
theorem dL_law_753 : decode cL_law 753 = .ok (.aload_n 2, 1) := by decide +kernel
theorem dL_law_754 : decode cL_law 754 = .ok (.invokevirtual 90, 3) := by decide +kernel
theorem dL_law_757 : decode cL_law 757 = .ok (.iload 5, 2) := by decide +kernel
theorem dL_law_759 : decode cL_law 759 = .ok (.if_icmp .eq 5, 3) := by decide +kernel
theorem dL_law_762 : decode cL_law 762 = .ok (.iconst 0, 1) := by decide +kernel
theorem dL_law_763 : decode cL_law 763 = .ok (.ireturn, 1) := by decide +kernel
theorem dL_law_764 : decode cL_law 764 = .ok (.iload 5, 2) := by decide +kernel
theorem dL_law_766 : decode cL_law 766 = .ok (.ifCond .ne 15, 3) := by decide +kernel
theorem dL_law_769 : decode cL_law 769 = .ok (.aload_n 3, 1) := by decide +kernel
theorem dL_law_770 : decode cL_law 770 = .ok (.iconst 0, 1) := by decide +kernel
theorem dL_law_771 : decode cL_law 771 = .ok (.laload, 1) := by decide +kernel
theorem dL_law_772 : decode cL_law 772 = .ok (.iload 6, 2) := by decide +kernel
theorem dL_law_774 : decode cL_law 774 = .ok (.i2l, 1) := by decide +kernel
theorem dL_law_775 : decode cL_law 775 = .ok (.lcmp, 1) := by decide +kernel
theorem dL_law_776 : decode cL_law 776 = .ok (.ifCond .eq 5, 3) := by decide +kernel
theorem dL_law_779 : decode cL_law 779 = .ok (.iconst 0, 1) := by decide +kernel
theorem dL_law_780 : decode cL_law 780 = .ok (.ireturn, 1) := by decide +kernel
theorem dL_law_781 : decode cL_law 781 = .ok (.goto 758, 3) := by decide +kernel
theorem dL_law_784 : decode cL_law 784 = .ok (.aload_n 1, 1) := by decide +kernel
theorem dL_law_785 : decode cL_law 785 = .ok (.aload_n 0, 1) := by decide +kernel
theorem dL_law_786 : decode cL_law 786 = .ok (.iload 4, 2) := by decide +kernel
theorem dL_law_788 : decode cL_law 788 = .ok (.iconst 1, 1) := by decide +kernel
theorem dL_law_789 : decode cL_law 789 = .ok (.iadd, 1) := by decide +kernel
theorem dL_law_790 : decode cL_law 790 = .ok (.iaload, 1) := by decide +kernel
theorem dL_law_791 : decode cL_law 791 = .ok (.aload_n 0, 1) := by decide +kernel
theorem dL_law_792 : decode cL_law 792 = .ok (.iload 4, 2) := by decide +kernel
theorem dL_law_794 : decode cL_law 794 = .ok (.iconst 2, 1) := by decide +kernel
theorem dL_law_795 : decode cL_law 795 = .ok (.iadd, 1) := by decide +kernel
theorem dL_law_796 : decode cL_law 796 = .ok (.iaload, 1) := by decide +kernel
theorem dL_law_797 : decode cL_law 797 = .ok (.aload_n 3, 1) := by decide +kernel
theorem dL_law_798 : decode cL_law 798 = .ok (.invokestatic 124, 3) := by decide +kernel
theorem dL_law_801 : decode cL_law 801 = .ok (.istore 5, 2) := by decide +kernel
theorem dL_law_803 : decode cL_law 803 = .ok (.aload_n 2, 1) := by decide +kernel
theorem dL_law_804 : decode cL_law 804 = .ok (.aload_n 0, 1) := by decide +kernel
theorem dL_law_805 : decode cL_law 805 = .ok (.iload 4, 2) := by decide +kernel
theorem dL_law_807 : decode cL_law 807 = .ok (.iconst 1, 1) := by decide +kernel
theorem dL_law_808 : decode cL_law 808 = .ok (.iadd, 1) := by decide +kernel
theorem dL_law_809 : decode cL_law 809 = .ok (.iaload, 1) := by decide +kernel
theorem dL_law_810 : decode cL_law 810 = .ok (.aload_n 0, 1) := by decide +kernel
theorem dL_law_811 : decode cL_law 811 = .ok (.iload 4, 2) := by decide +kernel
theorem dL_law_813 : decode cL_law 813 = .ok (.iconst 2, 1) := by decide +kernel
theorem dL_law_814 : decode cL_law 814 = .ok (.iadd, 1) := by decide +kernel
theorem dL_law_815 : decode cL_law 815 = .ok (.iaload, 1) := by decide +kernel
theorem dL_law_816 : decode cL_law 816 = .ok (.invokevirtual 126, 3) := by decide +kernel
theorem dL_law_819 : decode cL_law 819 = .ok (.istore 6, 2) := by decide +kernel
theorem dL_law_821 : decode cL_law 821 = .ok (.aload_n 2, 1) := by decide +kernel
theorem dL_law_822 : decode cL_law 822 = .ok (.invokevirtual 90, 3) := by decide +kernel
theorem dL_law_825 : decode cL_law 825 = .ok (.iload 5, 2) := by decide +kernel
theorem dL_law_827 : decode cL_law 827 = .ok (.if_icmp .eq 5, 3) := by decide +kernel
theorem dL_law_830 : decode cL_law 830 = .ok (.iconst 0, 1) := by decide +kernel
theorem dL_law_831 : decode cL_law 831 = .ok (.ireturn, 1) := by decide +kernel
theorem dL_law_832 : decode cL_law 832 = .ok (.iload 5, 2) := by decide +kernel
theorem dL_law_834 : decode cL_law 834 = .ok (.ifCond .ne 15, 3) := by decide +kernel
theorem dL_law_837 : decode cL_law 837 = .ok (.aload_n 3, 1) := by decide +kernel
theorem dL_law_838 : decode cL_law 838 = .ok (.iconst 0, 1) := by decide +kernel
theorem dL_law_839 : decode cL_law 839 = .ok (.laload, 1) := by decide +kernel
theorem dL_law_840 : decode cL_law 840 = .ok (.iload 6, 2) := by decide +kernel
theorem dL_law_842 : decode cL_law 842 = .ok (.i2l, 1) := by decide +kernel
theorem dL_law_843 : decode cL_law 843 = .ok (.lcmp, 1) := by decide +kernel
theorem dL_law_844 : decode cL_law 844 = .ok (.ifCond .eq 5, 3) := by decide +kernel
theorem dL_law_847 : decode cL_law 847 = .ok (.iconst 0, 1) := by decide +kernel
theorem dL_law_848 : decode cL_law 848 = .ok (.ireturn, 1) := by decide +kernel
theorem dL_law_849 : decode cL_law 849 = .ok (.goto 690, 3) := by decide +kernel
theorem dL_law_852 : decode cL_law 852 = .ok (.aload_n 1, 1) := by decide +kernel
theorem dL_law_853 : decode cL_law 853 = .ok (.aload_n 0, 1) := by decide +kernel
theorem dL_law_854 : decode cL_law 854 = .ok (.iload 4, 2) := by decide +kernel
theorem dL_law_856 : decode cL_law 856 = .ok (.iconst 1, 1) := by decide +kernel
theorem dL_law_857 : decode cL_law 857 = .ok (.iadd, 1) := by decide +kernel
theorem dL_law_858 : decode cL_law 858 = .ok (.iaload, 1) := by decide +kernel
theorem dL_law_859 : decode cL_law 859 = .ok (.aload_n 0, 1) := by decide +kernel
theorem dL_law_860 : decode cL_law 860 = .ok (.iload 4, 2) := by decide +kernel
theorem dL_law_862 : decode cL_law 862 = .ok (.iconst 2, 1) := by decide +kernel
theorem dL_law_863 : decode cL_law 863 = .ok (.iadd, 1) := by decide +kernel
theorem dL_law_864 : decode cL_law 864 = .ok (.iaload, 1) := by decide +kernel
theorem dL_law_865 : decode cL_law 865 = .ok (.aload_n 3, 1) := by decide +kernel
theorem dL_law_866 : decode cL_law 866 = .ok (.invokestatic 127, 3) := by decide +kernel
theorem dL_law_869 : decode cL_law 869 = .ok (.istore 5, 2) := by decide +kernel
theorem dL_law_871 : decode cL_law 871 = .ok (.aload_n 2, 1) := by decide +kernel
theorem dL_law_872 : decode cL_law 872 = .ok (.aload_n 0, 1) := by decide +kernel
theorem dL_law_873 : decode cL_law 873 = .ok (.iload 4, 2) := by decide +kernel
theorem dL_law_875 : decode cL_law 875 = .ok (.iconst 1, 1) := by decide +kernel
theorem dL_law_876 : decode cL_law 876 = .ok (.iadd, 1) := by decide +kernel
theorem dL_law_877 : decode cL_law 877 = .ok (.iaload, 1) := by decide +kernel
theorem dL_law_878 : decode cL_law 878 = .ok (.aload_n 0, 1) := by decide +kernel
theorem dL_law_879 : decode cL_law 879 = .ok (.iload 4, 2) := by decide +kernel
theorem dL_law_881 : decode cL_law 881 = .ok (.iconst 2, 1) := by decide +kernel
theorem dL_law_882 : decode cL_law 882 = .ok (.iadd, 1) := by decide +kernel
theorem dL_law_883 : decode cL_law 883 = .ok (.iaload, 1) := by decide +kernel
theorem dL_law_884 : decode cL_law 884 = .ok (.invokevirtual 129, 3) := by decide +kernel
theorem dL_law_887 : decode cL_law 887 = .ok (.istore 6, 2) := by decide +kernel
theorem dL_law_889 : decode cL_law 889 = .ok (.aload_n 2, 1) := by decide +kernel
theorem dL_law_890 : decode cL_law 890 = .ok (.invokevirtual 90, 3) := by decide +kernel
theorem dL_law_893 : decode cL_law 893 = .ok (.iload 5, 2) := by decide +kernel
theorem dL_law_895 : decode cL_law 895 = .ok (.if_icmp .eq 5, 3) := by decide +kernel
theorem dL_law_898 : decode cL_law 898 = .ok (.iconst 0, 1) := by decide +kernel
theorem dL_law_899 : decode cL_law 899 = .ok (.ireturn, 1) := by decide +kernel
theorem dL_law_900 : decode cL_law 900 = .ok (.iload 5, 2) := by decide +kernel
theorem dL_law_902 : decode cL_law 902 = .ok (.ifCond .ne 15, 3) := by decide +kernel
theorem dL_law_905 : decode cL_law 905 = .ok (.aload_n 3, 1) := by decide +kernel
theorem dL_law_906 : decode cL_law 906 = .ok (.iconst 0, 1) := by decide +kernel
theorem dL_law_907 : decode cL_law 907 = .ok (.laload, 1) := by decide +kernel
theorem dL_law_908 : decode cL_law 908 = .ok (.iload 6, 2) := by decide +kernel
theorem dL_law_910 : decode cL_law 910 = .ok (.i2l, 1) := by decide +kernel
theorem dL_law_911 : decode cL_law 911 = .ok (.lcmp, 1) := by decide +kernel
theorem dL_law_912 : decode cL_law 912 = .ok (.ifCond .eq 5, 3) := by decide +kernel
theorem dL_law_915 : decode cL_law 915 = .ok (.iconst 0, 1) := by decide +kernel
theorem dL_law_916 : decode cL_law 916 = .ok (.ireturn, 1) := by decide +kernel
theorem dL_law_917 : decode cL_law 917 = .ok (.goto 622, 3) := by decide +kernel
theorem dL_law_920 : decode cL_law 920 = .ok (.aload_n 1, 1) := by decide +kernel
theorem dL_law_921 : decode cL_law 921 = .ok (.aload_n 0, 1) := by decide +kernel
theorem dL_law_922 : decode cL_law 922 = .ok (.iload 4, 2) := by decide +kernel
theorem dL_law_924 : decode cL_law 924 = .ok (.iconst 1, 1) := by decide +kernel
theorem dL_law_925 : decode cL_law 925 = .ok (.iadd, 1) := by decide +kernel
theorem dL_law_926 : decode cL_law 926 = .ok (.iaload, 1) := by decide +kernel
theorem dL_law_927 : decode cL_law 927 = .ok (.aload_n 3, 1) := by decide +kernel
theorem dL_law_928 : decode cL_law 928 = .ok (.invokestatic 130, 3) := by decide +kernel
theorem dL_law_931 : decode cL_law 931 = .ok (.istore 5, 2) := by decide +kernel
theorem dL_law_933 : decode cL_law 933 = .ok (.aload_n 2, 1) := by decide +kernel
theorem dL_law_934 : decode cL_law 934 = .ok (.aload_n 0, 1) := by decide +kernel
theorem dL_law_935 : decode cL_law 935 = .ok (.iload 4, 2) := by decide +kernel
theorem dL_law_937 : decode cL_law 937 = .ok (.iconst 1, 1) := by decide +kernel
theorem dL_law_938 : decode cL_law 938 = .ok (.iadd, 1) := by decide +kernel
theorem dL_law_939 : decode cL_law 939 = .ok (.iaload, 1) := by decide +kernel
theorem dL_law_940 : decode cL_law 940 = .ok (.invokevirtual 132, 3) := by decide +kernel
theorem dL_law_943 : decode cL_law 943 = .ok (.istore 6, 2) := by decide +kernel
theorem dL_law_945 : decode cL_law 945 = .ok (.aload_n 2, 1) := by decide +kernel
theorem dL_law_946 : decode cL_law 946 = .ok (.invokevirtual 90, 3) := by decide +kernel
theorem dL_law_949 : decode cL_law 949 = .ok (.iload 5, 2) := by decide +kernel
theorem dL_law_951 : decode cL_law 951 = .ok (.if_icmp .eq 5, 3) := by decide +kernel
theorem dL_law_954 : decode cL_law 954 = .ok (.iconst 0, 1) := by decide +kernel
theorem dL_law_955 : decode cL_law 955 = .ok (.ireturn, 1) := by decide +kernel
theorem dL_law_956 : decode cL_law 956 = .ok (.iload 5, 2) := by decide +kernel
theorem dL_law_958 : decode cL_law 958 = .ok (.ifCond .ne 15, 3) := by decide +kernel
theorem dL_law_961 : decode cL_law 961 = .ok (.aload_n 3, 1) := by decide +kernel
theorem dL_law_962 : decode cL_law 962 = .ok (.iconst 0, 1) := by decide +kernel
theorem dL_law_963 : decode cL_law 963 = .ok (.laload, 1) := by decide +kernel
theorem dL_law_964 : decode cL_law 964 = .ok (.iload 6, 2) := by decide +kernel
theorem dL_law_966 : decode cL_law 966 = .ok (.i2l, 1) := by decide +kernel
theorem dL_law_967 : decode cL_law 967 = .ok (.lcmp, 1) := by decide +kernel
theorem dL_law_968 : decode cL_law 968 = .ok (.ifCond .eq 5, 3) := by decide +kernel
theorem dL_law_971 : decode cL_law 971 = .ok (.iconst 0, 1) := by decide +kernel
theorem dL_law_972 : decode cL_law 972 = .ok (.ireturn, 1) := by decide +kernel
theorem dL_law_973 : decode cL_law 973 = .ok (.goto 566, 3) := by decide +kernel
theorem dL_law_976 : decode cL_law 976 = .ok (.aload_n 1, 1) := by decide +kernel
theorem dL_law_977 : decode cL_law 977 = .ok (.aload_n 0, 1) := by decide +kernel
theorem dL_law_978 : decode cL_law 978 = .ok (.iload 4, 2) := by decide +kernel
theorem dL_law_980 : decode cL_law 980 = .ok (.iconst 1, 1) := by decide +kernel
theorem dL_law_981 : decode cL_law 981 = .ok (.iadd, 1) := by decide +kernel
theorem dL_law_982 : decode cL_law 982 = .ok (.iaload, 1) := by decide +kernel
theorem dL_law_983 : decode cL_law 983 = .ok (.aload_n 3, 1) := by decide +kernel
theorem dL_law_984 : decode cL_law 984 = .ok (.invokestatic 133, 3) := by decide +kernel
theorem dL_law_987 : decode cL_law 987 = .ok (.istore 5, 2) := by decide +kernel
theorem dL_law_989 : decode cL_law 989 = .ok (.aload_n 2, 1) := by decide +kernel
theorem dL_law_990 : decode cL_law 990 = .ok (.aload_n 0, 1) := by decide +kernel
theorem dL_law_991 : decode cL_law 991 = .ok (.iload 4, 2) := by decide +kernel
theorem dL_law_993 : decode cL_law 993 = .ok (.iconst 1, 1) := by decide +kernel
theorem dL_law_994 : decode cL_law 994 = .ok (.iadd, 1) := by decide +kernel
theorem dL_law_995 : decode cL_law 995 = .ok (.iaload, 1) := by decide +kernel
theorem dL_law_996 : decode cL_law 996 = .ok (.invokevirtual 135, 3) := by decide +kernel
theorem dL_law_999 : decode cL_law 999 = .ok (.istore 6, 2) := by decide +kernel
theorem dL_law_1001 : decode cL_law 1001 = .ok (.aload_n 2, 1) := by decide +kernel
theorem dL_law_1002 : decode cL_law 1002 = .ok (.invokevirtual 90, 3) := by decide +kernel
theorem dL_law_1005 : decode cL_law 1005 = .ok (.iload 5, 2) := by decide +kernel
theorem dL_law_1007 : decode cL_law 1007 = .ok (.if_icmp .eq 5, 3) := by decide +kernel
theorem dL_law_1010 : decode cL_law 1010 = .ok (.iconst 0, 1) := by decide +kernel
theorem dL_law_1011 : decode cL_law 1011 = .ok (.ireturn, 1) := by decide +kernel
theorem dL_law_1012 : decode cL_law 1012 = .ok (.iload 5, 2) := by decide +kernel
theorem dL_law_1014 : decode cL_law 1014 = .ok (.ifCond .ne 22, 3) := by decide +kernel
theorem dL_law_1017 : decode cL_law 1017 = .ok (.aload_n 3, 1) := by decide +kernel
theorem dL_law_1018 : decode cL_law 1018 = .ok (.iconst 0, 1) := by decide +kernel
theorem dL_law_1019 : decode cL_law 1019 = .ok (.laload, 1) := by decide +kernel
theorem dL_law_1020 : decode cL_law 1020 = .ok (.iload 6, 2) := by decide +kernel
theorem dL_law_1022 : decode cL_law 1022 = .ok (.ifCond .eq 7, 3) := by decide +kernel
theorem dL_law_1025 : decode cL_law 1025 = .ok (.lconst 1, 1) := by decide +kernel
theorem dL_law_1026 : decode cL_law 1026 = .ok (.goto 4, 3) := by decide +kernel
theorem dL_law_1029 : decode cL_law 1029 = .ok (.lconst 0, 1) := by decide +kernel
theorem dL_law_1030 : decode cL_law 1030 = .ok (.lcmp, 1) := by decide +kernel
theorem dL_law_1031 : decode cL_law 1031 = .ok (.ifCond .eq 5, 3) := by decide +kernel
theorem dL_law_1034 : decode cL_law 1034 = .ok (.iconst 0, 1) := by decide +kernel
theorem dL_law_1035 : decode cL_law 1035 = .ok (.ireturn, 1) := by decide +kernel
theorem dL_law_1036 : decode cL_law 1036 = .ok (.goto 503, 3) := by decide +kernel
theorem dL_law_1039 : decode cL_law 1039 = .ok (.aload_n 1, 1) := by decide +kernel
theorem dL_law_1040 : decode cL_law 1040 = .ok (.invokevirtual 136, 3) := by decide +kernel
theorem dL_law_1043 : decode cL_law 1043 = .ok (.aload_n 2, 1) := by decide +kernel
theorem dL_law_1044 : decode cL_law 1044 = .ok (.invokevirtual 139, 3) := by decide +kernel
theorem dL_law_1047 : decode cL_law 1047 = .ok (.if_icmp .eq 492, 3) := by decide +kernel
theorem dL_law_1050 : decode cL_law 1050 = .ok (.iconst 0, 1) := by decide +kernel
theorem dL_law_1051 : decode cL_law 1051 = .ok (.ireturn, 1) := by decide +kernel
theorem dL_law_1052 : decode cL_law 1052 = .ok (.aload_n 1, 1) := by decide +kernel
theorem dL_law_1053 : decode cL_law 1053 = .ok (.aload_n 0, 1) := by decide +kernel
theorem dL_law_1054 : decode cL_law 1054 = .ok (.iload 4, 2) := by decide +kernel
theorem dL_law_1056 : decode cL_law 1056 = .ok (.iconst 1, 1) := by decide +kernel
theorem dL_law_1057 : decode cL_law 1057 = .ok (.iadd, 1) := by decide +kernel
theorem dL_law_1058 : decode cL_law 1058 = .ok (.iaload, 1) := by decide +kernel
theorem dL_law_1059 : decode cL_law 1059 = .ok (.aload_n 0, 1) := by decide +kernel
theorem dL_law_1060 : decode cL_law 1060 = .ok (.iload 4, 2) := by decide +kernel
theorem dL_law_1062 : decode cL_law 1062 = .ok (.iconst 2, 1) := by decide +kernel
theorem dL_law_1063 : decode cL_law 1063 = .ok (.iadd, 1) := by decide +kernel
theorem dL_law_1064 : decode cL_law 1064 = .ok (.iaload, 1) := by decide +kernel
theorem dL_law_1065 : decode cL_law 1065 = .ok (.aload_n 3, 1) := by decide +kernel
theorem dL_law_1066 : decode cL_law 1066 = .ok (.invokestatic 140, 3) := by decide +kernel
theorem dL_law_1069 : decode cL_law 1069 = .ok (.istore 5, 2) := by decide +kernel
theorem dL_law_1071 : decode cL_law 1071 = .ok (.aload_n 2, 1) := by decide +kernel
theorem dL_law_1072 : decode cL_law 1072 = .ok (.aload_n 0, 1) := by decide +kernel
theorem dL_law_1073 : decode cL_law 1073 = .ok (.iload 4, 2) := by decide +kernel
theorem dL_law_1075 : decode cL_law 1075 = .ok (.iconst 1, 1) := by decide +kernel
theorem dL_law_1076 : decode cL_law 1076 = .ok (.iadd, 1) := by decide +kernel
theorem dL_law_1077 : decode cL_law 1077 = .ok (.iaload, 1) := by decide +kernel
theorem dL_law_1078 : decode cL_law 1078 = .ok (.aload_n 0, 1) := by decide +kernel
theorem dL_law_1079 : decode cL_law 1079 = .ok (.iload 4, 2) := by decide +kernel
theorem dL_law_1081 : decode cL_law 1081 = .ok (.iconst 2, 1) := by decide +kernel
theorem dL_law_1082 : decode cL_law 1082 = .ok (.iadd, 1) := by decide +kernel
theorem dL_law_1083 : decode cL_law 1083 = .ok (.iaload, 1) := by decide +kernel
theorem dL_law_1084 : decode cL_law 1084 = .ok (.invokevirtual 142, 3) := by decide +kernel
theorem dL_law_1087 : decode cL_law 1087 = .ok (.istore 6, 2) := by decide +kernel
theorem dL_law_1089 : decode cL_law 1089 = .ok (.aload_n 2, 1) := by decide +kernel
theorem dL_law_1090 : decode cL_law 1090 = .ok (.invokevirtual 90, 3) := by decide +kernel
theorem dL_law_1093 : decode cL_law 1093 = .ok (.iload 5, 2) := by decide +kernel
theorem dL_law_1095 : decode cL_law 1095 = .ok (.if_icmp .eq 5, 3) := by decide +kernel
theorem dL_law_1098 : decode cL_law 1098 = .ok (.iconst 0, 1) := by decide +kernel
theorem dL_law_1099 : decode cL_law 1099 = .ok (.ireturn, 1) := by decide +kernel
theorem dL_law_1100 : decode cL_law 1100 = .ok (.iload 5, 2) := by decide +kernel
theorem dL_law_1102 : decode cL_law 1102 = .ok (.ifCond .ne 15, 3) := by decide +kernel
theorem dL_law_1105 : decode cL_law 1105 = .ok (.aload_n 3, 1) := by decide +kernel
theorem dL_law_1106 : decode cL_law 1106 = .ok (.iconst 0, 1) := by decide +kernel
theorem dL_law_1107 : decode cL_law 1107 = .ok (.laload, 1) := by decide +kernel
theorem dL_law_1108 : decode cL_law 1108 = .ok (.iload 6, 2) := by decide +kernel
theorem dL_law_1110 : decode cL_law 1110 = .ok (.i2l, 1) := by decide +kernel
theorem dL_law_1111 : decode cL_law 1111 = .ok (.lcmp, 1) := by decide +kernel
theorem dL_law_1112 : decode cL_law 1112 = .ok (.ifCond .eq 5, 3) := by decide +kernel
theorem dL_law_1115 : decode cL_law 1115 = .ok (.iconst 0, 1) := by decide +kernel
theorem dL_law_1116 : decode cL_law 1116 = .ok (.ireturn, 1) := by decide +kernel
theorem dL_law_1117 : decode cL_law 1117 = .ok (.goto 422, 3) := by decide +kernel
theorem dL_law_1120 : decode cL_law 1120 = .ok (.aload_n 1, 1) := by decide +kernel
theorem dL_law_1121 : decode cL_law 1121 = .ok (.invokevirtual 143, 3) := by decide +kernel
theorem dL_law_1124 : decode cL_law 1124 = .ok (.aload_n 2, 1) := by decide +kernel
theorem dL_law_1125 : decode cL_law 1125 = .ok (.invokevirtual 146, 3) := by decide +kernel
theorem dL_law_1128 : decode cL_law 1128 = .ok (.if_icmp .eq 411, 3) := by decide +kernel
theorem dL_law_1131 : decode cL_law 1131 = .ok (.iconst 0, 1) := by decide +kernel
theorem dL_law_1132 : decode cL_law 1132 = .ok (.ireturn, 1) := by decide +kernel
theorem dL_law_1133 : decode cL_law 1133 = .ok (.aload_n 1, 1) := by decide +kernel
theorem dL_law_1134 : decode cL_law 1134 = .ok (.aload_n 0, 1) := by decide +kernel
theorem dL_law_1135 : decode cL_law 1135 = .ok (.iload 4, 2) := by decide +kernel
theorem dL_law_1137 : decode cL_law 1137 = .ok (.iconst 1, 1) := by decide +kernel
theorem dL_law_1138 : decode cL_law 1138 = .ok (.iadd, 1) := by decide +kernel
theorem dL_law_1139 : decode cL_law 1139 = .ok (.iaload, 1) := by decide +kernel
theorem dL_law_1140 : decode cL_law 1140 = .ok (.ifCond .eq 7, 3) := by decide +kernel
theorem dL_law_1143 : decode cL_law 1143 = .ok (.iconst 1, 1) := by decide +kernel
theorem dL_law_1144 : decode cL_law 1144 = .ok (.goto 4, 3) := by decide +kernel
theorem dL_law_1147 : decode cL_law 1147 = .ok (.iconst 0, 1) := by decide +kernel
theorem dL_law_1148 : decode cL_law 1148 = .ok (.invokevirtual 147, 3) := by decide +kernel
theorem dL_law_1151 : decode cL_law 1151 = .ok (.dstore 5, 2) := by decide +kernel
theorem dL_law_1153 : decode cL_law 1153 = .ok (.aload_n 2, 1) := by decide +kernel
theorem dL_law_1154 : decode cL_law 1154 = .ok (.aload_n 0, 1) := by decide +kernel
theorem dL_law_1155 : decode cL_law 1155 = .ok (.iload 4, 2) := by decide +kernel
theorem dL_law_1157 : decode cL_law 1157 = .ok (.iconst 1, 1) := by decide +kernel
theorem dL_law_1158 : decode cL_law 1158 = .ok (.iadd, 1) := by decide +kernel
theorem dL_law_1159 : decode cL_law 1159 = .ok (.iaload, 1) := by decide +kernel
theorem dL_law_1160 : decode cL_law 1160 = .ok (.ifCond .eq 7, 3) := by decide +kernel
theorem dL_law_1163 : decode cL_law 1163 = .ok (.iconst 1, 1) := by decide +kernel
theorem dL_law_1164 : decode cL_law 1164 = .ok (.goto 4, 3) := by decide +kernel
theorem dL_law_1167 : decode cL_law 1167 = .ok (.iconst 0, 1) := by decide +kernel
theorem dL_law_1168 : decode cL_law 1168 = .ok (.invokevirtual 151, 3) := by decide +kernel
theorem dL_law_1171 : decode cL_law 1171 = .ok (.dstore 7, 2) := by decide +kernel
theorem dL_law_1173 : decode cL_law 1173 = .ok (.dload 5, 2) := by decide +kernel
theorem dL_law_1175 : decode cL_law 1175 = .ok (.dload 7, 2) := by decide +kernel
theorem dL_law_1177 : decode cL_law 1177 = .ok (.dcmp .l, 1) := by decide +kernel
theorem dL_law_1178 : decode cL_law 1178 = .ok (.ifCond .eq 21, 3) := by decide +kernel
theorem dL_law_1181 : decode cL_law 1181 = .ok (.dload 5, 2) := by decide +kernel
theorem dL_law_1183 : decode cL_law 1183 = .ok (.dload 5, 2) := by decide +kernel
theorem dL_law_1185 : decode cL_law 1185 = .ok (.dcmp .l, 1) := by decide +kernel
theorem dL_law_1186 : decode cL_law 1186 = .ok (.ifCond .eq 11, 3) := by decide +kernel
theorem dL_law_1189 : decode cL_law 1189 = .ok (.dload 7, 2) := by decide +kernel
theorem dL_law_1191 : decode cL_law 1191 = .ok (.dload 7, 2) := by decide +kernel
theorem dL_law_1193 : decode cL_law 1193 = .ok (.dcmp .l, 1) := by decide +kernel
theorem dL_law_1194 : decode cL_law 1194 = .ok (.ifCond .ne 5, 3) := by decide +kernel
theorem dL_law_1197 : decode cL_law 1197 = .ok (.iconst 0, 1) := by decide +kernel
theorem dL_law_1198 : decode cL_law 1198 = .ok (.ireturn, 1) := by decide +kernel
theorem dL_law_1199 : decode cL_law 1199 = .ok (.goto 340, 3) := by decide +kernel
theorem dL_law_1202 : decode cL_law 1202 = .ok (.aload_n 1, 1) := by decide +kernel
theorem dL_law_1203 : decode cL_law 1203 = .ok (.invokevirtual 152, 3) := by decide +kernel
theorem dL_law_1206 : decode cL_law 1206 = .ok (.dstore 5, 2) := by decide +kernel
theorem dL_law_1208 : decode cL_law 1208 = .ok (.aload_n 2, 1) := by decide +kernel
theorem dL_law_1209 : decode cL_law 1209 = .ok (.invokevirtual 156, 3) := by decide +kernel
theorem dL_law_1212 : decode cL_law 1212 = .ok (.dstore 7, 2) := by decide +kernel
theorem dL_law_1214 : decode cL_law 1214 = .ok (.dload 5, 2) := by decide +kernel
theorem dL_law_1216 : decode cL_law 1216 = .ok (.dload 7, 2) := by decide +kernel
theorem dL_law_1218 : decode cL_law 1218 = .ok (.dcmp .l, 1) := by decide +kernel
theorem dL_law_1219 : decode cL_law 1219 = .ok (.ifCond .eq 21, 3) := by decide +kernel
theorem dL_law_1222 : decode cL_law 1222 = .ok (.dload 5, 2) := by decide +kernel
theorem dL_law_1224 : decode cL_law 1224 = .ok (.dload 5, 2) := by decide +kernel
theorem dL_law_1226 : decode cL_law 1226 = .ok (.dcmp .l, 1) := by decide +kernel
theorem dL_law_1227 : decode cL_law 1227 = .ok (.ifCond .eq 11, 3) := by decide +kernel
theorem dL_law_1230 : decode cL_law 1230 = .ok (.dload 7, 2) := by decide +kernel
theorem dL_law_1232 : decode cL_law 1232 = .ok (.dload 7, 2) := by decide +kernel
theorem dL_law_1234 : decode cL_law 1234 = .ok (.dcmp .l, 1) := by decide +kernel
theorem dL_law_1235 : decode cL_law 1235 = .ok (.ifCond .ne 5, 3) := by decide +kernel
theorem dL_law_1238 : decode cL_law 1238 = .ok (.iconst 0, 1) := by decide +kernel
theorem dL_law_1239 : decode cL_law 1239 = .ok (.ireturn, 1) := by decide +kernel
theorem dL_law_1240 : decode cL_law 1240 = .ok (.goto 299, 3) := by decide +kernel
theorem dL_law_1243 : decode cL_law 1243 = .ok (.aload_n 1, 1) := by decide +kernel
theorem dL_law_1244 : decode cL_law 1244 = .ok (.aload_n 0, 1) := by decide +kernel
theorem dL_law_1245 : decode cL_law 1245 = .ok (.iload 4, 2) := by decide +kernel
theorem dL_law_1247 : decode cL_law 1247 = .ok (.iconst 1, 1) := by decide +kernel
theorem dL_law_1248 : decode cL_law 1248 = .ok (.iadd, 1) := by decide +kernel
theorem dL_law_1249 : decode cL_law 1249 = .ok (.iaload, 1) := by decide +kernel
theorem dL_law_1250 : decode cL_law 1250 = .ok (.aload_n 3, 1) := by decide +kernel
theorem dL_law_1251 : decode cL_law 1251 = .ok (.invokestatic 157, 3) := by decide +kernel
theorem dL_law_1254 : decode cL_law 1254 = .ok (.istore 5, 2) := by decide +kernel
theorem dL_law_1256 : decode cL_law 1256 = .ok (.aload_n 2, 1) := by decide +kernel
theorem dL_law_1257 : decode cL_law 1257 = .ok (.aload_n 0, 1) := by decide +kernel
theorem dL_law_1258 : decode cL_law 1258 = .ok (.iload 4, 2) := by decide +kernel
theorem dL_law_1260 : decode cL_law 1260 = .ok (.iconst 1, 1) := by decide +kernel
theorem dL_law_1261 : decode cL_law 1261 = .ok (.iadd, 1) := by decide +kernel
theorem dL_law_1262 : decode cL_law 1262 = .ok (.iaload, 1) := by decide +kernel
theorem dL_law_1263 : decode cL_law 1263 = .ok (.invokevirtual 159, 3) := by decide +kernel
theorem dL_law_1266 : decode cL_law 1266 = .ok (.istore 6, 2) := by decide +kernel
theorem dL_law_1268 : decode cL_law 1268 = .ok (.aload_n 2, 1) := by decide +kernel
theorem dL_law_1269 : decode cL_law 1269 = .ok (.invokevirtual 90, 3) := by decide +kernel
theorem dL_law_1272 : decode cL_law 1272 = .ok (.iload 5, 2) := by decide +kernel
theorem dL_law_1274 : decode cL_law 1274 = .ok (.if_icmp .eq 5, 3) := by decide +kernel
theorem dL_law_1277 : decode cL_law 1277 = .ok (.iconst 0, 1) := by decide +kernel
theorem dL_law_1278 : decode cL_law 1278 = .ok (.ireturn, 1) := by decide +kernel
theorem dL_law_1279 : decode cL_law 1279 = .ok (.iload 5, 2) := by decide +kernel
theorem dL_law_1281 : decode cL_law 1281 = .ok (.ifCond .ne 15, 3) := by decide +kernel
theorem dL_law_1284 : decode cL_law 1284 = .ok (.aload_n 3, 1) := by decide +kernel
theorem dL_law_1285 : decode cL_law 1285 = .ok (.iconst 0, 1) := by decide +kernel
theorem dL_law_1286 : decode cL_law 1286 = .ok (.laload, 1) := by decide +kernel
theorem dL_law_1287 : decode cL_law 1287 = .ok (.iload 6, 2) := by decide +kernel
theorem dL_law_1289 : decode cL_law 1289 = .ok (.i2l, 1) := by decide +kernel
theorem dL_law_1290 : decode cL_law 1290 = .ok (.lcmp, 1) := by decide +kernel
theorem dL_law_1291 : decode cL_law 1291 = .ok (.ifCond .eq 5, 3) := by decide +kernel
theorem dL_law_1294 : decode cL_law 1294 = .ok (.iconst 0, 1) := by decide +kernel
theorem dL_law_1295 : decode cL_law 1295 = .ok (.ireturn, 1) := by decide +kernel
theorem dL_law_1296 : decode cL_law 1296 = .ok (.goto 243, 3) := by decide +kernel
theorem dL_law_1299 : decode cL_law 1299 = .ok (.aload_n 1, 1) := by decide +kernel
theorem dL_law_1300 : decode cL_law 1300 = .ok (.aload_n 3, 1) := by decide +kernel
theorem dL_law_1301 : decode cL_law 1301 = .ok (.invokestatic 160, 3) := by decide +kernel
theorem dL_law_1304 : decode cL_law 1304 = .ok (.istore 5, 2) := by decide +kernel
theorem dL_law_1306 : decode cL_law 1306 = .ok (.aload_n 2, 1) := by decide +kernel
theorem dL_law_1307 : decode cL_law 1307 = .ok (.invokevirtual 163, 3) := by decide +kernel
theorem dL_law_1310 : decode cL_law 1310 = .ok (.istore 6, 2) := by decide +kernel
theorem dL_law_1312 : decode cL_law 1312 = .ok (.aload_n 2, 1) := by decide +kernel
theorem dL_law_1313 : decode cL_law 1313 = .ok (.invokevirtual 90, 3) := by decide +kernel
theorem dL_law_1316 : decode cL_law 1316 = .ok (.iload 5, 2) := by decide +kernel
theorem dL_law_1318 : decode cL_law 1318 = .ok (.if_icmp .eq 5, 3) := by decide +kernel
theorem dL_law_1321 : decode cL_law 1321 = .ok (.iconst 0, 1) := by decide +kernel
theorem dL_law_1322 : decode cL_law 1322 = .ok (.ireturn, 1) := by decide +kernel
theorem dL_law_1323 : decode cL_law 1323 = .ok (.iload 5, 2) := by decide +kernel
theorem dL_law_1325 : decode cL_law 1325 = .ok (.ifCond .ne 15, 3) := by decide +kernel
theorem dL_law_1328 : decode cL_law 1328 = .ok (.aload_n 3, 1) := by decide +kernel
theorem dL_law_1329 : decode cL_law 1329 = .ok (.iconst 0, 1) := by decide +kernel
theorem dL_law_1330 : decode cL_law 1330 = .ok (.laload, 1) := by decide +kernel
theorem dL_law_1331 : decode cL_law 1331 = .ok (.iload 6, 2) := by decide +kernel
theorem dL_law_1333 : decode cL_law 1333 = .ok (.i2l, 1) := by decide +kernel
theorem dL_law_1334 : decode cL_law 1334 = .ok (.lcmp, 1) := by decide +kernel
theorem dL_law_1335 : decode cL_law 1335 = .ok (.ifCond .eq 5, 3) := by decide +kernel
theorem dL_law_1338 : decode cL_law 1338 = .ok (.iconst 0, 1) := by decide +kernel
theorem dL_law_1339 : decode cL_law 1339 = .ok (.ireturn, 1) := by decide +kernel
theorem dL_law_1340 : decode cL_law 1340 = .ok (.goto 199, 3) := by decide +kernel
theorem dL_law_1343 : decode cL_law 1343 = .ok (.aload_n 1, 1) := by decide +kernel
theorem dL_law_1344 : decode cL_law 1344 = .ok (.aload_n 0, 1) := by decide +kernel
theorem dL_law_1345 : decode cL_law 1345 = .ok (.iload 4, 2) := by decide +kernel
theorem dL_law_1347 : decode cL_law 1347 = .ok (.iconst 1, 1) := by decide +kernel
theorem dL_law_1348 : decode cL_law 1348 = .ok (.iadd, 1) := by decide +kernel
theorem dL_law_1349 : decode cL_law 1349 = .ok (.iaload, 1) := by decide +kernel
theorem dL_law_1350 : decode cL_law 1350 = .ok (.aload_n 3, 1) := by decide +kernel
theorem dL_law_1351 : decode cL_law 1351 = .ok (.invokestatic 164, 3) := by decide +kernel
theorem dL_law_1354 : decode cL_law 1354 = .ok (.istore 5, 2) := by decide +kernel
theorem dL_law_1356 : decode cL_law 1356 = .ok (.aload_n 2, 1) := by decide +kernel
theorem dL_law_1357 : decode cL_law 1357 = .ok (.aload_n 0, 1) := by decide +kernel
theorem dL_law_1358 : decode cL_law 1358 = .ok (.iload 4, 2) := by decide +kernel
theorem dL_law_1360 : decode cL_law 1360 = .ok (.iconst 1, 1) := by decide +kernel
theorem dL_law_1361 : decode cL_law 1361 = .ok (.iadd, 1) := by decide +kernel
theorem dL_law_1362 : decode cL_law 1362 = .ok (.iaload, 1) := by decide +kernel
theorem dL_law_1363 : decode cL_law 1363 = .ok (.invokevirtual 166, 3) := by decide +kernel
theorem dL_law_1366 : decode cL_law 1366 = .ok (.istore 6, 2) := by decide +kernel
theorem dL_law_1368 : decode cL_law 1368 = .ok (.aload_n 2, 1) := by decide +kernel
theorem dL_law_1369 : decode cL_law 1369 = .ok (.invokevirtual 90, 3) := by decide +kernel
theorem dL_law_1372 : decode cL_law 1372 = .ok (.iload 5, 2) := by decide +kernel
theorem dL_law_1374 : decode cL_law 1374 = .ok (.if_icmp .eq 5, 3) := by decide +kernel
theorem dL_law_1377 : decode cL_law 1377 = .ok (.iconst 0, 1) := by decide +kernel
theorem dL_law_1378 : decode cL_law 1378 = .ok (.ireturn, 1) := by decide +kernel
theorem dL_law_1379 : decode cL_law 1379 = .ok (.iload 5, 2) := by decide +kernel
theorem dL_law_1381 : decode cL_law 1381 = .ok (.ifCond .ne 15, 3) := by decide +kernel
theorem dL_law_1384 : decode cL_law 1384 = .ok (.aload_n 3, 1) := by decide +kernel
theorem dL_law_1385 : decode cL_law 1385 = .ok (.iconst 0, 1) := by decide +kernel
theorem dL_law_1386 : decode cL_law 1386 = .ok (.laload, 1) := by decide +kernel
theorem dL_law_1387 : decode cL_law 1387 = .ok (.iload 6, 2) := by decide +kernel
theorem dL_law_1389 : decode cL_law 1389 = .ok (.i2l, 1) := by decide +kernel
theorem dL_law_1390 : decode cL_law 1390 = .ok (.lcmp, 1) := by decide +kernel
theorem dL_law_1391 : decode cL_law 1391 = .ok (.ifCond .eq 5, 3) := by decide +kernel
theorem dL_law_1394 : decode cL_law 1394 = .ok (.iconst 0, 1) := by decide +kernel
theorem dL_law_1395 : decode cL_law 1395 = .ok (.ireturn, 1) := by decide +kernel
theorem dL_law_1396 : decode cL_law 1396 = .ok (.goto 143, 3) := by decide +kernel
theorem dL_law_1399 : decode cL_law 1399 = .ok (.aload_n 1, 1) := by decide +kernel
theorem dL_law_1400 : decode cL_law 1400 = .ok (.aload_n 0, 1) := by decide +kernel
theorem dL_law_1401 : decode cL_law 1401 = .ok (.iload 4, 2) := by decide +kernel
theorem dL_law_1403 : decode cL_law 1403 = .ok (.iconst 1, 1) := by decide +kernel
theorem dL_law_1404 : decode cL_law 1404 = .ok (.iadd, 1) := by decide +kernel
theorem dL_law_1405 : decode cL_law 1405 = .ok (.iaload, 1) := by decide +kernel
theorem dL_law_1406 : decode cL_law 1406 = .ok (.aload_n 3, 1) := by decide +kernel
theorem dL_law_1407 : decode cL_law 1407 = .ok (.invokestatic 167, 3) := by decide +kernel
theorem dL_law_1410 : decode cL_law 1410 = .ok (.istore 5, 2) := by decide +kernel
theorem dL_law_1412 : decode cL_law 1412 = .ok (.aload_n 2, 1) := by decide +kernel
theorem dL_law_1413 : decode cL_law 1413 = .ok (.aload_n 0, 1) := by decide +kernel
theorem dL_law_1414 : decode cL_law 1414 = .ok (.iload 4, 2) := by decide +kernel
theorem dL_law_1416 : decode cL_law 1416 = .ok (.iconst 1, 1) := by decide +kernel
theorem dL_law_1417 : decode cL_law 1417 = .ok (.iadd, 1) := by decide +kernel
theorem dL_law_1418 : decode cL_law 1418 = .ok (.iaload, 1) := by decide +kernel
theorem dL_law_1419 : decode cL_law 1419 = .ok (.invokevirtual 169, 3) := by decide +kernel
theorem dL_law_1422 : decode cL_law 1422 = .ok (.istore 6, 2) := by decide +kernel
theorem dL_law_1424 : decode cL_law 1424 = .ok (.aload_n 2, 1) := by decide +kernel
theorem dL_law_1425 : decode cL_law 1425 = .ok (.invokevirtual 90, 3) := by decide +kernel
theorem dL_law_1428 : decode cL_law 1428 = .ok (.iload 5, 2) := by decide +kernel
theorem dL_law_1430 : decode cL_law 1430 = .ok (.if_icmp .eq 5, 3) := by decide +kernel
theorem dL_law_1433 : decode cL_law 1433 = .ok (.iconst 0, 1) := by decide +kernel
theorem dL_law_1434 : decode cL_law 1434 = .ok (.ireturn, 1) := by decide +kernel
theorem dL_law_1435 : decode cL_law 1435 = .ok (.iload 5, 2) := by decide +kernel
theorem dL_law_1437 : decode cL_law 1437 = .ok (.ifCond .ne 15, 3) := by decide +kernel
theorem dL_law_1440 : decode cL_law 1440 = .ok (.aload_n 3, 1) := by decide +kernel
theorem dL_law_1441 : decode cL_law 1441 = .ok (.iconst 0, 1) := by decide +kernel
theorem dL_law_1442 : decode cL_law 1442 = .ok (.laload, 1) := by decide +kernel
theorem dL_law_1443 : decode cL_law 1443 = .ok (.iload 6, 2) := by decide +kernel
theorem dL_law_1445 : decode cL_law 1445 = .ok (.i2l, 1) := by decide +kernel
theorem dL_law_1446 : decode cL_law 1446 = .ok (.lcmp, 1) := by decide +kernel
theorem dL_law_1447 : decode cL_law 1447 = .ok (.ifCond .eq 5, 3) := by decide +kernel
theorem dL_law_1450 : decode cL_law 1450 = .ok (.iconst 0, 1) := by decide +kernel
theorem dL_law_1451 : decode cL_law 1451 = .ok (.ireturn, 1) := by decide +kernel
theorem dL_law_1452 : decode cL_law 1452 = .ok (.goto 87, 3) := by decide +kernel
theorem dL_law_1455 : decode cL_law 1455 = .ok (.aload_n 1, 1) := by decide +kernel
theorem dL_law_1456 : decode cL_law 1456 = .ok (.invokevirtual 170, 3) := by decide +kernel
theorem dL_law_1459 : decode cL_law 1459 = .ok (.aload_n 2, 1) := by decide +kernel
theorem dL_law_1460 : decode cL_law 1460 = .ok (.invokevirtual 173, 3) := by decide +kernel
theorem dL_law_1463 : decode cL_law 1463 = .ok (.if_icmp .eq 76, 3) := by decide +kernel
theorem dL_law_1466 : decode cL_law 1466 = .ok (.iconst 0, 1) := by decide +kernel
theorem dL_law_1467 : decode cL_law 1467 = .ok (.ireturn, 1) := by decide +kernel
theorem dL_law_1468 : decode cL_law 1468 = .ok (.aload_n 1, 1) := by decide +kernel
theorem dL_law_1469 : decode cL_law 1469 = .ok (.invokevirtual 174, 3) := by decide +kernel
theorem dL_law_1472 : decode cL_law 1472 = .ok (.aload_n 2, 1) := by decide +kernel
theorem dL_law_1473 : decode cL_law 1473 = .ok (.invokevirtual 177, 3) := by decide +kernel
theorem dL_law_1476 : decode cL_law 1476 = .ok (.if_icmp .eq 63, 3) := by decide +kernel
theorem dL_law_1479 : decode cL_law 1479 = .ok (.iconst 0, 1) := by decide +kernel
theorem dL_law_1480 : decode cL_law 1480 = .ok (.ireturn, 1) := by decide +kernel
theorem dL_law_1481 : decode cL_law 1481 = .ok (.aload_n 1, 1) := by decide +kernel
theorem dL_law_1482 : decode cL_law 1482 = .ok (.aload_n 3, 1) := by decide +kernel
theorem dL_law_1483 : decode cL_law 1483 = .ok (.invokestatic 178, 3) := by decide +kernel
theorem dL_law_1486 : decode cL_law 1486 = .ok (.istore 5, 2) := by decide +kernel
theorem dL_law_1488 : decode cL_law 1488 = .ok (.aload_n 2, 1) := by decide +kernel
theorem dL_law_1489 : decode cL_law 1489 = .ok (.invokevirtual 180, 3) := by decide +kernel
theorem dL_law_1492 : decode cL_law 1492 = .ok (.istore 6, 2) := by decide +kernel
theorem dL_law_1494 : decode cL_law 1494 = .ok (.aload_n 2, 1) := by decide +kernel
theorem dL_law_1495 : decode cL_law 1495 = .ok (.invokevirtual 90, 3) := by decide +kernel
theorem dL_law_1498 : decode cL_law 1498 = .ok (.iload 5, 2) := by decide +kernel
theorem dL_law_1500 : decode cL_law 1500 = .ok (.if_icmp .eq 5, 3) := by decide +kernel
theorem dL_law_1503 : decode cL_law 1503 = .ok (.iconst 0, 1) := by decide +kernel
theorem dL_law_1504 : decode cL_law 1504 = .ok (.ireturn, 1) := by decide +kernel
theorem dL_law_1505 : decode cL_law 1505 = .ok (.iload 5, 2) := by decide +kernel
theorem dL_law_1507 : decode cL_law 1507 = .ok (.ifCond .ne 15, 3) := by decide +kernel
theorem dL_law_1510 : decode cL_law 1510 = .ok (.aload_n 3, 1) := by decide +kernel
theorem dL_law_1511 : decode cL_law 1511 = .ok (.iconst 0, 1) := by decide +kernel
theorem dL_law_1512 : decode cL_law 1512 = .ok (.laload, 1) := by decide +kernel
theorem dL_law_1513 : decode cL_law 1513 = .ok (.iload 6, 2) := by decide +kernel
theorem dL_law_1515 : decode cL_law 1515 = .ok (.i2l, 1) := by decide +kernel
theorem dL_law_1516 : decode cL_law 1516 = .ok (.lcmp, 1) := by decide +kernel
theorem dL_law_1517 : decode cL_law 1517 = .ok (.ifCond .eq 5, 3) := by decide +kernel
theorem dL_law_1520 : decode cL_law 1520 = .ok (.iconst 0, 1) := by decide +kernel
theorem dL_law_1521 : decode cL_law 1521 = .ok (.ireturn, 1) := by decide +kernel
theorem dL_law_1522 : decode cL_law 1522 = .ok (.goto 17, 3) := by decide +kernel
theorem dL_law_1525 : decode cL_law 1525 = .ok (.aload_n 1, 1) := by decide +kernel
theorem dL_law_1526 : decode cL_law 1526 = .ok (.invokevirtual 181, 3) := by decide +kernel
theorem dL_law_1529 : decode cL_law 1529 = .ok (.aload_n 2, 1) := by decide +kernel
theorem dL_law_1530 : decode cL_law 1530 = .ok (.invokevirtual 185, 3) := by decide +kernel
theorem dL_law_1533 : decode cL_law 1533 = .ok (.lcmp, 1) := by decide +kernel
theorem dL_law_1534 : decode cL_law 1534 = .ok (.ifCond .eq 5, 3) := by decide +kernel
theorem dL_law_1537 : decode cL_law 1537 = .ok (.iconst 0, 1) := by decide +kernel
theorem dL_law_1538 : decode cL_law 1538 = .ok (.ireturn, 1) := by decide +kernel
theorem dL_law_1539 : decode cL_law 1539 = .ok (.iinc 4 4, 3) := by decide +kernel
theorem dL_law_1542 : decode cL_law 1542 = .ok (.goto (-1519), 3) := by decide +kernel
theorem dL_law_1545 : decode cL_law 1545 = .ok (.iconst 1, 1) := by decide +kernel
theorem dL_law_1546 : decode cL_law 1546 = .ok (.ireturn, 1) := by decide +kernel
end
section
theorem inX0 : ∀ w ∈ u_ws RX0 TX0 10, w ∈ zWS := z_ins [159, 161, 163, 165, 167, 169, 171, 173, 175, 177] (by decide +kernel) (by decide +kernel)
theorem inX1 : ∀ w ∈ u_ws RX1 TX1 2, w ∈ zWS := z_ins [300, 302] (by decide +kernel) (by decide +kernel)
theorem inX2 : ∀ w ∈ u_ws RX2 TX2 11, w ∈ zWS := z_ins [265, 267, 269, 271, 273, 275, 277, 279, 281, 283, 285] (by decide +kernel) (by decide +kernel)
theorem inX3 : ∀ w ∈ u_ws RX3 TX3 2, w ∈ zWS := z_ins [107, 109] (by decide +kernel) (by decide +kernel)
theorem inX4 : ∀ w ∈ u_ws RX4 TX4 3, w ∈ zWS := z_ins [123, 125, 127] (by decide +kernel) (by decide +kernel)
theorem inX5 : ∀ w ∈ u_ws RX5 TX5 6, w ∈ zWS := z_ins [444, 446, 448, 450, 452, 454] (by decide +kernel) (by decide +kernel)
theorem inX6 : ∀ w ∈ u_ws RX6 TX6 9, w ∈ zWS := z_ins [216, 218, 220, 222, 224, 226, 228, 230, 232] (by decide +kernel) (by decide +kernel)
theorem inX7 : ∀ w ∈ u_ws RX7 TX7 2, w ∈ zWS := z_ins [99, 101] (by decide +kernel) (by decide +kernel)
theorem inX9 : ∀ w ∈ u_ws RX9 TX9 5, w ∈ zWS := z_ins [310, 312, 314, 316, 318] (by decide +kernel) (by decide +kernel)
theorem inX10 : ∀ w ∈ u_ws RX10 TX10 10, w ∈ zWS := z_ins [1006, 1008, 1010, 1012, 1014, 1016, 1018, 1020, 1022, 1024] (by decide +kernel) (by decide +kernel)
theorem zoi_a : Cond.instanceMethod Lib.objectInit ∈ zWS := z_lw (i := 75) (by decide +kernel) (by decide +kernel)
theorem zoi_b : Cond.code Lib.objectInit ⟨#[0xb1]⟩ 1 none ∈ zWS := z_lw (i := 76) (by decide +kernel) (by decide +kernel)
theorem zoi_X0_1 : Cond.methodLink RX0 1 Lib.objectInit ∈ zWS := z_lw (i := 135) (by decide +kernel) (by decide +kernel)
theorem zf_X0_7 : z_F RX0 7 0 0 := ⟨RX0, TX0, rfl, by decide, z_lw (i := 136) (by decide +kernel) (by decide +kernel), inX0, rfl, tyX0_ok, nmX0, rfl⟩
theorem zf_X0_13 : z_F RX0 13 0 1 := ⟨RX0, TX0, rfl, by decide, z_lw (i := 139) (by decide +kernel) (by decide +kernel), inX0, rfl, tyX0_ok, nmX0, rfl⟩
theorem zf_X0_16 : z_F RX0 16 0 2 := ⟨RX0, TX0, rfl, by decide, z_lw (i := 141) (by decide +kernel) (by decide +kernel), inX0, rfl, tyX0_ok, nmX0, rfl⟩
theorem zf_X0_19 : z_F RX0 19 0 3 := ⟨RX0, TX0, rfl, by decide, z_lw (i := 143) (by decide +kernel) (by decide +kernel), inX0, rfl, tyX0_ok, nmX0, rfl⟩
theorem zf_X0_22 : z_F RX0 22 0 4 := ⟨RX0, TX0, rfl, by decide, z_lw (i := 145) (by decide +kernel) (by decide +kernel), inX0, rfl, tyX0_ok, nmX0, rfl⟩
theorem zf_X0_25 : z_F RX0 25 0 5 := ⟨RX0, TX0, rfl, by decide, z_lw (i := 147) (by decide +kernel) (by decide +kernel), inX0, rfl, tyX0_ok, nmX0, rfl⟩
theorem zf_X0_28 : z_F RX0 28 0 6 := ⟨RX0, TX0, rfl, by decide, z_lw (i := 149) (by decide +kernel) (by decide +kernel), inX0, rfl, tyX0_ok, nmX0, rfl⟩
theorem zf_X0_31 : z_F RX0 31 0 7 := ⟨RX0, TX0, rfl, by decide, z_lw (i := 151) (by decide +kernel) (by decide +kernel), inX0, rfl, tyX0_ok, nmX0, rfl⟩
theorem zf_X0_34 : z_F RX0 34 0 8 := ⟨RX0, TX0, rfl, by decide, z_lw (i := 155) (by decide +kernel) (by decide +kernel), inX0, rfl, tyX0_ok, nmX0, rfl⟩
theorem zf_X0_37 : z_F RX0 37 0 9 := ⟨RX0, TX0, rfl, by decide, z_lw (i := 157) (by decide +kernel) (by decide +kernel), inX0, rfl, tyX0_ok, nmX0, rfl⟩
theorem zmm_X0_41 : z_MM RX0 41 Lib.Math.max.name Lib.Math.max.code := ⟨z_lw (i := 814) (by decide +kernel) (by decide +kernel), z_lw (i := 358) (by decide +kernel) (by decide +kernel), z_lw (i := 63) (by decide +kernel) (by decide +kernel), z_lw (i := 359) (by decide +kernel) (by decide +kernel)⟩
theorem zoi_X7_3 : Cond.methodLink RX7 3 Lib.objectInit ∈ zWS := z_lw (i := 96) (by decide +kernel) (by decide +kernel)
theorem zf_X7_9 : z_FF RX7 9 7 0 := ⟨RX7, TX7, rfl, by decide, z_lw (i := 97) (by decide +kernel) (by decide +kernel), inX7, rfl, tyX7_ok, nmX7, rfl⟩
theorem zac_int : Cond.arrayClass (newarray.typeOf .int) ∈ zWS := z_lw (i := 104) (by decide +kernel) (by decide +kernel)
theorem zf_X7_15 : z_FF RX7 15 7 1 := ⟨RX7, TX7, rfl, by decide, z_lw (i := 98) (by decide +kernel) (by decide +kernel), inX7, rfl, tyX7_ok, nmX7, rfl⟩
theorem zoi_X3_3 : Cond.methodLink RX3 3 Lib.objectInit ∈ zWS := z_lw (i := 90) (by decide +kernel) (by decide +kernel)
theorem zw_X3_9 : z_NW RX3 9 7 := ⟨RX7, TX7, rfl, tyX7_ok, inX7, z_lw (i := 91) (by decide +kernel) (by decide +kernel), z_lw (i := 92) (by decide +kernel) (by decide +kernel), z_lw (i := 52) (by decide +kernel) (by decide +kernel), by decide +kernel⟩
theorem zv_X3_13 : z_II RX3 13 yX7_init cX7_init 3 2 := ⟨z_ins [93, 94, 52, 95] (by decide +kernel) (by decide +kernel), rfl, by decide +kernel, by decide +kernel, by decide +kernel⟩
theorem zf_X3_16 : z_FF RX3 16 3 0 := ⟨RX3, TX3, rfl, by decide, z_lw (i := 105) (by decide +kernel) (by decide +kernel), inX3, rfl, tyX3_ok, nmX3, rfl⟩
theorem zoi_X4_3 : Cond.methodLink RX4 3 Lib.objectInit ∈ zWS := z_lw (i := 117) (by decide +kernel) (by decide +kernel)
theorem zf_X4_9 : z_FF RX4 9 4 0 := ⟨RX4, TX4, rfl, by decide, z_lw (i := 118) (by decide +kernel) (by decide +kernel), inX4, rfl, tyX4_ok, nmX4, rfl⟩
theorem zf_X4_15 : z_FF RX4 15 4 1 := ⟨RX4, TX4, rfl, by decide, z_lw (i := 119) (by decide +kernel) (by decide +kernel), inX4, rfl, tyX4_ok, nmX4, rfl⟩
theorem zoi_X6_3 : Cond.methodLink RX6 3 Lib.objectInit ∈ zWS := z_lw (i := 186) (by decide +kernel) (by decide +kernel)
theorem zoi_X2_3 : Cond.methodLink RX2 3 Lib.objectInit ∈ zWS := z_lw (i := 82) (by decide +kernel) (by decide +kernel)
theorem zcl_X2_9 : Cond.classLink RX2 9 RX6 ∈ zWS := z_lw (i := 83) (by decide +kernel) (by decide +kernel)
theorem zf_X2_11 : z_FF RX2 11 2 0 := ⟨RX2, TX2, rfl, by decide, z_lw (i := 235) (by decide +kernel) (by decide +kernel), inX2, rfl, tyX2_ok, nmX2, rfl⟩
theorem zw_X2_17 : z_NW RX2 17 3 := ⟨RX3, TX3, rfl, tyX3_ok, inX3, z_lw (i := 85) (by decide +kernel) (by decide +kernel), z_lw (i := 86) (by decide +kernel) (by decide +kernel), z_lw (i := 51) (by decide +kernel) (by decide +kernel), by decide +kernel⟩
theorem zv_X2_19 : z_IN RX2 19 yX3_init "TokenBus" cX3_init 1 0 := ⟨by decide +kernel, z_ins [88, 51, 89] (by decide +kernel) (by decide +kernel), rfl, by decide +kernel, by decide +kernel, by decide +kernel⟩
theorem zf_X2_20 : z_FF RX2 20 2 1 := ⟨RX2, TX2, rfl, by decide, z_lw (i := 236) (by decide +kernel) (by decide +kernel), inX2, rfl, tyX2_ok, nmX2, rfl⟩
theorem zw_X2_24 : z_NW RX2 24 4 := ⟨RX4, TX4, rfl, tyX4_ok, inX4, z_lw (i := 112) (by decide +kernel) (by decide +kernel), z_lw (i := 113) (by decide +kernel) (by decide +kernel), z_lw (i := 53) (by decide +kernel) (by decide +kernel), by decide +kernel⟩
theorem zv_X2_26 : z_IN RX2 26 yX4_init "TokenBus" cX4_init 1 0 := ⟨by decide +kernel, z_ins [115, 53, 116] (by decide +kernel) (by decide +kernel), rfl, by decide +kernel, by decide +kernel, by decide +kernel⟩
theorem zf_X2_27 : z_FF RX2 27 2 2 := ⟨RX2, TX2, rfl, by decide, z_lw (i := 240) (by decide +kernel) (by decide +kernel), inX2, rfl, tyX2_ok, nmX2, rfl⟩
theorem zw_X2_31 : z_NW RX2 31 0 := ⟨RX0, TX0, rfl, tyX0_ok, inX0, z_lw (i := 130) (by decide +kernel) (by decide +kernel), z_lw (i := 131) (by decide +kernel) (by decide +kernel), z_lw (i := 54) (by decide +kernel) (by decide +kernel), by decide +kernel⟩
theorem zv_X2_33 : z_IN RX2 33 yX0_init "TokenBus" cX0_init 1 0 := ⟨by decide +kernel, z_ins [133, 54, 134] (by decide +kernel) (by decide +kernel), rfl, by decide +kernel, by decide +kernel, by decide +kernel⟩
theorem zf_X2_34 : z_FF RX2 34 2 3 := ⟨RX2, TX2, rfl, by decide, z_lw (i := 242) (by decide +kernel) (by decide +kernel), inX2, rfl, tyX2_ok, nmX2, rfl⟩
theorem zw_X2_38 : z_NW RX2 38 7 := ⟨RX7, TX7, rfl, tyX7_ok, inX7, z_lw (i := 180) (by decide +kernel) (by decide +kernel), z_lw (i := 92) (by decide +kernel) (by decide +kernel), z_lw (i := 52) (by decide +kernel) (by decide +kernel), by decide +kernel⟩
theorem zv_X2_40 : z_II RX2 40 yX7_init cX7_init 3 2 := ⟨z_ins [181, 94, 52, 95] (by decide +kernel) (by decide +kernel), rfl, by decide +kernel, by decide +kernel, by decide +kernel⟩
theorem zf_X2_43 : z_FF RX2 43 2 4 := ⟨RX2, TX2, rfl, by decide, z_lw (i := 245) (by decide +kernel) (by decide +kernel), inX2, rfl, tyX2_ok, nmX2, rfl⟩
theorem zf_X2_47 : z_F RX2 47 2 6 := ⟨RX2, TX2, rfl, by decide, z_lw (i := 249) (by decide +kernel) (by decide +kernel), inX2, rfl, tyX2_ok, nmX2, rfl⟩
theorem zf_X2_51 : z_F RX2 51 2 7 := ⟨RX2, TX2, rfl, by decide, z_lw (i := 252) (by decide +kernel) (by decide +kernel), inX2, rfl, tyX2_ok, nmX2, rfl⟩
theorem zf_X2_54 : z_F RX2 54 2 8 := ⟨RX2, TX2, rfl, by decide, z_lw (i := 255) (by decide +kernel) (by decide +kernel), inX2, rfl, tyX2_ok, nmX2, rfl⟩
theorem zf_X2_57 : z_F RX2 57 2 10 := ⟨RX2, TX2, rfl, by decide, z_lw (i := 262) (by decide +kernel) (by decide +kernel), inX2, rfl, tyX2_ok, nmX2, rfl⟩
theorem zw_X2_9 : z_NW RX2 9 6 := ⟨RX6, TX6, rfl, tyX6_ok, inX6, z_lw (i := 83) (by decide +kernel) (by decide +kernel), z_lw (i := 182) (by decide +kernel) (by decide +kernel), z_lw (i := 55) (by decide +kernel) (by decide +kernel), by decide +kernel⟩
theorem zv_X2_60 : z_IN RX2 60 yX6_init "TokenBus" cX6_init 1 0 := ⟨by decide +kernel, z_ins [184, 55, 185] (by decide +kernel) (by decide +kernel), rfl, by decide +kernel, by decide +kernel, by decide +kernel⟩
theorem zoi_X1_3 : Cond.methodLink RX1 3 Lib.objectInit ∈ zWS := z_lw (i := 293) (by decide +kernel) (by decide +kernel)
theorem zcl_X1_9 : Cond.classLink RX1 9 RX2 ∈ zWS := z_lw (i := 294) (by decide +kernel) (by decide +kernel)
theorem zf_X1_11 : z_FF RX1 11 1 0 := ⟨RX1, TX1, rfl, by decide, z_lw (i := 297) (by decide +kernel) (by decide +kernel), inX1, rfl, tyX1_ok, nmX1, rfl⟩
theorem zw_X1_9 : z_NW RX1 9 2 := ⟨RX2, TX2, rfl, tyX2_ok, inX2, z_lw (i := 294) (by decide +kernel) (by decide +kernel), z_lw (i := 78) (by decide +kernel) (by decide +kernel), z_lw (i := 50) (by decide +kernel) (by decide +kernel), by decide +kernel⟩
theorem zv_X1_17 : z_II RX1 17 yX2_init cX2_init 2 0 := ⟨z_ins [296, 80, 50, 81] (by decide +kernel) (by decide +kernel), rfl, by decide +kernel, by decide +kernel, by decide +kernel⟩
theorem zv_X1_25 : z_V RX1 25 RX1 yX1_stateAt cX1_stateAt 2 (some (.object "TokenBus$Line")) 1 := ⟨z_ins [334, 336, 1, 56, 337] (by decide +kernel) (by decide +kernel), rfl, by decide +kernel, by decide +kernel, by decide +kernel⟩
theorem zf_X1_18 : z_F RX1 18 1 1 := ⟨RX1, TX1, rfl, by decide, z_lw (i := 298) (by decide +kernel) (by decide +kernel), inX1, rfl, tyX1_ok, nmX1, rfl⟩
theorem zmm_X7_19 : z_MM RX7 19 Lib.Math.min.name Lib.Math.min.code := ⟨z_lw (i := 354) (by decide +kernel) (by decide +kernel), z_lw (i := 355) (by decide +kernel) (by decide +kernel), z_lw (i := 63) (by decide +kernel) (by decide +kernel), z_lw (i := 356) (by decide +kernel) (by decide +kernel)⟩
theorem zmm_X7_25 : z_MM RX7 25 Lib.Math.max.name Lib.Math.max.code := ⟨z_lw (i := 357) (by decide +kernel) (by decide +kernel), z_lw (i := 358) (by decide +kernel) (by decide +kernel), z_lw (i := 63) (by decide +kernel) (by decide +kernel), z_lw (i := 359) (by decide +kernel) (by decide +kernel)⟩
theorem zcp_X7_28 : z_CP RX7 28 := ⟨z_lw (i := 360) (by decide +kernel) (by decide +kernel), z_lw (i := 362) (by decide +kernel) (by decide +kernel), z_lw (i := 361) (by decide +kernel) (by decide +kernel), z_lw (i := 64) (by decide +kernel) (by decide +kernel)⟩
theorem zf_X3_20 : z_F RX3 20 3 1 := ⟨RX3, TX3, rfl, by decide, z_lw (i := 106) (by decide +kernel) (by decide +kernel), inX3, rfl, tyX3_ok, nmX3, rfl⟩
theorem zv_X3_32 : z_V RX3 32 RX7 yX7_copyFrom cX7_copyFrom 5 none 2 := ⟨z_ins [350, 351, 352, 52, 353] (by decide +kernel) (by decide +kernel), rfl, by decide +kernel, by decide +kernel, by decide +kernel⟩
theorem zf_X4_18 : z_F RX4 18 4 2 := ⟨RX4, TX4, rfl, by decide, z_lw (i := 120) (by decide +kernel) (by decide +kernel), inX4, rfl, tyX4_ok, nmX4, rfl⟩
theorem zf_X2_128 : z_F RX2 128 0 0 := ⟨RX0, TX0, rfl, by decide, z_lw (i := 138) (by decide +kernel) (by decide +kernel), inX0, rfl, tyX0_ok, nmX0, rfl⟩
theorem zmm_X2_135 : z_MM RX2 135 Lib.Math.min.name Lib.Math.min.code := ⟨z_lw (i := 375) (by decide +kernel) (by decide +kernel), z_lw (i := 355) (by decide +kernel) (by decide +kernel), z_lw (i := 63) (by decide +kernel) (by decide +kernel), z_lw (i := 356) (by decide +kernel) (by decide +kernel)⟩
theorem zf_X2_61 : z_F RX2 61 2 5 := ⟨RX2, TX2, rfl, by decide, z_lw (i := 246) (by decide +kernel) (by decide +kernel), inX2, rfl, tyX2_ok, nmX2, rfl⟩
theorem zf_X6_9 : z_F RX6 9 6 0 := ⟨RX6, TX6, rfl, by decide, z_lw (i := 187) (by decide +kernel) (by decide +kernel), inX6, rfl, tyX6_ok, nmX6, rfl⟩
theorem zf_X6_15 : z_F RX6 15 6 1 := ⟨RX6, TX6, rfl, by decide, z_lw (i := 192) (by decide +kernel) (by decide +kernel), inX6, rfl, tyX6_ok, nmX6, rfl⟩
theorem zf_X6_19 : z_F RX6 19 6 2 := ⟨RX6, TX6, rfl, by decide, z_lw (i := 196) (by decide +kernel) (by decide +kernel), inX6, rfl, tyX6_ok, nmX6, rfl⟩
theorem zf_X6_22 : z_F RX6 22 6 3 := ⟨RX6, TX6, rfl, by decide, z_lw (i := 199) (by decide +kernel) (by decide +kernel), inX6, rfl, tyX6_ok, nmX6, rfl⟩
theorem zf_X6_25 : z_F RX6 25 6 4 := ⟨RX6, TX6, rfl, by decide, z_lw (i := 201) (by decide +kernel) (by decide +kernel), inX6, rfl, tyX6_ok, nmX6, rfl⟩
theorem zf_X6_28 : z_F RX6 28 6 5 := ⟨RX6, TX6, rfl, by decide, z_lw (i := 203) (by decide +kernel) (by decide +kernel), inX6, rfl, tyX6_ok, nmX6, rfl⟩
theorem zf_X6_31 : z_F RX6 31 6 6 := ⟨RX6, TX6, rfl, by decide, z_lw (i := 207) (by decide +kernel) (by decide +kernel), inX6, rfl, tyX6_ok, nmX6, rfl⟩
theorem zf_X6_34 : z_F RX6 34 6 7 := ⟨RX6, TX6, rfl, by decide, z_lw (i := 212) (by decide +kernel) (by decide +kernel), inX6, rfl, tyX6_ok, nmX6, rfl⟩
theorem zf_X6_37 : z_F RX6 37 6 8 := ⟨RX6, TX6, rfl, by decide, z_lw (i := 214) (by decide +kernel) (by decide +kernel), inX6, rfl, tyX6_ok, nmX6, rfl⟩
theorem zv_X2_96 : z_V RX2 96 RX2 yX2_stationIn cX2_stationIn 2 (some (.object "TokenBus$Station")) 1 := ⟨z_ins [381, 382, 383, 50, 384] (by decide +kernel) (by decide +kernel), rfl, by decide +kernel, by decide +kernel, by decide +kernel⟩
theorem zv_X2_100 : z_V RX2 100 RX6 yX6_copyFrom cX6_copyFrom 2 none 1 := ⟨z_ins [385, 386, 387, 55, 388] (by decide +kernel) (by decide +kernel), rfl, by decide +kernel, by decide +kernel, by decide +kernel⟩
theorem zv_X2_72 : z_V RX2 72 RX2 yX2_takeTimes cX2_takeTimes 2 none 1 := ⟨z_ins [342, 343, 344, 50, 345] (by decide +kernel) (by decide +kernel), rfl, by decide +kernel, by decide +kernel, by decide +kernel⟩
theorem zf_X2_69 : z_F RX2 69 2 9 := ⟨RX2, TX2, rfl, by decide, z_lw (i := 259) (by decide +kernel) (by decide +kernel), inX2, rfl, tyX2_ok, nmX2, rfl⟩
theorem zv_X2_76 : z_V RX2 76 RX3 yX3_copyFrom cX3_copyFrom 2 none 1 := ⟨z_ins [346, 347, 348, 51, 349] (by decide +kernel) (by decide +kernel), rfl, by decide +kernel, by decide +kernel, by decide +kernel⟩
theorem zv_X2_80 : z_V RX2 80 RX4 yX4_copyFrom cX4_copyFrom 3 none 1 := ⟨z_ins [363, 364, 365, 53, 366] (by decide +kernel) (by decide +kernel), rfl, by decide +kernel, by decide +kernel, by decide +kernel⟩
theorem zv_X2_83 : z_V RX2 83 RX0 yX0_copyFrom cX0_copyFrom 2 none 1 := ⟨z_ins [367, 368, 369, 54, 370] (by decide +kernel) (by decide +kernel), rfl, by decide +kernel, by decide +kernel, by decide +kernel⟩
theorem zv_X2_86 : z_V RX2 86 RX2 yX2_logLength cX2_logLength 1 (some .int) 0 := ⟨z_ins [371, 372, 373, 50, 374] (by decide +kernel) (by decide +kernel), rfl, by decide +kernel, by decide +kernel, by decide +kernel⟩
theorem zv_X2_90 : z_V RX2 90 RX7 yX7_copyFrom cX7_copyFrom 5 none 2 := ⟨z_ins [376, 351, 352, 52, 353] (by decide +kernel) (by decide +kernel), rfl, by decide +kernel, by decide +kernel, by decide +kernel⟩
theorem zv_X2_93 : z_V RX2 93 RX2 yX2_copyStations cX2_copyStations 5 none 1 := ⟨z_ins [377, 379, 2, 50, 380] (by decide +kernel) (by decide +kernel), rfl, by decide +kernel, by decide +kernel, by decide +kernel⟩
theorem zv_X1_29 : z_V RX1 29 RX2 yX2_copyFrom cX2_copyFrom 2 none 1 := ⟨z_ins [338, 339, 340, 50, 341] (by decide +kernel) (by decide +kernel), rfl, by decide +kernel, by decide +kernel, by decide +kernel⟩
theorem zv_X1_22 : z_V RX1 22 RX1 yX1_dropOldest cX1_dropOldest 3 none 0 := ⟨z_ins [330, 332, 0, 56, 333] (by decide +kernel) (by decide +kernel), rfl, by decide +kernel, by decide +kernel, by decide +kernel⟩
theorem zv_X2_64 : z_V RX2 64 RX3 yX3_clear cX3_clear 1 none 0 := ⟨z_ins [418, 419, 420, 51, 421] (by decide +kernel) (by decide +kernel), rfl, by decide +kernel, by decide +kernel, by decide +kernel⟩
theorem zv_X2_67 : z_V RX2 67 RX4 yX4_clear cX4_clear 1 none 0 := ⟨z_ins [422, 423, 424, 53, 425] (by decide +kernel) (by decide +kernel), rfl, by decide +kernel, by decide +kernel, by decide +kernel⟩
theorem zv_X2_68 : z_V RX2 68 RX0 yX0_clear cX0_clear 1 none 0 := ⟨z_ins [426, 427, 428, 54, 429] (by decide +kernel) (by decide +kernel), rfl, by decide +kernel, by decide +kernel, by decide +kernel⟩
theorem zk_X2_103 : Cond.constant RX2 103 (900000 : Int32) ∈ zWS := z_lw (i := 766) (by decide +kernel) (by decide +kernel)
theorem zf_X2_104 : z_F RX2 104 6 0 := ⟨RX6, TX6, rfl, by decide, z_lw (i := 189) (by decide +kernel) (by decide +kernel), inX6, rfl, tyX6_ok, nmX6, rfl⟩
theorem zv_X2_107 : z_V RX2 107 RX6 yX6_reset cX6_reset 2 none 1 := ⟨z_ins [507, 508, 509, 55, 510] (by decide +kernel) (by decide +kernel), rfl, by decide +kernel, by decide +kernel, by decide +kernel⟩
theorem zf_X2_111 : z_F RX2 111 6 1 := ⟨RX6, TX6, rfl, by decide, z_lw (i := 195) (by decide +kernel) (by decide +kernel), inX6, rfl, tyX6_ok, nmX6, rfl⟩
theorem zf_X2_115 : z_F RX2 115 6 2 := ⟨RX6, TX6, rfl, by decide, z_lw (i := 198) (by decide +kernel) (by decide +kernel), inX6, rfl, tyX6_ok, nmX6, rfl⟩
theorem zf_X2_118 : z_F RX2 118 6 6 := ⟨RX6, TX6, rfl, by decide, z_lw (i := 211) (by decide +kernel) (by decide +kernel), inX6, rfl, tyX6_ok, nmX6, rfl⟩
theorem zv_X2_121 : z_V RX2 121 RX4 yX4_touch cX4_touch 4 (some .boolean) 2 := ⟨z_ins [802, 803, 804, 53, 805] (by decide +kernel) (by decide +kernel), rfl, by decide +kernel, by decide +kernel, by decide +kernel⟩
theorem zf_X2_125 : z_F RX2 125 0 2 := ⟨RX0, TX0, rfl, by decide, z_lw (i := 142) (by decide +kernel) (by decide +kernel), inX0, rfl, tyX0_ok, nmX0, rfl⟩
theorem zv_X2_131 : z_V RX2 131 RX7 yX7_put cX7_put 5 none 3 := ⟨z_ins [840, 521, 522, 52, 523] (by decide +kernel) (by decide +kernel), rfl, by decide +kernel, by decide +kernel, by decide +kernel⟩
theorem zv_X2_141 : z_V RX2 141 RX7 yX7_at cX7_at 4 (some .int) 2 := ⟨z_ins [588, 529, 530, 52, 531] (by decide +kernel) (by decide +kernel), rfl, by decide +kernel, by decide +kernel, by decide +kernel⟩
theorem zv_X2_144 : z_V RX2 144 RX2 yX2_ringSize cX2_ringSize 4 (some .int) 0 := ⟨z_ins [554, 555, 556, 50, 557] (by decide +kernel) (by decide +kernel), rfl, by decide +kernel, by decide +kernel, by decide +kernel⟩
theorem zf_X2_147 : z_F RX2 147 4 2 := ⟨RX4, TX4, rfl, by decide, z_lw (i := 122) (by decide +kernel) (by decide +kernel), inX4, rfl, tyX4_ok, nmX4, rfl⟩
theorem zv_X2_150 : z_V RX2 150 RX3 yX3_number cX3_number 1 (some .int) 0 := ⟨z_ins [558, 559, 560, 51, 561] (by decide +kernel) (by decide +kernel), rfl, by decide +kernel, by decide +kernel, by decide +kernel⟩
theorem zk_X9_282 : Cond.constantLong RX9 282 (31 : Int64) ∈ zWS := z_lw (i := 545) (by decide +kernel) (by decide +kernel)
theorem zv_X3_24 : z_V RX3 24 RX7 yX7_at cX7_at 4 (some .int) 2 := ⟨z_ins [528, 529, 530, 52, 531] (by decide +kernel) (by decide +kernel), rfl, by decide +kernel, by decide +kernel, by decide +kernel⟩
theorem zv_X2_156 : z_SN RX2 156 yX9_mixed "TokenBus" cX9_mixed 4 (some .long) 2 := ⟨by decide +kernel, z_ins [543, 49, 544] (by decide +kernel) (by decide +kernel), by decide +kernel, by decide +kernel, by decide +kernel⟩
theorem zf_X2_177 : z_F RX2 177 6 5 := ⟨RX6, TX6, rfl, by decide, z_lw (i := 206) (by decide +kernel) (by decide +kernel), inX6, rfl, tyX6_ok, nmX6, rfl⟩
theorem zv_X2_180 : z_V RX2 180 RX3 yX3_follower cX3_follower 2 (some .int) 1 := ⟨z_ins [571, 533, 534, 51, 535] (by decide +kernel) (by decide +kernel), rfl, by decide +kernel, by decide +kernel, by decide +kernel⟩
theorem zv_X2_176 : z_V RX2 176 RX6 yX6_value cX6_value 2 (some .int) 1 := ⟨z_ins [567, 568, 569, 55, 570] (by decide +kernel) (by decide +kernel), rfl, by decide +kernel, by decide +kernel, by decide +kernel⟩
theorem zv_X2_183 : z_V RX2 183 RX2 yX2_logValue cX2_logValue 4 (some .int) 2 := ⟨z_ins [584, 585, 586, 50, 587] (by decide +kernel) (by decide +kernel), rfl, by decide +kernel, by decide +kernel, by decide +kernel⟩
theorem zf_X2_169 : z_F RX2 169 0 7 := ⟨RX0, TX0, rfl, by decide, z_lw (i := 154) (by decide +kernel) (by decide +kernel), inX0, rfl, tyX0_ok, nmX0, rfl⟩
theorem zv_X2_172 : z_V RX2 172 RX2 yX2_withLog cX2_withLog 8 (some .long) 1 := ⟨z_ins [580, 582, 13, 50, 583] (by decide +kernel) (by decide +kernel), rfl, by decide +kernel, by decide +kernel, by decide +kernel⟩
theorem zv_X2_167 : z_V RX2 167 RX0 yX0_value cX0_value 2 (some .int) 1 := ⟨z_ins [576, 577, 578, 54, 579] (by decide +kernel) (by decide +kernel), rfl, by decide +kernel, by decide +kernel, by decide +kernel⟩
theorem zv_X2_164 : z_V RX2 164 RX3 yX3_value cX3_value 3 (some .int) 2 := ⟨z_ins [572, 573, 574, 51, 575] (by decide +kernel) (by decide +kernel), rfl, by decide +kernel, by decide +kernel, by decide +kernel⟩
theorem zv_X2_160 : z_V RX2 160 RX2 yX2_withStation cX2_withStation 8 (some .long) 2 := ⟨z_ins [563, 565, 12, 50, 566] (by decide +kernel) (by decide +kernel), rfl, by decide +kernel, by decide +kernel, by decide +kernel⟩
theorem zv_X2_152 : z_V RX2 152 RX2 yX2_settingValue cX2_settingValue 2 (some .int) 1 := ⟨z_ins [550, 551, 552, 50, 553] (by decide +kernel) (by decide +kernel), rfl, by decide +kernel, by decide +kernel, by decide +kernel⟩
theorem zv_X3_28 : z_V RX3 28 RX3 yX3_has cX3_has 2 (some .boolean) 1 := ⟨z_ins [790, 791, 792, 51, 793] (by decide +kernel) (by decide +kernel), rfl, by decide +kernel, by decide +kernel, by decide +kernel⟩
theorem zf_X3_49 : z_F RX3 49 6 5 := ⟨RX6, TX6, rfl, by decide, z_lw (i := 205) (by decide +kernel) (by decide +kernel), inX6, rfl, tyX6_ok, nmX6, rfl⟩
theorem zf_X3_52 : z_F RX3 52 6 6 := ⟨RX6, TX6, rfl, by decide, z_lw (i := 209) (by decide +kernel) (by decide +kernel), inX6, rfl, tyX6_ok, nmX6, rfl⟩
theorem zv_X3_36 : z_V RX3 36 RX7 yX7_put cX7_put 5 none 3 := ⟨z_ins [520, 521, 522, 52, 523] (by decide +kernel) (by decide +kernel), rfl, by decide +kernel, by decide +kernel, by decide +kernel⟩
theorem zv_X3_55 : z_V RX3 55 RX3 yX3_follower cX3_follower 2 (some .int) 1 := ⟨z_ins [532, 533, 534, 51, 535] (by decide +kernel) (by decide +kernel), rfl, by decide +kernel, by decide +kernel, by decide +kernel⟩
theorem zf_X3_40 : z_F RX3 40 6 0 := ⟨RX6, TX6, rfl, by decide, z_lw (i := 190) (by decide +kernel) (by decide +kernel), inX6, rfl, tyX6_ok, nmX6, rfl⟩
theorem zv_X3_45 : z_V RX3 45 RX3 yX3_enqueue cX3_enqueue 7 none 3 := ⟨z_ins [524, 526, 11, 51, 527] (by decide +kernel) (by decide +kernel), rfl, by decide +kernel, by decide +kernel, by decide +kernel⟩
theorem zoi_X5_3 : Cond.methodLink RX5 3 Lib.objectInit ∈ zWS := z_lw (i := 436) (by decide +kernel) (by decide +kernel)
theorem zf_X5_9 : z_F RX5 9 5 5 := ⟨RX5, TX5, rfl, by decide, z_lw (i := 442) (by decide +kernel) (by decide +kernel), inX5, rfl, tyX5_ok, nmX5, rfl⟩
theorem zf_X5_15 : z_FF RX5 15 5 0 := ⟨RX5, TX5, rfl, by decide, z_lw (i := 437) (by decide +kernel) (by decide +kernel), inX5, rfl, tyX5_ok, nmX5, rfl⟩
theorem zf_X5_19 : z_FF RX5 19 5 1 := ⟨RX5, TX5, rfl, by decide, z_lw (i := 438) (by decide +kernel) (by decide +kernel), inX5, rfl, tyX5_ok, nmX5, rfl⟩
theorem zf_X5_22 : z_FF RX5 22 5 2 := ⟨RX5, TX5, rfl, by decide, z_lw (i := 439) (by decide +kernel) (by decide +kernel), inX5, rfl, tyX5_ok, nmX5, rfl⟩
theorem zf_X5_26 : z_F RX5 26 5 3 := ⟨RX5, TX5, rfl, by decide, z_lw (i := 440) (by decide +kernel) (by decide +kernel), inX5, rfl, tyX5_ok, nmX5, rfl⟩
theorem zv_X5_33 : z_V RX5 33 RX5 yX5_sign cX5_sign 1 (some .int) 0 := ⟨z_ins [465, 467, 4, 68, 468] (by decide +kernel) (by decide +kernel), rfl, by decide +kernel, by decide +kernel, by decide +kernel⟩
theorem zv_X5_76 : z_V RX5 76 RX5 yX5_digit cX5_digit 2 (some .int) 0 := ⟨z_ins [481, 483, 7, 68, 484] (by decide +kernel) (by decide +kernel), rfl, by decide +kernel, by decide +kernel, by decide +kernel⟩
theorem zv_X5_52 : z_V RX5 52 RX5 yX5_failsAt cX5_failsAt 2 (some .boolean) 1 := ⟨z_ins [485, 487, 8, 68, 488] (by decide +kernel) (by decide +kernel), rfl, by decide +kernel, by decide +kernel, by decide +kernel⟩
theorem zv_X9_80 : z_SS RX9 80 yX9_isWithin cX9_isWithin 3 (some .boolean) 3 := ⟨z_ins [492, 493, 49, 494] (by decide +kernel) (by decide +kernel), by decide +kernel, by decide +kernel, by decide +kernel⟩
theorem zv_X5_56 : z_V RX5 56 RX5 yX5_readNumber cX5_readNumber 3 (some .int) 0 := ⟨z_ins [477, 479, 6, 68, 480] (by decide +kernel) (by decide +kernel), rfl, by decide +kernel, by decide +kernel, by decide +kernel⟩
theorem zv_X5_59 : z_SN RX5 59 yX9_isAddress "TokenBus" cX9_isAddress 1 (some .boolean) 1 := ⟨by decide +kernel, z_ins [490, 49, 491] (by decide +kernel) (by decide +kernel), by decide +kernel, by decide +kernel, by decide +kernel⟩
theorem zv_X5_62 : z_V RX5 62 RX2 yX2_stationWith cX2_stationWith 4 (some (.object "TokenBus$Station")) 1 := ⟨z_ins [495, 496, 497, 50, 498] (by decide +kernel) (by decide +kernel), rfl, by decide +kernel, by decide +kernel, by decide +kernel⟩
theorem zv_X5_66 : z_V RX5 66 RX5 yX5_skips cX5_skips 2 (some .boolean) 1 := ⟨z_ins [499, 501, 9, 68, 502] (by decide +kernel) (by decide +kernel), rfl, by decide +kernel, by decide +kernel, by decide +kernel⟩
theorem zv_X5_69 : z_V RX5 69 RX2 yX2_placeStation cX2_placeStation 5 (some (.object "TokenBus$Station")) 1 := ⟨z_ins [503, 504, 505, 50, 506] (by decide +kernel) (by decide +kernel), rfl, by decide +kernel, by decide +kernel, by decide +kernel⟩
theorem zf_X5_45 : z_F RX5 45 5 4 := ⟨RX5, TX5, rfl, by decide, z_lw (i := 441) (by decide +kernel) (by decide +kernel), inX5, rfl, tyX5_ok, nmX5, rfl⟩
theorem zv_X5_72 : z_SN RX5 72 yX9_isWithin "TokenBus" cX9_isWithin 3 (some .boolean) 3 := ⟨by decide +kernel, z_ins [493, 49, 494] (by decide +kernel) (by decide +kernel), by decide +kernel, by decide +kernel, by decide +kernel⟩
theorem zf_X5_79 : z_FF RX5 79 2 1 := ⟨RX2, TX2, rfl, by decide, z_lw (i := 238) (by decide +kernel) (by decide +kernel), inX2, rfl, tyX2_ok, nmX2, rfl⟩
theorem zf_X5_83 : z_F RX5 83 2 9 := ⟨RX2, TX2, rfl, by decide, z_lw (i := 261) (by decide +kernel) (by decide +kernel), inX2, rfl, tyX2_ok, nmX2, rfl⟩
theorem zv_X5_86 : z_V RX5 86 RX3 yX3_add cX3_add 6 (some .int) 4 := ⟨z_ins [516, 517, 518, 51, 519] (by decide +kernel) (by decide +kernel), rfl, by decide +kernel, by decide +kernel, by decide +kernel⟩
theorem zv_X5_49 : z_V RX5 49 RX5 yX5_readMessage cX5_readMessage 4 (some .boolean) 0 := ⟨z_ins [511, 513, 10, 68, 514] (by decide +kernel) (by decide +kernel), rfl, by decide +kernel, by decide +kernel, by decide +kernel⟩
theorem zv_X5_37 : z_V RX5 37 RX2 yX2_isFull cX2_isFull 1 (some .boolean) 0 := ⟨z_ins [469, 470, 471, 50, 472] (by decide +kernel) (by decide +kernel), rfl, by decide +kernel, by decide +kernel, by decide +kernel⟩
theorem zv_X5_42 : z_V RX5 42 RX5 yX5_readStation cX5_readStation 3 (some .boolean) 0 := ⟨z_ins [473, 475, 5, 68, 476] (by decide +kernel) (by decide +kernel), rfl, by decide +kernel, by decide +kernel, by decide +kernel⟩
theorem zv_X5_29 : z_V RX5 29 RX5 yX5_readItem cX5_readItem 2 (some .boolean) 0 := ⟨z_ins [461, 463, 3, 68, 464] (by decide +kernel) (by decide +kernel), rfl, by decide +kernel, by decide +kernel, by decide +kernel⟩
theorem zf_X8_85 : z_F RX8 85 2 5 := ⟨RX2, TX2, rfl, by decide, z_lw (i := 248) (by decide +kernel) (by decide +kernel), inX2, rfl, tyX2_ok, nmX2, rfl⟩
theorem zv_X8_88 : z_V RX8 88 RX2 yX2_stationIn cX2_stationIn 2 (some (.object "TokenBus$Station")) 1 := ⟨z_ins [778, 382, 383, 50, 384] (by decide +kernel) (by decide +kernel), rfl, by decide +kernel, by decide +kernel, by decide +kernel⟩
theorem zf_X8_91 : z_F RX8 91 6 1 := ⟨RX6, TX6, rfl, by decide, z_lw (i := 194) (by decide +kernel) (by decide +kernel), inX6, rfl, tyX6_ok, nmX6, rfl⟩
theorem zf_X8_69 : z_F RX8 69 6 2 := ⟨RX6, TX6, rfl, by decide, z_lw (i := 197) (by decide +kernel) (by decide +kernel), inX6, rfl, tyX6_ok, nmX6, rfl⟩
theorem zv_X8_62 : z_SS RX8 62 yX8_lowest cX8_lowest 4 (some (.object "TokenBus$Station")) 2 := ⟨z_ins [775, 776, 66, 777] (by decide +kernel) (by decide +kernel), by decide +kernel, by decide +kernel, by decide +kernel⟩
theorem zf_X8_25 : z_F RX8 25 2 9 := ⟨RX2, TX2, rfl, by decide, z_lw (i := 258) (by decide +kernel) (by decide +kernel), inX2, rfl, tyX2_ok, nmX2, rfl⟩
theorem zf_X8_66 : z_F RX8 66 2 7 := ⟨RX2, TX2, rfl, by decide, z_lw (i := 253) (by decide +kernel) (by decide +kernel), inX2, rfl, tyX2_ok, nmX2, rfl⟩
theorem zf_X8_53 : z_F RX8 53 6 0 := ⟨RX6, TX6, rfl, by decide, z_lw (i := 188) (by decide +kernel) (by decide +kernel), inX6, rfl, tyX6_ok, nmX6, rfl⟩
theorem zf_X8_9 : z_F RX8 9 2 10 := ⟨RX2, TX2, rfl, by decide, z_lw (i := 263) (by decide +kernel) (by decide +kernel), inX2, rfl, tyX2_ok, nmX2, rfl⟩
theorem zf_X8_76 : z_FF RX8 76 2 3 := ⟨RX2, TX2, rfl, by decide, z_lw (i := 243) (by decide +kernel) (by decide +kernel), inX2, rfl, tyX2_ok, nmX2, rfl⟩
theorem zf_X8_80 : z_F RX8 80 0 3 := ⟨RX0, TX0, rfl, by decide, z_lw (i := 144) (by decide +kernel) (by decide +kernel), inX0, rfl, tyX0_ok, nmX0, rfl⟩
theorem zf_X8_73 : z_F RX8 73 6 3 := ⟨RX6, TX6, rfl, by decide, z_lw (i := 200) (by decide +kernel) (by decide +kernel), inX6, rfl, tyX6_ok, nmX6, rfl⟩
theorem zf_X8_94 : z_F RX8 94 6 8 := ⟨RX6, TX6, rfl, by decide, z_lw (i := 215) (by decide +kernel) (by decide +kernel), inX6, rfl, tyX6_ok, nmX6, rfl⟩
theorem zf_X8_97 : z_F RX8 97 6 7 := ⟨RX6, TX6, rfl, by decide, z_lw (i := 213) (by decide +kernel) (by decide +kernel), inX6, rfl, tyX6_ok, nmX6, rfl⟩
theorem zf_X8_100 : z_F RX8 100 0 0 := ⟨RX0, TX0, rfl, by decide, z_lw (i := 137) (by decide +kernel) (by decide +kernel), inX0, rfl, tyX0_ok, nmX0, rfl⟩
theorem zf_X8_101 : z_F RX8 101 0 7 := ⟨RX0, TX0, rfl, by decide, z_lw (i := 152) (by decide +kernel) (by decide +kernel), inX0, rfl, tyX0_ok, nmX0, rfl⟩
theorem zmm_X8_104 : z_MM RX8 104 Lib.Math.max.name Lib.Math.max.code := ⟨z_lw (i := 782) (by decide +kernel) (by decide +kernel), z_lw (i := 358) (by decide +kernel) (by decide +kernel), z_lw (i := 63) (by decide +kernel) (by decide +kernel), z_lw (i := 359) (by decide +kernel) (by decide +kernel)⟩
theorem zf_X8_110 : z_FF RX8 110 2 1 := ⟨RX2, TX2, rfl, by decide, z_lw (i := 239) (by decide +kernel) (by decide +kernel), inX2, rfl, tyX2_ok, nmX2, rfl⟩
theorem zf_X8_114 : z_F RX8 114 6 5 := ⟨RX6, TX6, rfl, by decide, z_lw (i := 204) (by decide +kernel) (by decide +kernel), inX6, rfl, tyX6_ok, nmX6, rfl⟩
theorem zv_X8_129 : z_V RX8 129 RX3 yX3_value cX3_value 3 (some .int) 2 := ⟨z_ins [797, 573, 574, 51, 575] (by decide +kernel) (by decide +kernel), rfl, by decide +kernel, by decide +kernel, by decide +kernel⟩
theorem zv_X8_132 : z_V RX8 132 RX2 yX2_transmit cX2_transmit 3 (some .boolean) 1 := ⟨z_ins [798, 799, 800, 50, 801] (by decide +kernel) (by decide +kernel), rfl, by decide +kernel, by decide +kernel, by decide +kernel⟩
theorem zv_X8_135 : z_V RX8 135 RX3 yX3_takeFirst cX3_takeFirst 5 (some .int) 2 := ⟨z_ins [806, 807, 808, 51, 809] (by decide +kernel) (by decide +kernel), rfl, by decide +kernel, by decide +kernel, by decide +kernel⟩
theorem zv_X8_139 : z_V RX8 139 RX0 yX0_addSent cX0_addSent 3 none 2 := ⟨z_ins [810, 811, 812, 54, 813] (by decide +kernel) (by decide +kernel), rfl, by decide +kernel, by decide +kernel, by decide +kernel⟩
theorem zv_X8_117 : z_V RX8 117 RX3 yX3_isUrgent cX3_isUrgent 2 (some .boolean) 1 := ⟨z_ins [786, 787, 788, 51, 789] (by decide +kernel) (by decide +kernel), rfl, by decide +kernel, by decide +kernel, by decide +kernel⟩
theorem zf_X8_123 : z_F RX8 123 6 6 := ⟨RX6, TX6, rfl, by decide, z_lw (i := 208) (by decide +kernel) (by decide +kernel), inX6, rfl, tyX6_ok, nmX6, rfl⟩
theorem zv_X8_126 : z_SS RX8 126 yX8_sendFirst cX8_sendFirst 4 (some .boolean) 2 := ⟨z_ins [794, 795, 66, 796] (by decide +kernel) (by decide +kernel), by decide +kernel, by decide +kernel, by decide +kernel⟩
theorem zf_X8_146 : z_F RX8 146 6 4 := ⟨RX6, TX6, rfl, by decide, z_lw (i := 202) (by decide +kernel) (by decide +kernel), inX6, rfl, tyX6_ok, nmX6, rfl⟩
theorem zf_X8_156 : z_F RX8 156 0 4 := ⟨RX0, TX0, rfl, by decide, z_lw (i := 146) (by decide +kernel) (by decide +kernel), inX0, rfl, tyX0_ok, nmX0, rfl⟩
theorem zv_X8_15 : z_V RX8 15 RX2 yX2_stationWith cX2_stationWith 4 (some (.object "TokenBus$Station")) 1 := ⟨z_ins [771, 496, 497, 50, 498] (by decide +kernel) (by decide +kernel), rfl, by decide +kernel, by decide +kernel, by decide +kernel⟩
theorem zf_X8_143 : z_F RX8 143 2 8 := ⟨RX2, TX2, rfl, by decide, z_lw (i := 257) (by decide +kernel) (by decide +kernel), inX2, rfl, tyX2_ok, nmX2, rfl⟩
theorem zv_X8_149 : z_SN RX8 149 yX9_addressBehind "TokenBus" cX9_addressBehind 1 (some .int) 1 := ⟨by decide +kernel, z_ins [819, 49, 820] (by decide +kernel) (by decide +kernel), by decide +kernel, by decide +kernel, by decide +kernel⟩
theorem zv_X8_153 : z_SS RX8 153 yX8_comesIn cX8_comesIn 3 (some .boolean) 2 := ⟨z_ins [821, 822, 66, 823] (by decide +kernel) (by decide +kernel), by decide +kernel, by decide +kernel, by decide +kernel⟩
theorem zv_X8_159 : z_SS RX8 159 yX8_reaches cX8_reaches 3 (some .boolean) 2 := ⟨z_ins [827, 828, 66, 829] (by decide +kernel) (by decide +kernel), by decide +kernel, by decide +kernel, by decide +kernel⟩
theorem zf_X8_163 : z_F RX8 163 0 5 := ⟨RX0, TX0, rfl, by decide, z_lw (i := 148) (by decide +kernel) (by decide +kernel), inX0, rfl, tyX0_ok, nmX0, rfl⟩
theorem zv_X8_19 : z_SS RX8 19 yX8_makeAnew cX8_makeAnew 2 (some (.object "TokenBus$Station")) 1 := ⟨z_ins [772, 773, 66, 774] (by decide +kernel) (by decide +kernel), by decide +kernel, by decide +kernel, by decide +kernel⟩
theorem zv_X8_28 : z_SS RX8 28 yX8_beginVisit cX8_beginVisit 3 (some .int) 2 := ⟨z_ins [779, 780, 66, 781] (by decide +kernel) (by decide +kernel), by decide +kernel, by decide +kernel, by decide +kernel⟩
theorem zf_X8_32 : z_F RX8 32 2 6 := ⟨RX2, TX2, rfl, by decide, z_lw (i := 250) (by decide +kernel) (by decide +kernel), inX2, rfl, tyX2_ok, nmX2, rfl⟩
theorem zv_X8_35 : z_SS RX8 35 yX8_sendMessages cX8_sendMessages 6 (some .int) 3 := ⟨z_ins [783, 784, 66, 785] (by decide +kernel) (by decide +kernel), by decide +kernel, by decide +kernel, by decide +kernel⟩
theorem zv_X8_39 : z_SS RX8 39 yX8_pollGap cX8_pollGap 5 none 2 := ⟨z_ins [815, 816, 66, 817] (by decide +kernel) (by decide +kernel), by decide +kernel, by decide +kernel, by decide +kernel⟩
theorem zv_X8_43 : z_SS RX8 43 yX8_passToNext cX8_passToNext 3 (some .boolean) 2 := ⟨z_ins [824, 825, 66, 826] (by decide +kernel) (by decide +kernel), by decide +kernel, by decide +kernel, by decide +kernel⟩
theorem zv_X8_58 : z_V RX8 58 RX2 yX2_logVisit cX2_logVisit 6 none 4 := ⟨z_ins [836, 837, 838, 50, 839] (by decide +kernel) (by decide +kernel), rfl, by decide +kernel, by decide +kernel, by decide +kernel⟩
theorem zv_X8_47 : z_SS RX8 47 yX8_dropSilent cX8_dropSilent 3 none 2 := ⟨z_ins [830, 831, 66, 832] (by decide +kernel) (by decide +kernel), by decide +kernel, by decide +kernel, by decide +kernel⟩
theorem zv_X8_50 : z_SS RX8 50 yX8_askOthers cX8_askOthers 4 none 2 := ⟨z_ins [833, 834, 66, 835] (by decide +kernel) (by decide +kernel), by decide +kernel, by decide +kernel, by decide +kernel⟩
theorem zoi_X9_1 : Cond.methodLink RX9 1 Lib.objectInit ∈ zWS := z_lw (i := 74) (by decide +kernel) (by decide +kernel)
theorem zw_X9_7 : z_NW RX9 7 2 := ⟨RX2, TX2, rfl, tyX2_ok, inX2, z_lw (i := 77) (by decide +kernel) (by decide +kernel), z_lw (i := 78) (by decide +kernel) (by decide +kernel), z_lw (i := 50) (by decide +kernel) (by decide +kernel), by decide +kernel⟩
theorem zv_X9_9 : z_II RX9 9 yX2_init cX2_init 2 0 := ⟨z_ins [79, 80, 50, 81] (by decide +kernel) (by decide +kernel), rfl, by decide +kernel, by decide +kernel, by decide +kernel⟩
theorem zf_X9_10 : z_FF RX9 10 8 0 := ⟨RX9, TX9, rfl, by decide, z_lw (i := 305) (by decide +kernel) (by decide +kernel), inX9, rfl, tyX9_ok, nmX9, rfl⟩
theorem zf_X9_16 : z_FF RX9 16 8 1 := ⟨RX9, TX9, rfl, by decide, z_lw (i := 306) (by decide +kernel) (by decide +kernel), inX9, rfl, tyX9_ok, nmX9, rfl⟩
theorem zw_X9_19 : z_NW RX9 19 1 := ⟨RX1, TX1, rfl, tyX1_ok, inX1, z_lw (i := 288) (by decide +kernel) (by decide +kernel), z_lw (i := 289) (by decide +kernel) (by decide +kernel), z_lw (i := 56) (by decide +kernel) (by decide +kernel), by decide +kernel⟩
theorem zv_X9_21 : z_II RX9 21 yX1_init cX1_init 2 0 := ⟨z_ins [290, 291, 56, 292] (by decide +kernel) (by decide +kernel), rfl, by decide +kernel, by decide +kernel, by decide +kernel⟩
theorem zf_X9_22 : z_FF RX9 22 8 2 := ⟨RX9, TX9, rfl, by decide, z_lw (i := 307) (by decide +kernel) (by decide +kernel), inX9, rfl, tyX9_ok, nmX9, rfl⟩
theorem zac_byte : Cond.arrayClass (newarray.typeOf .byte) ∈ zWS := z_lw (i := 321) (by decide +kernel) (by decide +kernel)
theorem zf_X9_26 : z_FF RX9 26 8 3 := ⟨RX9, TX9, rfl, by decide, z_lw (i := 308) (by decide +kernel) (by decide +kernel), inX9, rfl, tyX9_ok, nmX9, rfl⟩
theorem zv_X9_30 : z_SS RX9 30 yX9_isAddress cX9_isAddress 1 (some .boolean) 1 := ⟨z_ins [598, 490, 49, 491] (by decide +kernel) (by decide +kernel), by decide +kernel, by decide +kernel, by decide +kernel⟩
theorem zv_X9_41 : z_V RX9 41 RX2 yX2_stationWith cX2_stationWith 4 (some (.object "TokenBus$Station")) 1 := ⟨z_ins [667, 496, 497, 50, 498] (by decide +kernel) (by decide +kernel), rfl, by decide +kernel, by decide +kernel, by decide +kernel⟩
theorem zv_X9_45 : z_V RX9 45 RX2 yX2_isFull cX2_isFull 1 (some .boolean) 0 := ⟨z_ins [668, 470, 471, 50, 472] (by decide +kernel) (by decide +kernel), rfl, by decide +kernel, by decide +kernel, by decide +kernel⟩
theorem zv_X9_54 : z_V RX9 54 RX1 yX1_save cX1_save 3 none 1 := ⟨z_ins [326, 327, 328, 56, 329] (by decide +kernel) (by decide +kernel), rfl, by decide +kernel, by decide +kernel, by decide +kernel⟩
theorem zv_X9_58 : z_V RX9 58 RX2 yX2_placeStation cX2_placeStation 5 (some (.object "TokenBus$Station")) 1 := ⟨z_ins [685, 504, 505, 50, 506] (by decide +kernel) (by decide +kernel), rfl, by decide +kernel, by decide +kernel, by decide +kernel⟩
theorem zf_X9_61 : z_F RX9 61 2 5 := ⟨RX2, TX2, rfl, by decide, z_lw (i := 247) (by decide +kernel) (by decide +kernel), inX2, rfl, tyX2_ok, nmX2, rfl⟩
theorem zk_X9_113 : Cond.constant RX9 113 (1000000 : Int32) ∈ zWS := z_lw (i := 743) (by decide +kernel) (by decide +kernel)
theorem zv_X9_133 : z_V RX9 133 RX2 yX2_isTooLate cX2_isTooLate 1 (some .boolean) 0 := ⟨z_ins [762, 763, 764, 50, 765] (by decide +kernel) (by decide +kernel), rfl, by decide +kernel, by decide +kernel, by decide +kernel⟩
theorem zf_X9_106 : z_F RX9 106 2 9 := ⟨RX2, TX2, rfl, by decide, z_lw (i := 260) (by decide +kernel) (by decide +kernel), inX2, rfl, tyX2_ok, nmX2, rfl⟩
theorem zv_X9_138 : z_SS RX9 138 yX8_makeVisit cX8_makeVisit 5 none 1 := ⟨z_ins [768, 769, 66, 770] (by decide +kernel) (by decide +kernel), by decide +kernel, by decide +kernel, by decide +kernel⟩
theorem zf_X9_143 : z_F RX9 143 2 10 := ⟨RX2, TX2, rfl, by decide, z_lw (i := 264) (by decide +kernel) (by decide +kernel), inX2, rfl, tyX2_ok, nmX2, rfl⟩
theorem zv_X9_148 : z_V RX9 148 RX2 yX2_settingValue cX2_settingValue 2 (some .int) 1 := ⟨z_ins [849, 551, 552, 50, 553] (by decide +kernel) (by decide +kernel), rfl, by decide +kernel, by decide +kernel, by decide +kernel⟩
theorem zv_X9_157 : z_V RX9 157 RX2 yX2_stationIn cX2_stationIn 2 (some (.object "TokenBus$Station")) 1 := ⟨z_ins [867, 382, 383, 50, 384] (by decide +kernel) (by decide +kernel), rfl, by decide +kernel, by decide +kernel, by decide +kernel⟩
theorem zf_X9_97 : z_FF RX9 97 2 1 := ⟨RX2, TX2, rfl, by decide, z_lw (i := 237) (by decide +kernel) (by decide +kernel), inX2, rfl, tyX2_ok, nmX2, rfl⟩
theorem zv_X9_177 : z_V RX9 177 RX3 yX3_has cX3_has 2 (some .boolean) 1 := ⟨z_ins [903, 791, 792, 51, 793] (by decide +kernel) (by decide +kernel), rfl, by decide +kernel, by decide +kernel, by decide +kernel⟩
theorem zv_X9_184 : z_V RX9 184 RX3 yX3_value cX3_value 3 (some .int) 2 := ⟨z_ins [906, 573, 574, 51, 575] (by decide +kernel) (by decide +kernel), rfl, by decide +kernel, by decide +kernel, by decide +kernel⟩
theorem zf_X9_191 : z_FF RX9 191 2 3 := ⟨RX2, TX2, rfl, by decide, z_lw (i := 244) (by decide +kernel) (by decide +kernel), inX2, rfl, tyX2_ok, nmX2, rfl⟩
theorem zv_X9_195 : z_V RX9 195 RX0 yX0_value cX0_value 2 (some .int) 1 := ⟨z_ins [915, 577, 578, 54, 579] (by decide +kernel) (by decide +kernel), rfl, by decide +kernel, by decide +kernel, by decide +kernel⟩
theorem zf_X9_116 : z_FF RX9 116 2 2 := ⟨RX2, TX2, rfl, by decide, z_lw (i := 241) (by decide +kernel) (by decide +kernel), inX2, rfl, tyX2_ok, nmX2, rfl⟩
theorem zv_X9_198 : z_V RX9 198 RX4 yX4_touch cX4_touch 4 (some .boolean) 2 := ⟨z_ins [924, 803, 804, 53, 805] (by decide +kernel) (by decide +kernel), rfl, by decide +kernel, by decide +kernel, by decide +kernel⟩
theorem zv_X9_202 : z_V RX9 202 RX2 yX2_logLength cX2_logLength 1 (some .int) 0 := ⟨z_ins [393, 372, 373, 50, 374] (by decide +kernel) (by decide +kernel), rfl, by decide +kernel, by decide +kernel, by decide +kernel⟩
theorem zv_X9_210 : z_V RX9 210 RX2 yX2_logValue cX2_logValue 4 (some .int) 2 := ⟨z_ins [934, 585, 586, 50, 587] (by decide +kernel) (by decide +kernel), rfl, by decide +kernel, by decide +kernel, by decide +kernel⟩
theorem zf_X9_213 : z_F RX9 213 0 7 := ⟨RX0, TX0, rfl, by decide, z_lw (i := 153) (by decide +kernel) (by decide +kernel), inX0, rfl, tyX0_ok, nmX0, rfl⟩
theorem zf_X9_216 : z_F RX9 216 0 1 := ⟨RX0, TX0, rfl, by decide, z_lw (i := 140) (by decide +kernel) (by decide +kernel), inX0, rfl, tyX0_ok, nmX0, rfl⟩
theorem zf_X9_222 : z_F RX9 222 0 9 := ⟨RX0, TX0, rfl, by decide, z_lw (i := 158) (by decide +kernel) (by decide +kernel), inX0, rfl, tyX0_ok, nmX0, rfl⟩
theorem zf_X9_219 : z_F RX9 219 0 8 := ⟨RX0, TX0, rfl, by decide, z_lw (i := 156) (by decide +kernel) (by decide +kernel), inX0, rfl, tyX0_ok, nmX0, rfl⟩
theorem zf_X9_226 : z_F RX9 226 0 6 := ⟨RX0, TX0, rfl, by decide, z_lw (i := 150) (by decide +kernel) (by decide +kernel), inX0, rfl, tyX0_ok, nmX0, rfl⟩
theorem zv_X9_231 : z_V RX9 231 RX2 yX2_copyFrom cX2_copyFrom 2 none 1 := ⟨z_ins [536, 339, 340, 50, 341] (by decide +kernel) (by decide +kernel), rfl, by decide +kernel, by decide +kernel, by decide +kernel⟩
theorem zv_X9_234 : z_V RX9 234 RX2 yX2_isComplete cX2_isComplete 3 (some .boolean) 0 := ⟨z_ins [950, 951, 952, 50, 953] (by decide +kernel) (by decide +kernel), rfl, by decide +kernel, by decide +kernel, by decide +kernel⟩
theorem zf_X9_86 : z_F RX9 86 2 6 := ⟨RX2, TX2, rfl, by decide, z_lw (i := 251) (by decide +kernel) (by decide +kernel), inX2, rfl, tyX2_ok, nmX2, rfl⟩
theorem zv_X9_284 : z_V RX9 284 RX2 yX2_isWaitedAt cX2_isWaitedAt 3 (some .boolean) 0 := ⟨z_ins [965, 966, 967, 50, 968] (by decide +kernel) (by decide +kernel), rfl, by decide +kernel, by decide +kernel, by decide +kernel⟩
theorem zv_X9_237 : z_V RX9 237 RX9 yX9_sendsAll cX9_sendsAll 4 (some .boolean) 2 := ⟨z_ins [961, 963, 15, 49, 964] (by decide +kernel) (by decide +kernel), rfl, by decide +kernel, by decide +kernel, by decide +kernel⟩
theorem zf_X9_242 : z_F RX9 242 8 4 := ⟨RX9, TX9, rfl, by decide, z_lw (i := 309) (by decide +kernel) (by decide +kernel), inX9, rfl, tyX9_ok, nmX9, rfl⟩
theorem zv_X9_247 : z_V RX9 247 RX2 yX2_clear cX2_clear 1 none 0 := ⟨z_ins [414, 415, 416, 50, 417] (by decide +kernel) (by decide +kernel), rfl, by decide +kernel, by decide +kernel, by decide +kernel⟩
theorem zv_X9_250 : z_V RX9 250 RX2 yX2_takeTimes cX2_takeTimes 2 none 1 := ⟨z_ins [430, 343, 344, 50, 345] (by decide +kernel) (by decide +kernel), rfl, by decide +kernel, by decide +kernel, by decide +kernel⟩
theorem zw_X9_253 : z_NW RX9 253 5 := ⟨RX5, TX5, rfl, tyX5_ok, inX5, z_lw (i := 431) (by decide +kernel) (by decide +kernel), z_lw (i := 432) (by decide +kernel) (by decide +kernel), z_lw (i := 68) (by decide +kernel) (by decide +kernel), by decide +kernel⟩
theorem zv_X9_255 : z_II RX9 255 yX5_init cX5_init 4 3 := ⟨z_ins [433, 434, 68, 435] (by decide +kernel) (by decide +kernel), rfl, by decide +kernel, by decide +kernel, by decide +kernel⟩
theorem zv_X9_258 : z_V RX9 258 RX5 yX5_readItems cX5_readItems 2 (some .int) 0 := ⟨z_ins [457, 458, 459, 68, 460] (by decide +kernel) (by decide +kernel), rfl, by decide +kernel, by decide +kernel, by decide +kernel⟩
theorem zf_X9_261 : z_F RX9 261 5 5 := ⟨RX5, TX5, rfl, by decide, z_lw (i := 443) (by decide +kernel) (by decide +kernel), inX5, rfl, tyX5_ok, nmX5, rfl⟩
theorem zf_X9_264 : z_F RX9 264 1 1 := ⟨RX1, TX1, rfl, by decide, z_lw (i := 299) (by decide +kernel) (by decide +kernel), inX1, rfl, tyX1_ok, nmX1, rfl⟩
theorem zv_X9_269 : z_V RX9 269 RX1 yX1_restore cX1_restore 3 none 1 := ⟨z_ins [986, 987, 988, 56, 989] (by decide +kernel) (by decide +kernel), rfl, by decide +kernel, by decide +kernel, by decide +kernel⟩
theorem zk_X9_272 : Cond.constantLong RX9 272 (3169 : Int64) ∈ zWS := z_lw (i := 541) (by decide +kernel) (by decide +kernel)
theorem zv_X9_274 : z_SS RX9 274 yX9_mixed cX9_mixed 4 (some .long) 2 := ⟨z_ins [542, 543, 49, 544] (by decide +kernel) (by decide +kernel), by decide +kernel, by decide +kernel, by decide +kernel⟩
theorem zv_X9_278 : z_V RX9 278 RX2 yX2_hashed cX2_hashed 7 (some .long) 1 := ⟨z_ins [546, 547, 548, 50, 549] (by decide +kernel) (by decide +kernel), rfl, by decide +kernel, by decide +kernel, by decide +kernel⟩
theorem zoi_X10_1 : Cond.methodLink RX10 1 Lib.objectInit ∈ zWS := z_lw (i := 995) (by decide +kernel) (by decide +kernel)
theorem zf_X10_7 : z_FF RX10 7 9 0 := ⟨RX10, TX10, rfl, by decide, z_lw (i := 996) (by decide +kernel) (by decide +kernel), inX10, rfl, tyX10_ok, nmX10, rfl⟩
theorem zf_X10_13 : z_FF RX10 13 9 1 := ⟨RX10, TX10, rfl, by decide, z_lw (i := 997) (by decide +kernel) (by decide +kernel), inX10, rfl, tyX10_ok, nmX10, rfl⟩
theorem zf_X10_16 : z_FF RX10 16 9 2 := ⟨RX10, TX10, rfl, by decide, z_lw (i := 998) (by decide +kernel) (by decide +kernel), inX10, rfl, tyX10_ok, nmX10, rfl⟩
theorem zf_X10_19 : z_FF RX10 19 9 5 := ⟨RX10, TX10, rfl, by decide, z_lw (i := 1001) (by decide +kernel) (by decide +kernel), inX10, rfl, tyX10_ok, nmX10, rfl⟩
theorem zf_X10_22 : z_F RX10 22 9 4 := ⟨RX10, TX10, rfl, by decide, z_lw (i := 1000) (by decide +kernel) (by decide +kernel), inX10, rfl, tyX10_ok, nmX10, rfl⟩
theorem zf_X10_26 : z_F RX10 26 9 3 := ⟨RX10, TX10, rfl, by decide, z_lw (i := 999) (by decide +kernel) (by decide +kernel), inX10, rfl, tyX10_ok, nmX10, rfl⟩
theorem zv_X10_29 : z_SS RX10 29 yX10_at cX10_at 2 (some .int) 2 := ⟨z_ins [1047, 1048, 57, 1049] (by decide +kernel) (by decide +kernel), by decide +kernel, by decide +kernel, by decide +kernel⟩
theorem zk_X10_33 : Cond.constantLong RX10 33 (31 : Int64) ∈ zWS := z_lw (i := 1035) (by decide +kernel) (by decide +kernel)
theorem zv_X10_35 : z_SS RX10 35 yX10_in cX10_in 6 (some .boolean) 3 := ⟨z_ins [1036, 1037, 57, 1038] (by decide +kernel) (by decide +kernel), by decide +kernel, by decide +kernel, by decide +kernel⟩
theorem zv_X10_39 : z_V RX10 39 RX10 yX10_of cX10_of 3 (some .int) 2 := ⟨z_ins [1043, 1045, 17, 57, 1046] (by decide +kernel) (by decide +kernel), rfl, by decide +kernel, by decide +kernel, by decide +kernel⟩
theorem zv_X10_42 : z_SS RX10 42 yX10_inMessage cX10_inMessage 2 (some .int) 2 := ⟨z_ins [1085, 1086, 57, 1087] (by decide +kernel) (by decide +kernel), by decide +kernel, by decide +kernel, by decide +kernel⟩
theorem zv_X10_53 : z_V RX10 53 RX10 yX10_goes cX10_goes 4 (some .boolean) 3 := ⟨z_ins [1054, 1056, 19, 57, 1057] (by decide +kernel) (by decide +kernel), rfl, by decide +kernel, by decide +kernel, by decide +kernel⟩
theorem zv_X10_57 : z_V RX10 57 RX10 yX10_save cX10_save 2 none 0 := ⟨z_ins [1058, 1060, 20, 57, 1061] (by decide +kernel) (by decide +kernel), rfl, by decide +kernel, by decide +kernel, by decide +kernel⟩
theorem zv_X10_60 : z_V RX10 60 RX10 yX10_adds cX10_adds 2 none 1 := ⟨z_ins [1062, 1064, 21, 57, 1065] (by decide +kernel) (by decide +kernel), rfl, by decide +kernel, by decide +kernel, by decide +kernel⟩
theorem zv_X10_49 : z_V RX10 49 RX10 yX10_stations cX10_stations 3 (some .int) 0 := ⟨z_ins [1050, 1052, 18, 57, 1053] (by decide +kernel) (by decide +kernel), rfl, by decide +kernel, by decide +kernel, by decide +kernel⟩
theorem zv_X10_45 : z_V RX10 45 RX10 yX10_isStation cX10_isStation 2 (some .boolean) 1 := ⟨z_ins [1039, 1041, 16, 57, 1042] (by decide +kernel) (by decide +kernel), rfl, by decide +kernel, by decide +kernel, by decide +kernel⟩
theorem zk_X10_64 : Cond.constantLong RX10 64 (500 : Int64) ∈ zWS := z_lw (i := 1074) (by decide +kernel) (by decide +kernel)
theorem zk_X10_66 : Cond.constantLong RX10 66 (20 : Int64) ∈ zWS := z_lw (i := 1075) (by decide +kernel) (by decide +kernel)
theorem zv_X10_70 : z_V RX10 70 RX10 yX10_gives cX10_gives 5 (some .int) 3 := ⟨z_ins [1081, 1083, 22, 57, 1084] (by decide +kernel) (by decide +kernel), rfl, by decide +kernel, by decide +kernel, by decide +kernel⟩
theorem zk_X10_68 : Cond.constantLong RX10 68 (9 : Int64) ∈ zWS := z_lw (i := 1080) (by decide +kernel) (by decide +kernel)
theorem zk_X10_74 : Cond.constantLong RX10 74 (1000000 : Int64) ∈ zWS := z_lw (i := 1092) (by decide +kernel) (by decide +kernel)
theorem zv_X10_76 : z_V RX10 76 RX10 yX10_isLoud cX10_isLoud 5 (some .boolean) 2 := ⟨z_ins [1131, 1133, 31, 57, 1134] (by decide +kernel) (by decide +kernel), rfl, by decide +kernel, by decide +kernel, by decide +kernel⟩
theorem zv_X10_80 : z_V RX10 80 RX10 yX10_ofMessage cX10_ofMessage 3 (some .int) 2 := ⟨z_ins [1119, 1121, 28, 57, 1122] (by decide +kernel) (by decide +kernel), rfl, by decide +kernel, by decide +kernel, by decide +kernel⟩
theorem zv_X10_83 : z_V RX10 83 RX10 yX10_isInRing cX10_isInRing 2 (some .boolean) 1 := ⟨z_ins [1107, 1109, 25, 57, 1110] (by decide +kernel) (by decide +kernel), rfl, by decide +kernel, by decide +kernel, by decide +kernel⟩
theorem zv_X10_86 : z_V RX10 86 RX10 yX10_nextOf cX10_nextOf 7 (some .int) 2 := ⟨z_ins [1115, 1117, 27, 57, 1118] (by decide +kernel) (by decide +kernel), rfl, by decide +kernel, by decide +kernel, by decide +kernel⟩
theorem zv_X10_89 : z_V RX10 89 RX10 yX10_takes cX10_takes 3 (some .boolean) 1 := ⟨z_ins [1127, 1129, 30, 57, 1130] (by decide +kernel) (by decide +kernel), rfl, by decide +kernel, by decide +kernel, by decide +kernel⟩
theorem zv_X10_92 : z_V RX10 92 RX10 yX10_sends cX10_sends 4 (some .boolean) 1 := ⟨z_ins [1123, 1125, 29, 57, 1126] (by decide +kernel) (by decide +kernel), rfl, by decide +kernel, by decide +kernel, by decide +kernel⟩
theorem zv_X10_95 : z_SS RX10 95 yX10_behind cX10_behind 3 (some .int) 2 := ⟨z_ins [1143, 1144, 57, 1145] (by decide +kernel) (by decide +kernel), by decide +kernel, by decide +kernel, by decide +kernel⟩
theorem zv_X10_102 : z_V RX10 102 RX10 yX10_sendsAll cX10_sendsAll 6 none 3 := ⟨z_ins [1111, 1113, 26, 57, 1114] (by decide +kernel) (by decide +kernel), rfl, by decide +kernel, by decide +kernel, by decide +kernel⟩
theorem zv_X10_106 : z_V RX10 106 RX10 yX10_logs cX10_logs 6 none 4 := ⟨z_ins [1135, 1137, 32, 57, 1138] (by decide +kernel) (by decide +kernel), rfl, by decide +kernel, by decide +kernel, by decide +kernel⟩
theorem zv_X10_110 : z_V RX10 110 RX10 yX10_polls cX10_polls 6 none 1 := ⟨z_ins [1139, 1141, 33, 57, 1142] (by decide +kernel) (by decide +kernel), rfl, by decide +kernel, by decide +kernel, by decide +kernel⟩
theorem zv_X10_113 : z_V RX10 113 RX10 yX10_passes cX10_passes 5 none 1 := ⟨z_ins [1146, 1148, 34, 57, 1149] (by decide +kernel) (by decide +kernel), rfl, by decide +kernel, by decide +kernel, by decide +kernel⟩
theorem zv_X10_98 : z_V RX10 98 RX10 yX10_makesToken cX10_makesToken 3 (some .boolean) 0 := ⟨z_ins [1103, 1105, 24, 57, 1106] (by decide +kernel) (by decide +kernel), rfl, by decide +kernel, by decide +kernel, by decide +kernel⟩
theorem zk_X10_116 : Cond.constantLong RX10 116 (200 : Int64) ∈ zWS := z_lw (i := 1097) (by decide +kernel) (by decide +kernel)
theorem zk_X10_118 : Cond.constant RX10 118 (900000 : Int32) ∈ zWS := z_lw (i := 1098) (by decide +kernel) (by decide +kernel)
theorem zv_X10_119 : z_V RX10 119 RX10 yX10_visits cX10_visits 5 none 0 := ⟨z_ins [1099, 1101, 23, 57, 1102] (by decide +kernel) (by decide +kernel), rfl, by decide +kernel, by decide +kernel, by decide +kernel⟩
theorem zv_X10_122 : z_V RX10 122 RX10 yX10_inRing cX10_inRing 3 (some .int) 0 := ⟨z_ins [1163, 1165, 36, 57, 1166] (by decide +kernel) (by decide +kernel), rfl, by decide +kernel, by decide +kernel, by decide +kernel⟩
theorem zk_X10_125 : Cond.constantLong RX10 125 (8 : Int64) ∈ zWS := z_lw (i := 1158) (by decide +kernel) (by decide +kernel)
theorem zv_X10_127 : z_V RX10 127 RX10 yX10_settingOf cX10_settingOf 2 (some .int) 1 := ⟨z_ins [1159, 1161, 35, 57, 1162] (by decide +kernel) (by decide +kernel), rfl, by decide +kernel, by decide +kernel, by decide +kernel⟩
theorem zv_X10_131 : z_V RX10 131 RX10 yX10_queueOf cX10_queueOf 4 (some .int) 1 := ⟨z_ins [1176, 1178, 38, 57, 1179] (by decide +kernel) (by decide +kernel), rfl, by decide +kernel, by decide +kernel, by decide +kernel⟩
theorem zk_X10_134 : Cond.constantLong RX10 134 (6 : Int64) ∈ zWS := z_lw (i := 1171) (by decide +kernel) (by decide +kernel)
theorem zv_X10_136 : z_V RX10 136 RX10 yX10_stationOf cX10_stationOf 3 (some .int) 2 := ⟨z_ins [1172, 1174, 37, 57, 1175] (by decide +kernel) (by decide +kernel), rfl, by decide +kernel, by decide +kernel, by decide +kernel⟩
theorem zk_X10_139 : Cond.constantLong RX10 139 (4 : Int64) ∈ zWS := z_lw (i := 1192) (by decide +kernel) (by decide +kernel)
theorem zk_X10_141 : Cond.constantLong RX10 141 (3 : Int64) ∈ zWS := z_lw (i := 1209) (by decide +kernel) (by decide +kernel)
theorem zv_X10_143 : z_V RX10 143 RX10 yX10_lays cX10_lays 2 none 0 := ⟨z_ins [1226, 1228, 39, 57, 1229] (by decide +kernel) (by decide +kernel), rfl, by decide +kernel, by decide +kernel, by decide +kernel⟩
theorem zv_X10_146 : z_V RX10 146 RX10 yX10_takesBack cX10_takesBack 2 none 0 := ⟨z_ins [1230, 1232, 40, 57, 1233] (by decide +kernel) (by decide +kernel), rfl, by decide +kernel, by decide +kernel, by decide +kernel⟩
theorem zv_X10_149 : z_V RX10 149 RX10 yX10_isComplete cX10_isComplete 3 (some .boolean) 0 := ⟨z_ins [1238, 1240, 41, 57, 1241] (by decide +kernel) (by decide +kernel), rfl, by decide +kernel, by decide +kernel, by decide +kernel⟩
theorem zk_X10_152 : Cond.constantLong RX10 152 (100 : Int64) ∈ zWS := z_lw (i := 1246) (by decide +kernel) (by decide +kernel)
theorem zv_X10_154 : z_V RX10 154 RX10 yX10_waiting cX10_waiting 3 (some .int) 0 := ⟨z_ins [1247, 1249, 42, 57, 1250] (by decide +kernel) (by decide +kernel), rfl, by decide +kernel, by decide +kernel, by decide +kernel⟩
theorem zk_X10_157 : Cond.constantLong RX10 157 (127 : Int64) ∈ zWS := z_lw (i := 1255) (by decide +kernel) (by decide +kernel)
theorem zf_X10_159 : z_F RX10 159 9 6 := ⟨RX10, TX10, rfl, by decide, z_lw (i := 1002) (by decide +kernel) (by decide +kernel), inX10, rfl, tyX10_ok, nmX10, rfl⟩
theorem zf_X10_162 : z_F RX10 162 9 7 := ⟨RX10, TX10, rfl, by decide, z_lw (i := 1003) (by decide +kernel) (by decide +kernel), inX10, rfl, tyX10_ok, nmX10, rfl⟩
theorem zk_X10_165 : Cond.constantLong RX10 165 (48 : Int64) ∈ zWS := z_lw (i := 1280) (by decide +kernel) (by decide +kernel)
theorem zk_X10_167 : Cond.constantLong RX10 167 (57 : Int64) ∈ zWS := z_lw (i := 1281) (by decide +kernel) (by decide +kernel)
theorem zf_X10_169 : z_F RX10 169 9 8 := ⟨RX10, TX10, rfl, by decide, z_lw (i := 1004) (by decide +kernel) (by decide +kernel), inX10, rfl, tyX10_ok, nmX10, rfl⟩
theorem zv_X10_172 : z_V RX10 172 RX10 yX10_isFigure cX10_isFigure 1 (some .boolean) 0 := ⟨z_ins [1276, 1278, 46, 57, 1279] (by decide +kernel) (by decide +kernel), rfl, by decide +kernel, by decide +kernel, by decide +kernel⟩
theorem zf_X10_181 : z_F RX10 181 9 9 := ⟨RX10, TX10, rfl, by decide, z_lw (i := 1005) (by decide +kernel) (by decide +kernel), inX10, rfl, tyX10_ok, nmX10, rfl⟩
theorem zv_X10_175 : z_V RX10 175 RX10 yX10_passesByte cX10_passesByte 3 (some .boolean) 1 := ⟨z_ins [1268, 1270, 44, 57, 1271] (by decide +kernel) (by decide +kernel), rfl, by decide +kernel, by decide +kernel, by decide +kernel⟩
theorem zv_X10_178 : z_V RX10 178 RX10 yX10_readsNumber cX10_readsNumber 2 (some .boolean) 0 := ⟨z_ins [1272, 1274, 45, 57, 1275] (by decide +kernel) (by decide +kernel), rfl, by decide +kernel, by decide +kernel, by decide +kernel⟩
theorem zv_X10_184 : z_V RX10 184 RX10 yX10_readsItem cX10_readsItem 4 (some .boolean) 0 := ⟨z_ins [1264, 1266, 43, 57, 1267] (by decide +kernel) (by decide +kernel), rfl, by decide +kernel, by decide +kernel, by decide +kernel⟩
theorem zv_X10_187 : z_SS RX10 187 yX10_sums cX10_sums 4 (some .long) 2 := ⟨z_ins [1291, 1292, 57, 1293] (by decide +kernel) (by decide +kernel), by decide +kernel, by decide +kernel, by decide +kernel⟩
theorem zk_X10_191 : Cond.constantLong RX10 191 (3169 : Int64) ∈ zWS := z_lw (i := 1290) (by decide +kernel) (by decide +kernel)
theorem zv_X10_193 : z_V RX10 193 RX10 yX10_withStation cX10_withStation 7 (some .long) 2 := ⟨z_ins [1294, 1296, 47, 57, 1297] (by decide +kernel) (by decide +kernel), rfl, by decide +kernel, by decide +kernel, by decide +kernel⟩
end
