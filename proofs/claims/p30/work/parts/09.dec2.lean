theorem dX2_withLog_13 : decode cX2_withLog 13 = .ok (.iconst 0, 1) := by decide +kernel
theorem dX2_withLog_14 : decode cX2_withLog 14 = .ok (.istore 6, 2) := by decide +kernel
theorem dX2_withLog_16 : decode cX2_withLog 16 = .ok (.iload 6, 2) := by decide +kernel
theorem dX2_withLog_18 : decode cX2_withLog 18 = .ok (.iload_n 3, 1) := by decide +kernel
theorem dX2_withLog_19 : decode cX2_withLog 19 = .ok (.if_icmp .ge 40, 3) := by decide +kernel
theorem dX2_withLog_22 : decode cX2_withLog 22 = .ok (.iconst 0, 1) := by decide +kernel
theorem dX2_withLog_23 : decode cX2_withLog 23 = .ok (.istore 7, 2) := by decide +kernel
theorem dX2_withLog_25 : decode cX2_withLog 25 = .ok (.iload 7, 2) := by decide +kernel
theorem dX2_withLog_27 : decode cX2_withLog 27 = .ok (.iconst 4, 1) := by decide +kernel
theorem dX2_withLog_28 : decode cX2_withLog 28 = .ok (.if_icmp .ge 25, 3) := by decide +kernel
theorem dX2_withLog_31 : decode cX2_withLog 31 = .ok (.lload 4, 2) := by decide +kernel
theorem dX2_withLog_33 : decode cX2_withLog 33 = .ok (.aload_n 0, 1) := by decide +kernel
theorem dX2_withLog_34 : decode cX2_withLog 34 = .ok (.iload 6, 2) := by decide +kernel
theorem dX2_withLog_36 : decode cX2_withLog 36 = .ok (.iload 7, 2) := by decide +kernel
theorem dX2_withLog_38 : decode cX2_withLog 38 = .ok (.invokevirtual 183, 3) := by decide +kernel
theorem dX2_withLog_41 : decode cX2_withLog 41 = .ok (.i2l, 1) := by decide +kernel
theorem dX2_withLog_42 : decode cX2_withLog 42 = .ok (.invokestatic 156, 3) := by decide +kernel
theorem dX2_withLog_45 : decode cX2_withLog 45 = .ok (.lstore 4, 2) := by decide +kernel
theorem dX2_withLog_47 : decode cX2_withLog 47 = .ok (.iinc 7 1, 3) := by decide +kernel
theorem dX2_withLog_50 : decode cX2_withLog 50 = .ok (.goto (-25), 3) := by decide +kernel
theorem dX2_withLog_53 : decode cX2_withLog 53 = .ok (.iinc 6 1, 3) := by decide +kernel
theorem dX2_withLog_56 : decode cX2_withLog 56 = .ok (.goto (-40), 3) := by decide +kernel
theorem dX2_withLog_59 : decode cX2_withLog 59 = .ok (.lload 4, 2) := by decide +kernel
theorem dX2_withLog_61 : decode cX2_withLog 61 = .ok (.lreturn, 1) := by decide +kernel
theorem dX3_init_0 : decode cX3_init 0 = .ok (.aload_n 0, 1) := by decide +kernel
theorem dX3_init_1 : decode cX3_init 1 = .ok (.invokespecial 3, 3) := by decide +kernel
theorem dX3_init_4 : decode cX3_init 4 = .ok (.aload_n 0, 1) := by decide +kernel
theorem dX3_init_5 : decode cX3_init 5 = .ok (.new 9, 3) := by decide +kernel
theorem dX3_init_8 : decode cX3_init 8 = .ok (.dup, 1) := by decide +kernel
theorem dX3_init_9 : decode cX3_init 9 = .ok (.bipush 100, 2) := by decide +kernel
theorem dX3_init_11 : decode cX3_init 11 = .ok (.bipush 6, 2) := by decide +kernel
theorem dX3_init_13 : decode cX3_init 13 = .ok (.invokespecial 13, 3) := by decide +kernel
theorem dX3_init_16 : decode cX3_init 16 = .ok (.putfield 16, 3) := by decide +kernel
theorem dX3_init_19 : decode cX3_init 19 = .ok (.return_, 1) := by decide +kernel
theorem dX3_number_0 : decode cX3_number 0 = .ok (.aload_n 0, 1) := by decide +kernel
theorem dX3_number_1 : decode cX3_number 1 = .ok (.getfield 20, 3) := by decide +kernel
theorem dX3_number_4 : decode cX3_number 4 = .ok (.ireturn, 1) := by decide +kernel
theorem dX3_isFull_0 : decode cX3_isFull 0 = .ok (.aload_n 0, 1) := by decide +kernel
theorem dX3_isFull_1 : decode cX3_isFull 1 = .ok (.getfield 20, 3) := by decide +kernel
theorem dX3_isFull_4 : decode cX3_isFull 4 = .ok (.bipush 100, 2) := by decide +kernel
theorem dX3_isFull_6 : decode cX3_isFull 6 = .ok (.if_icmp .lt 7, 3) := by decide +kernel
theorem dX3_isFull_9 : decode cX3_isFull 9 = .ok (.iconst 1, 1) := by decide +kernel
theorem dX3_isFull_10 : decode cX3_isFull 10 = .ok (.goto 4, 3) := by decide +kernel
theorem dX3_isFull_13 : decode cX3_isFull 13 = .ok (.iconst 0, 1) := by decide +kernel
theorem dX3_isFull_14 : decode cX3_isFull 14 = .ok (.ireturn, 1) := by decide +kernel
theorem dX3_has_0 : decode cX3_has 0 = .ok (.iload_n 1, 1) := by decide +kernel
theorem dX3_has_1 : decode cX3_has 1 = .ok (.ifCond .lt 15, 3) := by decide +kernel
theorem dX3_has_4 : decode cX3_has 4 = .ok (.iload_n 1, 1) := by decide +kernel
theorem dX3_has_5 : decode cX3_has 5 = .ok (.aload_n 0, 1) := by decide +kernel
theorem dX3_has_6 : decode cX3_has 6 = .ok (.getfield 20, 3) := by decide +kernel
theorem dX3_has_9 : decode cX3_has 9 = .ok (.if_icmp .ge 7, 3) := by decide +kernel
theorem dX3_has_12 : decode cX3_has 12 = .ok (.iconst 1, 1) := by decide +kernel
theorem dX3_has_13 : decode cX3_has 13 = .ok (.goto 4, 3) := by decide +kernel
theorem dX3_has_16 : decode cX3_has 16 = .ok (.iconst 0, 1) := by decide +kernel
theorem dX3_has_17 : decode cX3_has 17 = .ok (.ireturn, 1) := by decide +kernel
theorem dX3_value_0 : decode cX3_value 0 = .ok (.aload_n 0, 1) := by decide +kernel
theorem dX3_value_1 : decode cX3_value 1 = .ok (.getfield 16, 3) := by decide +kernel
theorem dX3_value_4 : decode cX3_value 4 = .ok (.iload_n 1, 1) := by decide +kernel
theorem dX3_value_5 : decode cX3_value 5 = .ok (.iload_n 2, 1) := by decide +kernel
theorem dX3_value_6 : decode cX3_value 6 = .ok (.invokevirtual 24, 3) := by decide +kernel
theorem dX3_value_9 : decode cX3_value 9 = .ok (.ireturn, 1) := by decide +kernel
theorem dX3_follower_0 : decode cX3_follower 0 = .ok (.aload_n 0, 1) := by decide +kernel
theorem dX3_follower_1 : decode cX3_follower 1 = .ok (.getfield 16, 3) := by decide +kernel
theorem dX3_follower_4 : decode cX3_follower 4 = .ok (.iload_n 1, 1) := by decide +kernel
theorem dX3_follower_5 : decode cX3_follower 5 = .ok (.iconst 5, 1) := by decide +kernel
theorem dX3_follower_6 : decode cX3_follower 6 = .ok (.invokevirtual 24, 3) := by decide +kernel
theorem dX3_follower_9 : decode cX3_follower 9 = .ok (.ireturn, 1) := by decide +kernel
theorem dX3_isUrgent_0 : decode cX3_isUrgent 0 = .ok (.aload_n 0, 1) := by decide +kernel
theorem dX3_isUrgent_1 : decode cX3_isUrgent 1 = .ok (.iload_n 1, 1) := by decide +kernel
theorem dX3_isUrgent_2 : decode cX3_isUrgent 2 = .ok (.invokevirtual 28, 3) := by decide +kernel
theorem dX3_isUrgent_5 : decode cX3_isUrgent 5 = .ok (.ifCond .eq 20, 3) := by decide +kernel
theorem dX3_isUrgent_8 : decode cX3_isUrgent 8 = .ok (.aload_n 0, 1) := by decide +kernel
theorem dX3_isUrgent_9 : decode cX3_isUrgent 9 = .ok (.getfield 16, 3) := by decide +kernel
theorem dX3_isUrgent_12 : decode cX3_isUrgent 12 = .ok (.iload_n 1, 1) := by decide +kernel
theorem dX3_isUrgent_13 : decode cX3_isUrgent 13 = .ok (.iconst 1, 1) := by decide +kernel
theorem dX3_isUrgent_14 : decode cX3_isUrgent 14 = .ok (.invokevirtual 24, 3) := by decide +kernel
theorem dX3_isUrgent_17 : decode cX3_isUrgent 17 = .ok (.iconst 5, 1) := by decide +kernel
theorem dX3_isUrgent_18 : decode cX3_isUrgent 18 = .ok (.if_icmp .lt 7, 3) := by decide +kernel
theorem dX3_isUrgent_21 : decode cX3_isUrgent 21 = .ok (.iconst 1, 1) := by decide +kernel
theorem dX3_isUrgent_22 : decode cX3_isUrgent 22 = .ok (.goto 4, 3) := by decide +kernel
theorem dX3_isUrgent_25 : decode cX3_isUrgent 25 = .ok (.iconst 0, 1) := by decide +kernel
theorem dX3_isUrgent_26 : decode cX3_isUrgent 26 = .ok (.ireturn, 1) := by decide +kernel
theorem dX3_copyFrom_0 : decode cX3_copyFrom 0 = .ok (.aload_n 0, 1) := by decide +kernel
theorem dX3_copyFrom_1 : decode cX3_copyFrom 1 = .ok (.aload_n 1, 1) := by decide +kernel
theorem dX3_copyFrom_2 : decode cX3_copyFrom 2 = .ok (.getfield 20, 3) := by decide +kernel
theorem dX3_copyFrom_5 : decode cX3_copyFrom 5 = .ok (.putfield 20, 3) := by decide +kernel
theorem dX3_copyFrom_8 : decode cX3_copyFrom 8 = .ok (.aload_n 0, 1) := by decide +kernel
theorem dX3_copyFrom_9 : decode cX3_copyFrom 9 = .ok (.getfield 16, 3) := by decide +kernel
theorem dX3_copyFrom_12 : decode cX3_copyFrom 12 = .ok (.aload_n 1, 1) := by decide +kernel
theorem dX3_copyFrom_13 : decode cX3_copyFrom 13 = .ok (.getfield 16, 3) := by decide +kernel
theorem dX3_copyFrom_16 : decode cX3_copyFrom 16 = .ok (.aload_n 1, 1) := by decide +kernel
theorem dX3_copyFrom_17 : decode cX3_copyFrom 17 = .ok (.getfield 20, 3) := by decide +kernel
theorem dX3_copyFrom_20 : decode cX3_copyFrom 20 = .ok (.invokevirtual 32, 3) := by decide +kernel
theorem dX3_copyFrom_23 : decode cX3_copyFrom 23 = .ok (.return_, 1) := by decide +kernel
theorem dX3_add_0 : decode cX3_add 0 = .ok (.aload_n 0, 1) := by decide +kernel
theorem dX3_add_1 : decode cX3_add 1 = .ok (.getfield 20, 3) := by decide +kernel
theorem dX3_add_4 : decode cX3_add 4 = .ok (.istore 5, 2) := by decide +kernel
theorem dX3_add_6 : decode cX3_add 6 = .ok (.aload_n 0, 1) := by decide +kernel
theorem dX3_add_7 : decode cX3_add 7 = .ok (.dup, 1) := by decide +kernel
theorem dX3_add_8 : decode cX3_add 8 = .ok (.getfield 20, 3) := by decide +kernel
theorem dX3_add_11 : decode cX3_add 11 = .ok (.iconst 1, 1) := by decide +kernel
theorem dX3_add_12 : decode cX3_add 12 = .ok (.iadd, 1) := by decide +kernel
theorem dX3_add_13 : decode cX3_add 13 = .ok (.putfield 20, 3) := by decide +kernel
theorem dX3_add_16 : decode cX3_add 16 = .ok (.aload_n 0, 1) := by decide +kernel
theorem dX3_add_17 : decode cX3_add 17 = .ok (.getfield 16, 3) := by decide +kernel
theorem dX3_add_20 : decode cX3_add 20 = .ok (.iload 5, 2) := by decide +kernel
theorem dX3_add_22 : decode cX3_add 22 = .ok (.iconst 0, 1) := by decide +kernel
theorem dX3_add_23 : decode cX3_add 23 = .ok (.iload_n 2, 1) := by decide +kernel
theorem dX3_add_24 : decode cX3_add 24 = .ok (.invokevirtual 36, 3) := by decide +kernel
theorem dX3_add_27 : decode cX3_add 27 = .ok (.aload_n 0, 1) := by decide +kernel
theorem dX3_add_28 : decode cX3_add 28 = .ok (.getfield 16, 3) := by decide +kernel
theorem dX3_add_31 : decode cX3_add 31 = .ok (.iload 5, 2) := by decide +kernel
theorem dX3_add_33 : decode cX3_add 33 = .ok (.iconst 1, 1) := by decide +kernel
theorem dX3_add_34 : decode cX3_add 34 = .ok (.iload_n 3, 1) := by decide +kernel
theorem dX3_add_35 : decode cX3_add 35 = .ok (.invokevirtual 36, 3) := by decide +kernel
theorem dX3_add_38 : decode cX3_add 38 = .ok (.aload_n 0, 1) := by decide +kernel
theorem dX3_add_39 : decode cX3_add 39 = .ok (.getfield 16, 3) := by decide +kernel
theorem dX3_add_42 : decode cX3_add 42 = .ok (.iload 5, 2) := by decide +kernel
theorem dX3_add_44 : decode cX3_add 44 = .ok (.iconst 2, 1) := by decide +kernel
theorem dX3_add_45 : decode cX3_add 45 = .ok (.aload_n 1, 1) := by decide +kernel
theorem dX3_add_46 : decode cX3_add 46 = .ok (.getfield 40, 3) := by decide +kernel
theorem dX3_add_49 : decode cX3_add 49 = .ok (.invokevirtual 36, 3) := by decide +kernel
theorem dX3_add_52 : decode cX3_add 52 = .ok (.aload_n 0, 1) := by decide +kernel
theorem dX3_add_53 : decode cX3_add 53 = .ok (.getfield 16, 3) := by decide +kernel
theorem dX3_add_56 : decode cX3_add 56 = .ok (.iload 5, 2) := by decide +kernel
theorem dX3_add_58 : decode cX3_add 58 = .ok (.iconst 3, 1) := by decide +kernel
theorem dX3_add_59 : decode cX3_add 59 = .ok (.iload 4, 2) := by decide +kernel
theorem dX3_add_61 : decode cX3_add 61 = .ok (.invokevirtual 36, 3) := by decide +kernel
theorem dX3_add_64 : decode cX3_add 64 = .ok (.aload_n 0, 1) := by decide +kernel
theorem dX3_add_65 : decode cX3_add 65 = .ok (.getfield 16, 3) := by decide +kernel
theorem dX3_add_68 : decode cX3_add 68 = .ok (.iload 5, 2) := by decide +kernel
theorem dX3_add_70 : decode cX3_add 70 = .ok (.iconst 4, 1) := by decide +kernel
theorem dX3_add_71 : decode cX3_add 71 = .ok (.iconst (-1), 1) := by decide +kernel
theorem dX3_add_72 : decode cX3_add 72 = .ok (.invokevirtual 36, 3) := by decide +kernel
theorem dX3_add_75 : decode cX3_add 75 = .ok (.aload_n 0, 1) := by decide +kernel
theorem dX3_add_76 : decode cX3_add 76 = .ok (.aload_n 1, 1) := by decide +kernel
theorem dX3_add_77 : decode cX3_add 77 = .ok (.iload 5, 2) := by decide +kernel
theorem dX3_add_79 : decode cX3_add 79 = .ok (.iload_n 3, 1) := by decide +kernel
theorem dX3_add_80 : decode cX3_add 80 = .ok (.invokevirtual 45, 3) := by decide +kernel
theorem dX3_add_83 : decode cX3_add 83 = .ok (.iload 5, 2) := by decide +kernel
theorem dX3_add_85 : decode cX3_add 85 = .ok (.ireturn, 1) := by decide +kernel
theorem dX3_enqueue_0 : decode cX3_enqueue 0 = .ok (.iconst (-1), 1) := by decide +kernel
theorem dX3_enqueue_1 : decode cX3_enqueue 1 = .ok (.istore 4, 2) := by decide +kernel
theorem dX3_enqueue_3 : decode cX3_enqueue 3 = .ok (.aload_n 1, 1) := by decide +kernel
theorem dX3_enqueue_4 : decode cX3_enqueue 4 = .ok (.getfield 49, 3) := by decide +kernel
theorem dX3_enqueue_7 : decode cX3_enqueue 7 = .ok (.istore 5, 2) := by decide +kernel
theorem dX3_enqueue_9 : decode cX3_enqueue 9 = .ok (.iconst 0, 1) := by decide +kernel
theorem dX3_enqueue_10 : decode cX3_enqueue 10 = .ok (.istore 6, 2) := by decide +kernel
theorem dX3_enqueue_12 : decode cX3_enqueue 12 = .ok (.iload 6, 2) := by decide +kernel
theorem dX3_enqueue_14 : decode cX3_enqueue 14 = .ok (.aload_n 1, 1) := by decide +kernel
theorem dX3_enqueue_15 : decode cX3_enqueue 15 = .ok (.getfield 52, 3) := by decide +kernel
theorem dX3_enqueue_18 : decode cX3_enqueue 18 = .ok (.if_icmp .ge 42, 3) := by decide +kernel
theorem dX3_enqueue_21 : decode cX3_enqueue 21 = .ok (.aload_n 0, 1) := by decide +kernel
theorem dX3_enqueue_22 : decode cX3_enqueue 22 = .ok (.getfield 16, 3) := by decide +kernel
theorem dX3_enqueue_25 : decode cX3_enqueue 25 = .ok (.iload 5, 2) := by decide +kernel
theorem dX3_enqueue_27 : decode cX3_enqueue 27 = .ok (.iconst 1, 1) := by decide +kernel
theorem dX3_enqueue_28 : decode cX3_enqueue 28 = .ok (.invokevirtual 24, 3) := by decide +kernel
theorem dX3_enqueue_31 : decode cX3_enqueue 31 = .ok (.iload_n 3, 1) := by decide +kernel
theorem dX3_enqueue_32 : decode cX3_enqueue 32 = .ok (.if_icmp .ge 6, 3) := by decide +kernel
theorem dX3_enqueue_35 : decode cX3_enqueue 35 = .ok (.goto 25, 3) := by decide +kernel
theorem dX3_enqueue_38 : decode cX3_enqueue 38 = .ok (.iload 5, 2) := by decide +kernel
theorem dX3_enqueue_40 : decode cX3_enqueue 40 = .ok (.istore 4, 2) := by decide +kernel
theorem dX3_enqueue_42 : decode cX3_enqueue 42 = .ok (.aload_n 0, 1) := by decide +kernel
theorem dX3_enqueue_43 : decode cX3_enqueue 43 = .ok (.getfield 16, 3) := by decide +kernel
theorem dX3_enqueue_46 : decode cX3_enqueue 46 = .ok (.iload 5, 2) := by decide +kernel
theorem dX3_enqueue_48 : decode cX3_enqueue 48 = .ok (.iconst 5, 1) := by decide +kernel
theorem dX3_enqueue_49 : decode cX3_enqueue 49 = .ok (.invokevirtual 24, 3) := by decide +kernel
theorem dX3_enqueue_52 : decode cX3_enqueue 52 = .ok (.istore 5, 2) := by decide +kernel
theorem dX3_enqueue_54 : decode cX3_enqueue 54 = .ok (.iinc 6 1, 3) := by decide +kernel
theorem dX3_enqueue_57 : decode cX3_enqueue 57 = .ok (.goto (-45), 3) := by decide +kernel
theorem dX3_enqueue_60 : decode cX3_enqueue 60 = .ok (.aload_n 0, 1) := by decide +kernel
theorem dX3_enqueue_61 : decode cX3_enqueue 61 = .ok (.getfield 16, 3) := by decide +kernel
theorem dX3_enqueue_64 : decode cX3_enqueue 64 = .ok (.iload_n 2, 1) := by decide +kernel
theorem dX3_enqueue_65 : decode cX3_enqueue 65 = .ok (.iconst 5, 1) := by decide +kernel
theorem dX3_enqueue_66 : decode cX3_enqueue 66 = .ok (.iload 5, 2) := by decide +kernel
theorem dX3_enqueue_68 : decode cX3_enqueue 68 = .ok (.invokevirtual 36, 3) := by decide +kernel
theorem dX3_enqueue_71 : decode cX3_enqueue 71 = .ok (.iload 4, 2) := by decide +kernel
theorem dX3_enqueue_73 : decode cX3_enqueue 73 = .ok (.iconst (-1), 1) := by decide +kernel
theorem dX3_enqueue_74 : decode cX3_enqueue 74 = .ok (.if_icmp .ne 11, 3) := by decide +kernel
theorem dX3_enqueue_77 : decode cX3_enqueue 77 = .ok (.aload_n 1, 1) := by decide +kernel
theorem dX3_enqueue_78 : decode cX3_enqueue 78 = .ok (.iload_n 2, 1) := by decide +kernel
theorem dX3_enqueue_79 : decode cX3_enqueue 79 = .ok (.putfield 49, 3) := by decide +kernel
theorem dX3_enqueue_82 : decode cX3_enqueue 82 = .ok (.goto 14, 3) := by decide +kernel
theorem dX3_enqueue_85 : decode cX3_enqueue 85 = .ok (.aload_n 0, 1) := by decide +kernel
theorem dX3_enqueue_86 : decode cX3_enqueue 86 = .ok (.getfield 16, 3) := by decide +kernel
theorem dX3_enqueue_89 : decode cX3_enqueue 89 = .ok (.iload 4, 2) := by decide +kernel
theorem dX3_enqueue_91 : decode cX3_enqueue 91 = .ok (.iconst 5, 1) := by decide +kernel
theorem dX3_enqueue_92 : decode cX3_enqueue 92 = .ok (.iload_n 2, 1) := by decide +kernel
theorem dX3_enqueue_93 : decode cX3_enqueue 93 = .ok (.invokevirtual 36, 3) := by decide +kernel
theorem dX3_enqueue_96 : decode cX3_enqueue 96 = .ok (.aload_n 1, 1) := by decide +kernel
theorem dX3_enqueue_97 : decode cX3_enqueue 97 = .ok (.dup, 1) := by decide +kernel
theorem dX3_enqueue_98 : decode cX3_enqueue 98 = .ok (.getfield 52, 3) := by decide +kernel
theorem dX3_enqueue_101 : decode cX3_enqueue 101 = .ok (.iconst 1, 1) := by decide +kernel
theorem dX3_enqueue_102 : decode cX3_enqueue 102 = .ok (.iadd, 1) := by decide +kernel
theorem dX3_enqueue_103 : decode cX3_enqueue 103 = .ok (.putfield 52, 3) := by decide +kernel
theorem dX3_enqueue_106 : decode cX3_enqueue 106 = .ok (.return_, 1) := by decide +kernel
theorem dX3_takeFirst_0 : decode cX3_takeFirst 0 = .ok (.aload_n 1, 1) := by decide +kernel
theorem dX3_takeFirst_1 : decode cX3_takeFirst 1 = .ok (.getfield 49, 3) := by decide +kernel
theorem dX3_takeFirst_4 : decode cX3_takeFirst 4 = .ok (.istore_n 3, 1) := by decide +kernel
theorem dX3_takeFirst_5 : decode cX3_takeFirst 5 = .ok (.iload_n 2, 1) := by decide +kernel
theorem dX3_takeFirst_6 : decode cX3_takeFirst 6 = .ok (.aload_n 0, 1) := by decide +kernel
theorem dX3_takeFirst_7 : decode cX3_takeFirst 7 = .ok (.getfield 16, 3) := by decide +kernel
theorem dX3_takeFirst_10 : decode cX3_takeFirst 10 = .ok (.iload_n 3, 1) := by decide +kernel
theorem dX3_takeFirst_11 : decode cX3_takeFirst 11 = .ok (.iconst 3, 1) := by decide +kernel
theorem dX3_takeFirst_12 : decode cX3_takeFirst 12 = .ok (.invokevirtual 24, 3) := by decide +kernel
theorem dX3_takeFirst_15 : decode cX3_takeFirst 15 = .ok (.isub, 1) := by decide +kernel
theorem dX3_takeFirst_16 : decode cX3_takeFirst 16 = .ok (.istore 4, 2) := by decide +kernel
theorem dX3_takeFirst_18 : decode cX3_takeFirst 18 = .ok (.aload_n 0, 1) := by decide +kernel
theorem dX3_takeFirst_19 : decode cX3_takeFirst 19 = .ok (.getfield 16, 3) := by decide +kernel
theorem dX3_takeFirst_22 : decode cX3_takeFirst 22 = .ok (.iload_n 3, 1) := by decide +kernel
theorem dX3_takeFirst_23 : decode cX3_takeFirst 23 = .ok (.iconst 4, 1) := by decide +kernel
theorem dX3_takeFirst_24 : decode cX3_takeFirst 24 = .ok (.iload 4, 2) := by decide +kernel
theorem dX3_takeFirst_26 : decode cX3_takeFirst 26 = .ok (.invokevirtual 36, 3) := by decide +kernel
theorem dX3_takeFirst_29 : decode cX3_takeFirst 29 = .ok (.aload_n 1, 1) := by decide +kernel
theorem dX3_takeFirst_30 : decode cX3_takeFirst 30 = .ok (.aload_n 0, 1) := by decide +kernel
theorem dX3_takeFirst_31 : decode cX3_takeFirst 31 = .ok (.getfield 16, 3) := by decide +kernel
theorem dX3_takeFirst_34 : decode cX3_takeFirst 34 = .ok (.iload_n 3, 1) := by decide +kernel
theorem dX3_takeFirst_35 : decode cX3_takeFirst 35 = .ok (.iconst 5, 1) := by decide +kernel
theorem dX3_takeFirst_36 : decode cX3_takeFirst 36 = .ok (.invokevirtual 24, 3) := by decide +kernel
theorem dX3_takeFirst_39 : decode cX3_takeFirst 39 = .ok (.putfield 49, 3) := by decide +kernel
theorem dX3_takeFirst_42 : decode cX3_takeFirst 42 = .ok (.aload_n 1, 1) := by decide +kernel
theorem dX3_takeFirst_43 : decode cX3_takeFirst 43 = .ok (.dup, 1) := by decide +kernel
theorem dX3_takeFirst_44 : decode cX3_takeFirst 44 = .ok (.getfield 52, 3) := by decide +kernel
theorem dX3_takeFirst_47 : decode cX3_takeFirst 47 = .ok (.iconst 1, 1) := by decide +kernel
theorem dX3_takeFirst_48 : decode cX3_takeFirst 48 = .ok (.isub, 1) := by decide +kernel
theorem dX3_takeFirst_49 : decode cX3_takeFirst 49 = .ok (.putfield 52, 3) := by decide +kernel
theorem dX3_takeFirst_52 : decode cX3_takeFirst 52 = .ok (.iload 4, 2) := by decide +kernel
theorem dX3_takeFirst_54 : decode cX3_takeFirst 54 = .ok (.ireturn, 1) := by decide +kernel
theorem dX4_init_0 : decode cX4_init 0 = .ok (.aload_n 0, 1) := by decide +kernel
theorem dX4_init_1 : decode cX4_init 1 = .ok (.invokespecial 3, 3) := by decide +kernel
theorem dX4_init_4 : decode cX4_init 4 = .ok (.aload_n 0, 1) := by decide +kernel
theorem dX4_init_5 : decode cX4_init 5 = .ok (.bipush 20, 2) := by decide +kernel
theorem dX4_init_7 : decode cX4_init 7 = .ok (.newarray .int, 2) := by decide +kernel
theorem dX4_init_9 : decode cX4_init 9 = .ok (.putfield 9, 3) := by decide +kernel
theorem dX4_init_12 : decode cX4_init 12 = .ok (.aload_n 0, 1) := by decide +kernel
theorem dX4_init_13 : decode cX4_init 13 = .ok (.bipush 20, 2) := by decide +kernel
theorem dX4_init_15 : decode cX4_init 15 = .ok (.newarray .int, 2) := by decide +kernel
theorem dX4_init_17 : decode cX4_init 17 = .ok (.putfield 15, 3) := by decide +kernel
theorem dX4_init_20 : decode cX4_init 20 = .ok (.return_, 1) := by decide +kernel
theorem dX4_isFull_0 : decode cX4_isFull 0 = .ok (.aload_n 0, 1) := by decide +kernel
theorem dX4_isFull_1 : decode cX4_isFull 1 = .ok (.getfield 18, 3) := by decide +kernel
theorem dX4_isFull_4 : decode cX4_isFull 4 = .ok (.bipush 20, 2) := by decide +kernel
theorem dX4_isFull_6 : decode cX4_isFull 6 = .ok (.if_icmp .lt 7, 3) := by decide +kernel
theorem dX4_isFull_9 : decode cX4_isFull 9 = .ok (.iconst 1, 1) := by decide +kernel
theorem dX4_isFull_10 : decode cX4_isFull 10 = .ok (.goto 4, 3) := by decide +kernel
theorem dX4_isFull_13 : decode cX4_isFull 13 = .ok (.iconst 0, 1) := by decide +kernel
theorem dX4_isFull_14 : decode cX4_isFull 14 = .ok (.ireturn, 1) := by decide +kernel
theorem dX4_copyFrom_0 : decode cX4_copyFrom 0 = .ok (.aload_n 0, 1) := by decide +kernel
theorem dX4_copyFrom_1 : decode cX4_copyFrom 1 = .ok (.aload_n 1, 1) := by decide +kernel
theorem dX4_copyFrom_2 : decode cX4_copyFrom 2 = .ok (.getfield 18, 3) := by decide +kernel
theorem dX4_copyFrom_5 : decode cX4_copyFrom 5 = .ok (.putfield 18, 3) := by decide +kernel
theorem dX4_copyFrom_8 : decode cX4_copyFrom 8 = .ok (.iconst 0, 1) := by decide +kernel
theorem dX4_copyFrom_9 : decode cX4_copyFrom 9 = .ok (.istore_n 2, 1) := by decide +kernel
theorem dX4_copyFrom_10 : decode cX4_copyFrom 10 = .ok (.iload_n 2, 1) := by decide +kernel
theorem dX4_copyFrom_11 : decode cX4_copyFrom 11 = .ok (.aload_n 0, 1) := by decide +kernel
theorem dX4_copyFrom_12 : decode cX4_copyFrom 12 = .ok (.getfield 18, 3) := by decide +kernel
theorem dX4_copyFrom_15 : decode cX4_copyFrom 15 = .ok (.if_icmp .ge 39, 3) := by decide +kernel
theorem dX4_copyFrom_18 : decode cX4_copyFrom 18 = .ok (.iload_n 2, 1) := by decide +kernel
theorem dX4_copyFrom_19 : decode cX4_copyFrom 19 = .ok (.bipush 20, 2) := by decide +kernel
theorem dX4_copyFrom_21 : decode cX4_copyFrom 21 = .ok (.if_icmp .ge 33, 3) := by decide +kernel
theorem dX4_copyFrom_24 : decode cX4_copyFrom 24 = .ok (.aload_n 0, 1) := by decide +kernel
theorem dX4_copyFrom_25 : decode cX4_copyFrom 25 = .ok (.getfield 9, 3) := by decide +kernel
theorem dX4_copyFrom_28 : decode cX4_copyFrom 28 = .ok (.iload_n 2, 1) := by decide +kernel
theorem dX4_copyFrom_29 : decode cX4_copyFrom 29 = .ok (.aload_n 1, 1) := by decide +kernel
theorem dX4_copyFrom_30 : decode cX4_copyFrom 30 = .ok (.getfield 9, 3) := by decide +kernel
theorem dX4_copyFrom_33 : decode cX4_copyFrom 33 = .ok (.iload_n 2, 1) := by decide +kernel
theorem dX4_copyFrom_34 : decode cX4_copyFrom 34 = .ok (.iaload, 1) := by decide +kernel
theorem dX4_copyFrom_35 : decode cX4_copyFrom 35 = .ok (.iastore, 1) := by decide +kernel
theorem dX4_copyFrom_36 : decode cX4_copyFrom 36 = .ok (.aload_n 0, 1) := by decide +kernel
theorem dX4_copyFrom_37 : decode cX4_copyFrom 37 = .ok (.getfield 15, 3) := by decide +kernel
theorem dX4_copyFrom_40 : decode cX4_copyFrom 40 = .ok (.iload_n 2, 1) := by decide +kernel
theorem dX4_copyFrom_41 : decode cX4_copyFrom 41 = .ok (.aload_n 1, 1) := by decide +kernel
theorem dX4_copyFrom_42 : decode cX4_copyFrom 42 = .ok (.getfield 15, 3) := by decide +kernel
theorem dX4_copyFrom_45 : decode cX4_copyFrom 45 = .ok (.iload_n 2, 1) := by decide +kernel
theorem dX4_copyFrom_46 : decode cX4_copyFrom 46 = .ok (.iaload, 1) := by decide +kernel
theorem dX4_copyFrom_47 : decode cX4_copyFrom 47 = .ok (.iastore, 1) := by decide +kernel
theorem dX4_copyFrom_48 : decode cX4_copyFrom 48 = .ok (.iinc 2 1, 3) := by decide +kernel
theorem dX4_copyFrom_51 : decode cX4_copyFrom 51 = .ok (.goto (-41), 3) := by decide +kernel
theorem dX4_copyFrom_54 : decode cX4_copyFrom 54 = .ok (.return_, 1) := by decide +kernel
theorem dX4_add_0 : decode cX4_add 0 = .ok (.aload_n 0, 1) := by decide +kernel
theorem dX4_add_1 : decode cX4_add 1 = .ok (.getfield 18, 3) := by decide +kernel
theorem dX4_add_4 : decode cX4_add 4 = .ok (.ifCond .lt 42, 3) := by decide +kernel
theorem dX4_add_7 : decode cX4_add 7 = .ok (.aload_n 0, 1) := by decide +kernel
theorem dX4_add_8 : decode cX4_add 8 = .ok (.getfield 18, 3) := by decide +kernel
theorem dX4_add_11 : decode cX4_add 11 = .ok (.bipush 20, 2) := by decide +kernel
theorem dX4_add_13 : decode cX4_add 13 = .ok (.if_icmp .ge 33, 3) := by decide +kernel
theorem dX4_add_16 : decode cX4_add 16 = .ok (.aload_n 0, 1) := by decide +kernel
theorem dX4_add_17 : decode cX4_add 17 = .ok (.getfield 9, 3) := by decide +kernel
theorem dX4_add_20 : decode cX4_add 20 = .ok (.aload_n 0, 1) := by decide +kernel
theorem dX4_add_21 : decode cX4_add 21 = .ok (.getfield 18, 3) := by decide +kernel
theorem dX4_add_24 : decode cX4_add 24 = .ok (.iload_n 1, 1) := by decide +kernel
theorem dX4_add_25 : decode cX4_add 25 = .ok (.iastore, 1) := by decide +kernel
theorem dX4_add_26 : decode cX4_add 26 = .ok (.aload_n 0, 1) := by decide +kernel
theorem dX4_add_27 : decode cX4_add 27 = .ok (.getfield 15, 3) := by decide +kernel
theorem dX4_add_30 : decode cX4_add 30 = .ok (.aload_n 0, 1) := by decide +kernel
theorem dX4_add_31 : decode cX4_add 31 = .ok (.getfield 18, 3) := by decide +kernel
theorem dX4_add_34 : decode cX4_add 34 = .ok (.iload_n 2, 1) := by decide +kernel
theorem dX4_add_35 : decode cX4_add 35 = .ok (.iastore, 1) := by decide +kernel
theorem dX4_add_36 : decode cX4_add 36 = .ok (.aload_n 0, 1) := by decide +kernel
theorem dX4_add_37 : decode cX4_add 37 = .ok (.dup, 1) := by decide +kernel
theorem dX4_add_38 : decode cX4_add 38 = .ok (.getfield 18, 3) := by decide +kernel
theorem dX4_add_41 : decode cX4_add 41 = .ok (.iconst 1, 1) := by decide +kernel
theorem dX4_add_42 : decode cX4_add 42 = .ok (.iadd, 1) := by decide +kernel
theorem dX4_add_43 : decode cX4_add 43 = .ok (.putfield 18, 3) := by decide +kernel
theorem dX4_add_46 : decode cX4_add 46 = .ok (.return_, 1) := by decide +kernel
theorem dX4_touch_0 : decode cX4_touch 0 = .ok (.iconst 0, 1) := by decide +kernel
theorem dX4_touch_1 : decode cX4_touch 1 = .ok (.istore_n 3, 1) := by decide +kernel
theorem dX4_touch_2 : decode cX4_touch 2 = .ok (.iload_n 3, 1) := by decide +kernel
theorem dX4_touch_3 : decode cX4_touch 3 = .ok (.aload_n 0, 1) := by decide +kernel
theorem dX4_touch_4 : decode cX4_touch 4 = .ok (.getfield 18, 3) := by decide +kernel
theorem dX4_touch_7 : decode cX4_touch 7 = .ok (.if_icmp .ge 37, 3) := by decide +kernel
theorem dX4_touch_10 : decode cX4_touch 10 = .ok (.iload_n 3, 1) := by decide +kernel
theorem dX4_touch_11 : decode cX4_touch 11 = .ok (.bipush 20, 2) := by decide +kernel
theorem dX4_touch_13 : decode cX4_touch 13 = .ok (.if_icmp .ge 31, 3) := by decide +kernel
theorem dX4_touch_16 : decode cX4_touch 16 = .ok (.aload_n 0, 1) := by decide +kernel
theorem dX4_touch_17 : decode cX4_touch 17 = .ok (.getfield 9, 3) := by decide +kernel
theorem dX4_touch_20 : decode cX4_touch 20 = .ok (.iload_n 3, 1) := by decide +kernel
theorem dX4_touch_21 : decode cX4_touch 21 = .ok (.iaload, 1) := by decide +kernel
theorem dX4_touch_22 : decode cX4_touch 22 = .ok (.iload_n 2, 1) := by decide +kernel
theorem dX4_touch_23 : decode cX4_touch 23 = .ok (.if_icmp .gt 15, 3) := by decide +kernel
theorem dX4_touch_26 : decode cX4_touch 26 = .ok (.aload_n 0, 1) := by decide +kernel
theorem dX4_touch_27 : decode cX4_touch 27 = .ok (.getfield 15, 3) := by decide +kernel
theorem dX4_touch_30 : decode cX4_touch 30 = .ok (.iload_n 3, 1) := by decide +kernel
theorem dX4_touch_31 : decode cX4_touch 31 = .ok (.iaload, 1) := by decide +kernel
theorem dX4_touch_32 : decode cX4_touch 32 = .ok (.iload_n 1, 1) := by decide +kernel
theorem dX4_touch_33 : decode cX4_touch 33 = .ok (.if_icmp .lt 5, 3) := by decide +kernel
theorem dX4_touch_36 : decode cX4_touch 36 = .ok (.iconst 1, 1) := by decide +kernel
theorem dX4_touch_37 : decode cX4_touch 37 = .ok (.ireturn, 1) := by decide +kernel
theorem dX4_touch_38 : decode cX4_touch 38 = .ok (.iinc 3 1, 3) := by decide +kernel
theorem dX4_touch_41 : decode cX4_touch 41 = .ok (.goto (-39), 3) := by decide +kernel
theorem dX4_touch_44 : decode cX4_touch 44 = .ok (.iconst 0, 1) := by decide +kernel
theorem dX4_touch_45 : decode cX4_touch 45 = .ok (.ireturn, 1) := by decide +kernel
theorem dX6_init_0 : decode cX6_init 0 = .ok (.aload_n 0, 1) := by decide +kernel
theorem dX6_init_1 : decode cX6_init 1 = .ok (.invokespecial 3, 3) := by decide +kernel
theorem dX6_init_4 : decode cX6_init 4 = .ok (.return_, 1) := by decide +kernel
theorem dX6_reset_0 : decode cX6_reset 0 = .ok (.aload_n 0, 1) := by decide +kernel
theorem dX6_reset_1 : decode cX6_reset 1 = .ok (.iload_n 1, 1) := by decide +kernel
theorem dX6_reset_2 : decode cX6_reset 2 = .ok (.putfield 9, 3) := by decide +kernel
theorem dX6_reset_5 : decode cX6_reset 5 = .ok (.aload_n 0, 1) := by decide +kernel
theorem dX6_reset_6 : decode cX6_reset 6 = .ok (.iconst 1, 1) := by decide +kernel
theorem dX6_reset_7 : decode cX6_reset 7 = .ok (.putfield 15, 3) := by decide +kernel
theorem dX6_reset_10 : decode cX6_reset 10 = .ok (.aload_n 0, 1) := by decide +kernel
theorem dX6_reset_11 : decode cX6_reset 11 = .ok (.iconst 0, 1) := by decide +kernel
theorem dX6_reset_12 : decode cX6_reset 12 = .ok (.putfield 19, 3) := by decide +kernel
theorem dX6_reset_15 : decode cX6_reset 15 = .ok (.aload_n 0, 1) := by decide +kernel
theorem dX6_reset_16 : decode cX6_reset 16 = .ok (.iload_n 1, 1) := by decide +kernel
theorem dX6_reset_17 : decode cX6_reset 17 = .ok (.putfield 22, 3) := by decide +kernel
theorem dX6_reset_20 : decode cX6_reset 20 = .ok (.aload_n 0, 1) := by decide +kernel
theorem dX6_reset_21 : decode cX6_reset 21 = .ok (.iload_n 1, 1) := by decide +kernel
theorem dX6_reset_22 : decode cX6_reset 22 = .ok (.putfield 25, 3) := by decide +kernel
theorem dX6_reset_25 : decode cX6_reset 25 = .ok (.aload_n 0, 1) := by decide +kernel
theorem dX6_reset_26 : decode cX6_reset 26 = .ok (.iconst (-1), 1) := by decide +kernel
theorem dX6_reset_27 : decode cX6_reset 27 = .ok (.putfield 28, 3) := by decide +kernel
theorem dX6_reset_30 : decode cX6_reset 30 = .ok (.aload_n 0, 1) := by decide +kernel
theorem dX6_reset_31 : decode cX6_reset 31 = .ok (.iconst 0, 1) := by decide +kernel
theorem dX6_reset_32 : decode cX6_reset 32 = .ok (.putfield 31, 3) := by decide +kernel
theorem dX6_reset_35 : decode cX6_reset 35 = .ok (.aload_n 0, 1) := by decide +kernel
theorem dX6_reset_36 : decode cX6_reset 36 = .ok (.iconst 0, 1) := by decide +kernel
theorem dX6_reset_37 : decode cX6_reset 37 = .ok (.putfield 34, 3) := by decide +kernel
theorem dX6_reset_40 : decode cX6_reset 40 = .ok (.aload_n 0, 1) := by decide +kernel
theorem dX6_reset_41 : decode cX6_reset 41 = .ok (.iconst (-1), 1) := by decide +kernel
theorem dX6_reset_42 : decode cX6_reset 42 = .ok (.putfield 37, 3) := by decide +kernel
theorem dX6_reset_45 : decode cX6_reset 45 = .ok (.return_, 1) := by decide +kernel
theorem dX6_copyFrom_0 : decode cX6_copyFrom 0 = .ok (.aload_n 0, 1) := by decide +kernel
theorem dX6_copyFrom_1 : decode cX6_copyFrom 1 = .ok (.aload_n 1, 1) := by decide +kernel
theorem dX6_copyFrom_2 : decode cX6_copyFrom 2 = .ok (.getfield 9, 3) := by decide +kernel
theorem dX6_copyFrom_5 : decode cX6_copyFrom 5 = .ok (.putfield 9, 3) := by decide +kernel
theorem dX6_copyFrom_8 : decode cX6_copyFrom 8 = .ok (.aload_n 0, 1) := by decide +kernel
theorem dX6_copyFrom_9 : decode cX6_copyFrom 9 = .ok (.aload_n 1, 1) := by decide +kernel
theorem dX6_copyFrom_10 : decode cX6_copyFrom 10 = .ok (.getfield 15, 3) := by decide +kernel
theorem dX6_copyFrom_13 : decode cX6_copyFrom 13 = .ok (.putfield 15, 3) := by decide +kernel
theorem dX6_copyFrom_16 : decode cX6_copyFrom 16 = .ok (.aload_n 0, 1) := by decide +kernel
theorem dX6_copyFrom_17 : decode cX6_copyFrom 17 = .ok (.aload_n 1, 1) := by decide +kernel
theorem dX6_copyFrom_18 : decode cX6_copyFrom 18 = .ok (.getfield 19, 3) := by decide +kernel
theorem dX6_copyFrom_21 : decode cX6_copyFrom 21 = .ok (.putfield 19, 3) := by decide +kernel
theorem dX6_copyFrom_24 : decode cX6_copyFrom 24 = .ok (.aload_n 0, 1) := by decide +kernel
theorem dX6_copyFrom_25 : decode cX6_copyFrom 25 = .ok (.aload_n 1, 1) := by decide +kernel
theorem dX6_copyFrom_26 : decode cX6_copyFrom 26 = .ok (.getfield 22, 3) := by decide +kernel
theorem dX6_copyFrom_29 : decode cX6_copyFrom 29 = .ok (.putfield 22, 3) := by decide +kernel
theorem dX6_copyFrom_32 : decode cX6_copyFrom 32 = .ok (.aload_n 0, 1) := by decide +kernel
theorem dX6_copyFrom_33 : decode cX6_copyFrom 33 = .ok (.aload_n 1, 1) := by decide +kernel
theorem dX6_copyFrom_34 : decode cX6_copyFrom 34 = .ok (.getfield 25, 3) := by decide +kernel
theorem dX6_copyFrom_37 : decode cX6_copyFrom 37 = .ok (.putfield 25, 3) := by decide +kernel
theorem dX6_copyFrom_40 : decode cX6_copyFrom 40 = .ok (.aload_n 0, 1) := by decide +kernel
theorem dX6_copyFrom_41 : decode cX6_copyFrom 41 = .ok (.aload_n 1, 1) := by decide +kernel
theorem dX6_copyFrom_42 : decode cX6_copyFrom 42 = .ok (.getfield 28, 3) := by decide +kernel
theorem dX6_copyFrom_45 : decode cX6_copyFrom 45 = .ok (.putfield 28, 3) := by decide +kernel
theorem dX6_copyFrom_48 : decode cX6_copyFrom 48 = .ok (.aload_n 0, 1) := by decide +kernel
theorem dX6_copyFrom_49 : decode cX6_copyFrom 49 = .ok (.aload_n 1, 1) := by decide +kernel
theorem dX6_copyFrom_50 : decode cX6_copyFrom 50 = .ok (.getfield 31, 3) := by decide +kernel
theorem dX6_copyFrom_53 : decode cX6_copyFrom 53 = .ok (.putfield 31, 3) := by decide +kernel
theorem dX6_copyFrom_56 : decode cX6_copyFrom 56 = .ok (.aload_n 0, 1) := by decide +kernel
theorem dX6_copyFrom_57 : decode cX6_copyFrom 57 = .ok (.aload_n 1, 1) := by decide +kernel
theorem dX6_copyFrom_58 : decode cX6_copyFrom 58 = .ok (.getfield 34, 3) := by decide +kernel
theorem dX6_copyFrom_61 : decode cX6_copyFrom 61 = .ok (.putfield 34, 3) := by decide +kernel
theorem dX6_copyFrom_64 : decode cX6_copyFrom 64 = .ok (.aload_n 0, 1) := by decide +kernel
theorem dX6_copyFrom_65 : decode cX6_copyFrom 65 = .ok (.aload_n 1, 1) := by decide +kernel
theorem dX6_copyFrom_66 : decode cX6_copyFrom 66 = .ok (.getfield 37, 3) := by decide +kernel
theorem dX6_copyFrom_69 : decode cX6_copyFrom 69 = .ok (.putfield 37, 3) := by decide +kernel
theorem dX6_copyFrom_72 : decode cX6_copyFrom 72 = .ok (.return_, 1) := by decide +kernel
theorem dX6_value_0 : decode cX6_value 0 = .ok (.iload_n 1, 1) := by decide +kernel
theorem dX6_value_1 : decode cX6_value 1 = .ok (.tableswitch 85 0 5 #[39, 52, 65, 70, 75, 80], 39) := by decide +kernel
theorem dX6_value_40 : decode cX6_value 40 = .ok (.aload_n 0, 1) := by decide +kernel
theorem dX6_value_41 : decode cX6_value 41 = .ok (.getfield 15, 3) := by decide +kernel
theorem dX6_value_44 : decode cX6_value 44 = .ok (.ifCond .eq 7, 3) := by decide +kernel
theorem dX6_value_47 : decode cX6_value 47 = .ok (.iconst 1, 1) := by decide +kernel
theorem dX6_value_48 : decode cX6_value 48 = .ok (.goto 4, 3) := by decide +kernel
theorem dX6_value_51 : decode cX6_value 51 = .ok (.iconst 0, 1) := by decide +kernel
theorem dX6_value_52 : decode cX6_value 52 = .ok (.ireturn, 1) := by decide +kernel
theorem dX6_value_53 : decode cX6_value 53 = .ok (.aload_n 0, 1) := by decide +kernel
theorem dX6_value_54 : decode cX6_value 54 = .ok (.getfield 19, 3) := by decide +kernel
theorem dX6_value_57 : decode cX6_value 57 = .ok (.ifCond .eq 7, 3) := by decide +kernel
theorem dX6_value_60 : decode cX6_value 60 = .ok (.iconst 1, 1) := by decide +kernel
theorem dX6_value_61 : decode cX6_value 61 = .ok (.goto 4, 3) := by decide +kernel
theorem dX6_value_64 : decode cX6_value 64 = .ok (.iconst 0, 1) := by decide +kernel
theorem dX6_value_65 : decode cX6_value 65 = .ok (.ireturn, 1) := by decide +kernel
theorem dX6_value_66 : decode cX6_value 66 = .ok (.aload_n 0, 1) := by decide +kernel
theorem dX6_value_67 : decode cX6_value 67 = .ok (.getfield 22, 3) := by decide +kernel
theorem dX6_value_70 : decode cX6_value 70 = .ok (.ireturn, 1) := by decide +kernel
theorem dX6_value_71 : decode cX6_value 71 = .ok (.aload_n 0, 1) := by decide +kernel
theorem dX6_value_72 : decode cX6_value 72 = .ok (.getfield 25, 3) := by decide +kernel
theorem dX6_value_75 : decode cX6_value 75 = .ok (.ireturn, 1) := by decide +kernel
theorem dX6_value_76 : decode cX6_value 76 = .ok (.aload_n 0, 1) := by decide +kernel
theorem dX6_value_77 : decode cX6_value 77 = .ok (.getfield 31, 3) := by decide +kernel
theorem dX6_value_80 : decode cX6_value 80 = .ok (.ireturn, 1) := by decide +kernel
theorem dX6_value_81 : decode cX6_value 81 = .ok (.aload_n 0, 1) := by decide +kernel
theorem dX6_value_82 : decode cX6_value 82 = .ok (.getfield 34, 3) := by decide +kernel
theorem dX6_value_85 : decode cX6_value 85 = .ok (.ireturn, 1) := by decide +kernel
theorem dX6_value_86 : decode cX6_value 86 = .ok (.aload_n 0, 1) := by decide +kernel
theorem dX6_value_87 : decode cX6_value 87 = .ok (.getfield 37, 3) := by decide +kernel
theorem dX6_value_90 : decode cX6_value 90 = .ok (.ireturn, 1) := by decide +kernel
theorem dX7_init_0 : decode cX7_init 0 = .ok (.aload_n 0, 1) := by decide +kernel
theorem dX7_init_1 : decode cX7_init 1 = .ok (.invokespecial 3, 3) := by decide +kernel
theorem dX7_init_4 : decode cX7_init 4 = .ok (.aload_n 0, 1) := by decide +kernel
theorem dX7_init_5 : decode cX7_init 5 = .ok (.iload_n 2, 1) := by decide +kernel
theorem dX7_init_6 : decode cX7_init 6 = .ok (.putfield 9, 3) := by decide +kernel
theorem dX7_init_9 : decode cX7_init 9 = .ok (.aload_n 0, 1) := by decide +kernel
theorem dX7_init_10 : decode cX7_init 10 = .ok (.iconst 0, 1) := by decide +kernel
theorem dX7_init_11 : decode cX7_init 11 = .ok (.iload_n 1, 1) := by decide +kernel
theorem dX7_init_12 : decode cX7_init 12 = .ok (.iload_n 2, 1) := by decide +kernel
theorem dX7_init_13 : decode cX7_init 13 = .ok (.imul, 1) := by decide +kernel
theorem dX7_init_14 : decode cX7_init 14 = .ok (.invokestatic 15, 3) := by decide +kernel
theorem dX7_init_17 : decode cX7_init 17 = .ok (.newarray .int, 2) := by decide +kernel
theorem dX7_init_19 : decode cX7_init 19 = .ok (.putfield 21, 3) := by decide +kernel
theorem dX7_init_22 : decode cX7_init 22 = .ok (.return_, 1) := by decide +kernel
theorem dX7_at_0 : decode cX7_at 0 = .ok (.iload_n 1, 1) := by decide +kernel
theorem dX7_at_1 : decode cX7_at 1 = .ok (.aload_n 0, 1) := by decide +kernel
theorem dX7_at_2 : decode cX7_at 2 = .ok (.getfield 9, 3) := by decide +kernel
theorem dX7_at_5 : decode cX7_at 5 = .ok (.imul, 1) := by decide +kernel
theorem dX7_at_6 : decode cX7_at 6 = .ok (.iload_n 2, 1) := by decide +kernel
theorem dX7_at_7 : decode cX7_at 7 = .ok (.iadd, 1) := by decide +kernel
theorem dX7_at_8 : decode cX7_at 8 = .ok (.istore_n 3, 1) := by decide +kernel
theorem dX7_at_9 : decode cX7_at 9 = .ok (.iload_n 3, 1) := by decide +kernel
theorem dX7_at_10 : decode cX7_at 10 = .ok (.ifCond .lt 21, 3) := by decide +kernel
theorem dX7_at_13 : decode cX7_at 13 = .ok (.iload_n 3, 1) := by decide +kernel
theorem dX7_at_14 : decode cX7_at 14 = .ok (.aload_n 0, 1) := by decide +kernel
theorem dX7_at_15 : decode cX7_at 15 = .ok (.getfield 21, 3) := by decide +kernel
theorem dX7_at_18 : decode cX7_at 18 = .ok (.arraylength, 1) := by decide +kernel
theorem dX7_at_19 : decode cX7_at 19 = .ok (.if_icmp .ge 12, 3) := by decide +kernel
theorem dX7_at_22 : decode cX7_at 22 = .ok (.aload_n 0, 1) := by decide +kernel
theorem dX7_at_23 : decode cX7_at 23 = .ok (.getfield 21, 3) := by decide +kernel
theorem dX7_at_26 : decode cX7_at 26 = .ok (.iload_n 3, 1) := by decide +kernel
theorem dX7_at_27 : decode cX7_at 27 = .ok (.iaload, 1) := by decide +kernel
theorem dX7_at_28 : decode cX7_at 28 = .ok (.goto 4, 3) := by decide +kernel
theorem dX7_at_31 : decode cX7_at 31 = .ok (.iconst (-1), 1) := by decide +kernel
theorem dX7_at_32 : decode cX7_at 32 = .ok (.ireturn, 1) := by decide +kernel
theorem dX7_put_0 : decode cX7_put 0 = .ok (.iload_n 1, 1) := by decide +kernel
theorem dX7_put_1 : decode cX7_put 1 = .ok (.aload_n 0, 1) := by decide +kernel
theorem dX7_put_2 : decode cX7_put 2 = .ok (.getfield 9, 3) := by decide +kernel
theorem dX7_put_5 : decode cX7_put 5 = .ok (.imul, 1) := by decide +kernel
theorem dX7_put_6 : decode cX7_put 6 = .ok (.iload_n 2, 1) := by decide +kernel
theorem dX7_put_7 : decode cX7_put 7 = .ok (.iadd, 1) := by decide +kernel
theorem dX7_put_8 : decode cX7_put 8 = .ok (.istore 4, 2) := by decide +kernel
theorem dX7_put_10 : decode cX7_put 10 = .ok (.iload 4, 2) := by decide +kernel
theorem dX7_put_12 : decode cX7_put 12 = .ok (.ifCond .lt 21, 3) := by decide +kernel
theorem dX7_put_15 : decode cX7_put 15 = .ok (.iload 4, 2) := by decide +kernel
theorem dX7_put_17 : decode cX7_put 17 = .ok (.aload_n 0, 1) := by decide +kernel
theorem dX7_put_18 : decode cX7_put 18 = .ok (.getfield 21, 3) := by decide +kernel
theorem dX7_put_21 : decode cX7_put 21 = .ok (.arraylength, 1) := by decide +kernel
theorem dX7_put_22 : decode cX7_put 22 = .ok (.if_icmp .ge 11, 3) := by decide +kernel
theorem dX7_put_25 : decode cX7_put 25 = .ok (.aload_n 0, 1) := by decide +kernel
theorem dX7_put_26 : decode cX7_put 26 = .ok (.getfield 21, 3) := by decide +kernel
theorem dX7_put_29 : decode cX7_put 29 = .ok (.iload 4, 2) := by decide +kernel
theorem dX7_put_31 : decode cX7_put 31 = .ok (.iload_n 3, 1) := by decide +kernel
theorem dX7_put_32 : decode cX7_put 32 = .ok (.iastore, 1) := by decide +kernel
theorem dX7_put_33 : decode cX7_put 33 = .ok (.return_, 1) := by decide +kernel
theorem dX7_copyFrom_0 : decode cX7_copyFrom 0 = .ok (.aload_n 0, 1) := by decide +kernel
theorem dX7_copyFrom_1 : decode cX7_copyFrom 1 = .ok (.getfield 21, 3) := by decide +kernel
theorem dX7_copyFrom_4 : decode cX7_copyFrom 4 = .ok (.arraylength, 1) := by decide +kernel
theorem dX7_copyFrom_5 : decode cX7_copyFrom 5 = .ok (.aload_n 1, 1) := by decide +kernel
theorem dX7_copyFrom_6 : decode cX7_copyFrom 6 = .ok (.getfield 21, 3) := by decide +kernel
theorem dX7_copyFrom_9 : decode cX7_copyFrom 9 = .ok (.arraylength, 1) := by decide +kernel
theorem dX7_copyFrom_10 : decode cX7_copyFrom 10 = .ok (.invokestatic 25, 3) := by decide +kernel
theorem dX7_copyFrom_13 : decode cX7_copyFrom 13 = .ok (.istore_n 3, 1) := by decide +kernel
theorem dX7_copyFrom_14 : decode cX7_copyFrom 14 = .ok (.iconst 0, 1) := by decide +kernel
theorem dX7_copyFrom_15 : decode cX7_copyFrom 15 = .ok (.iload_n 3, 1) := by decide +kernel
theorem dX7_copyFrom_16 : decode cX7_copyFrom 16 = .ok (.iload_n 2, 1) := by decide +kernel
theorem dX7_copyFrom_17 : decode cX7_copyFrom 17 = .ok (.aload_n 0, 1) := by decide +kernel
theorem dX7_copyFrom_18 : decode cX7_copyFrom 18 = .ok (.getfield 9, 3) := by decide +kernel
theorem dX7_copyFrom_21 : decode cX7_copyFrom 21 = .ok (.imul, 1) := by decide +kernel
theorem dX7_copyFrom_22 : decode cX7_copyFrom 22 = .ok (.invokestatic 25, 3) := by decide +kernel
theorem dX7_copyFrom_25 : decode cX7_copyFrom 25 = .ok (.invokestatic 15, 3) := by decide +kernel
theorem dX7_copyFrom_28 : decode cX7_copyFrom 28 = .ok (.istore 4, 2) := by decide +kernel
theorem dX7_copyFrom_30 : decode cX7_copyFrom 30 = .ok (.aload_n 1, 1) := by decide +kernel
theorem dX7_copyFrom_31 : decode cX7_copyFrom 31 = .ok (.getfield 21, 3) := by decide +kernel
theorem dX7_copyFrom_34 : decode cX7_copyFrom 34 = .ok (.iconst 0, 1) := by decide +kernel
theorem dX7_copyFrom_35 : decode cX7_copyFrom 35 = .ok (.aload_n 0, 1) := by decide +kernel
theorem dX7_copyFrom_36 : decode cX7_copyFrom 36 = .ok (.getfield 21, 3) := by decide +kernel
theorem dX7_copyFrom_39 : decode cX7_copyFrom 39 = .ok (.iconst 0, 1) := by decide +kernel
theorem dX7_copyFrom_40 : decode cX7_copyFrom 40 = .ok (.iload 4, 2) := by decide +kernel
theorem dX7_copyFrom_42 : decode cX7_copyFrom 42 = .ok (.invokestatic 28, 3) := by decide +kernel
theorem dX7_copyFrom_45 : decode cX7_copyFrom 45 = .ok (.return_, 1) := by decide +kernel
theorem dX8_makeVisit_0 : decode cX8_makeVisit 0 = .ok (.aload_n 0, 1) := by decide +kernel
theorem dX8_makeVisit_1 : decode cX8_makeVisit 1 = .ok (.aload_n 0, 1) := by decide +kernel
theorem dX8_makeVisit_2 : decode cX8_makeVisit 2 = .ok (.getfield 9, 3) := by decide +kernel
theorem dX8_makeVisit_5 : decode cX8_makeVisit 5 = .ok (.invokevirtual 15, 3) := by decide +kernel
theorem dX8_makeVisit_8 : decode cX8_makeVisit 8 = .ok (.astore_n 1, 1) := by decide +kernel
theorem dX8_makeVisit_9 : decode cX8_makeVisit 9 = .ok (.aload_n 1, 1) := by decide +kernel
theorem dX8_makeVisit_10 : decode cX8_makeVisit 10 = .ok (.ifnonnull 8, 3) := by decide +kernel
theorem dX8_makeVisit_13 : decode cX8_makeVisit 13 = .ok (.aload_n 0, 1) := by decide +kernel
theorem dX8_makeVisit_14 : decode cX8_makeVisit 14 = .ok (.invokestatic 19, 3) := by decide +kernel
theorem dX8_makeVisit_17 : decode cX8_makeVisit 17 = .ok (.astore_n 1, 1) := by decide +kernel
theorem dX8_makeVisit_18 : decode cX8_makeVisit 18 = .ok (.aload_n 1, 1) := by decide +kernel
theorem dX8_makeVisit_19 : decode cX8_makeVisit 19 = .ok (.ifnonnull 4, 3) := by decide +kernel
theorem dX8_makeVisit_22 : decode cX8_makeVisit 22 = .ok (.return_, 1) := by decide +kernel
theorem dX8_makeVisit_23 : decode cX8_makeVisit 23 = .ok (.aload_n 0, 1) := by decide +kernel
theorem dX8_makeVisit_24 : decode cX8_makeVisit 24 = .ok (.getfield 25, 3) := by decide +kernel
theorem dX8_makeVisit_27 : decode cX8_makeVisit 27 = .ok (.istore_n 2, 1) := by decide +kernel
theorem dX8_makeVisit_28 : decode cX8_makeVisit 28 = .ok (.aload_n 0, 1) := by decide +kernel
theorem dX8_makeVisit_29 : decode cX8_makeVisit 29 = .ok (.aload_n 1, 1) := by decide +kernel
theorem dX8_makeVisit_30 : decode cX8_makeVisit 30 = .ok (.invokestatic 28, 3) := by decide +kernel
theorem dX8_makeVisit_33 : decode cX8_makeVisit 33 = .ok (.istore_n 3, 1) := by decide +kernel
theorem dX8_makeVisit_34 : decode cX8_makeVisit 34 = .ok (.aload_n 0, 1) := by decide +kernel
theorem dX8_makeVisit_35 : decode cX8_makeVisit 35 = .ok (.aload_n 1, 1) := by decide +kernel
theorem dX8_makeVisit_36 : decode cX8_makeVisit 36 = .ok (.aload_n 0, 1) := by decide +kernel
theorem dX8_makeVisit_37 : decode cX8_makeVisit 37 = .ok (.getfield 32, 3) := by decide +kernel
theorem dX8_makeVisit_40 : decode cX8_makeVisit 40 = .ok (.iload_n 3, 1) := by decide +kernel
theorem dX8_makeVisit_41 : decode cX8_makeVisit 41 = .ok (.isub, 1) := by decide +kernel
theorem dX8_makeVisit_42 : decode cX8_makeVisit 42 = .ok (.invokestatic 35, 3) := by decide +kernel
theorem dX8_makeVisit_45 : decode cX8_makeVisit 45 = .ok (.istore 4, 2) := by decide +kernel
theorem dX8_makeVisit_47 : decode cX8_makeVisit 47 = .ok (.aload_n 0, 1) := by decide +kernel
theorem dX8_makeVisit_48 : decode cX8_makeVisit 48 = .ok (.aload_n 1, 1) := by decide +kernel
theorem dX8_makeVisit_49 : decode cX8_makeVisit 49 = .ok (.invokestatic 39, 3) := by decide +kernel
theorem dX8_makeVisit_52 : decode cX8_makeVisit 52 = .ok (.aload_n 0, 1) := by decide +kernel
theorem dX8_makeVisit_53 : decode cX8_makeVisit 53 = .ok (.aload_n 1, 1) := by decide +kernel
theorem dX8_makeVisit_54 : decode cX8_makeVisit 54 = .ok (.invokestatic 43, 3) := by decide +kernel
theorem dX8_makeVisit_57 : decode cX8_makeVisit 57 = .ok (.ifCond .ne 13, 3) := by decide +kernel
theorem dX8_makeVisit_60 : decode cX8_makeVisit 60 = .ok (.aload_n 0, 1) := by decide +kernel
theorem dX8_makeVisit_61 : decode cX8_makeVisit 61 = .ok (.aload_n 1, 1) := by decide +kernel
theorem dX8_makeVisit_62 : decode cX8_makeVisit 62 = .ok (.invokestatic 47, 3) := by decide +kernel
theorem dX8_makeVisit_65 : decode cX8_makeVisit 65 = .ok (.aload_n 0, 1) := by decide +kernel
theorem dX8_makeVisit_66 : decode cX8_makeVisit 66 = .ok (.aload_n 1, 1) := by decide +kernel
theorem dX8_makeVisit_67 : decode cX8_makeVisit 67 = .ok (.invokestatic 50, 3) := by decide +kernel
theorem dX8_makeVisit_70 : decode cX8_makeVisit 70 = .ok (.aload_n 0, 1) := by decide +kernel
theorem dX8_makeVisit_71 : decode cX8_makeVisit 71 = .ok (.iload_n 2, 1) := by decide +kernel
theorem dX8_makeVisit_72 : decode cX8_makeVisit 72 = .ok (.aload_n 1, 1) := by decide +kernel
theorem dX8_makeVisit_73 : decode cX8_makeVisit 73 = .ok (.getfield 53, 3) := by decide +kernel
theorem dX8_makeVisit_76 : decode cX8_makeVisit 76 = .ok (.iload_n 3, 1) := by decide +kernel
theorem dX8_makeVisit_77 : decode cX8_makeVisit 77 = .ok (.iload 4, 2) := by decide +kernel
theorem dX8_makeVisit_79 : decode cX8_makeVisit 79 = .ok (.invokevirtual 58, 3) := by decide +kernel
theorem dX8_makeVisit_82 : decode cX8_makeVisit 82 = .ok (.return_, 1) := by decide +kernel
theorem dX8_makeAnew_0 : decode cX8_makeAnew 0 = .ok (.aload_n 0, 1) := by decide +kernel
theorem dX8_makeAnew_1 : decode cX8_makeAnew 1 = .ok (.iconst 1, 1) := by decide +kernel
theorem dX8_makeAnew_2 : decode cX8_makeAnew 2 = .ok (.invokestatic 62, 3) := by decide +kernel
theorem dX8_makeAnew_5 : decode cX8_makeAnew 5 = .ok (.astore_n 1, 1) := by decide +kernel
theorem dX8_makeAnew_6 : decode cX8_makeAnew 6 = .ok (.aload_n 1, 1) := by decide +kernel
theorem dX8_makeAnew_7 : decode cX8_makeAnew 7 = .ok (.ifnonnull 9, 3) := by decide +kernel
theorem dX8_makeAnew_10 : decode cX8_makeAnew 10 = .ok (.aload_n 0, 1) := by decide +kernel
theorem dX8_makeAnew_11 : decode cX8_makeAnew 11 = .ok (.iconst 0, 1) := by decide +kernel
theorem dX8_makeAnew_12 : decode cX8_makeAnew 12 = .ok (.invokestatic 62, 3) := by decide +kernel
theorem dX8_makeAnew_15 : decode cX8_makeAnew 15 = .ok (.astore_n 1, 1) := by decide +kernel
theorem dX8_makeAnew_16 : decode cX8_makeAnew 16 = .ok (.aload_n 1, 1) := by decide +kernel
theorem dX8_makeAnew_17 : decode cX8_makeAnew 17 = .ok (.ifnonnull 5, 3) := by decide +kernel
theorem dX8_makeAnew_20 : decode cX8_makeAnew 20 = .ok (.aconst_null, 1) := by decide +kernel
theorem dX8_makeAnew_21 : decode cX8_makeAnew 21 = .ok (.areturn, 1) := by decide +kernel
theorem dX8_makeAnew_22 : decode cX8_makeAnew 22 = .ok (.aload_n 0, 1) := by decide +kernel
theorem dX8_makeAnew_23 : decode cX8_makeAnew 23 = .ok (.dup, 1) := by decide +kernel
theorem dX8_makeAnew_24 : decode cX8_makeAnew 24 = .ok (.getfield 25, 3) := by decide +kernel
theorem dX8_makeAnew_27 : decode cX8_makeAnew 27 = .ok (.aload_n 0, 1) := by decide +kernel
theorem dX8_makeAnew_28 : decode cX8_makeAnew 28 = .ok (.getfield 66, 3) := by decide +kernel
theorem dX8_makeAnew_31 : decode cX8_makeAnew 31 = .ok (.bipush 6, 2) := by decide +kernel
theorem dX8_makeAnew_33 : decode cX8_makeAnew 33 = .ok (.iconst 2, 1) := by decide +kernel
theorem dX8_makeAnew_34 : decode cX8_makeAnew 34 = .ok (.aload_n 1, 1) := by decide +kernel
theorem dX8_makeAnew_35 : decode cX8_makeAnew 35 = .ok (.getfield 53, 3) := by decide +kernel
theorem dX8_makeAnew_38 : decode cX8_makeAnew 38 = .ok (.imul, 1) := by decide +kernel
theorem dX8_makeAnew_39 : decode cX8_makeAnew 39 = .ok (.iadd, 1) := by decide +kernel
theorem dX8_makeAnew_40 : decode cX8_makeAnew 40 = .ok (.imul, 1) := by decide +kernel
theorem dX8_makeAnew_41 : decode cX8_makeAnew 41 = .ok (.iadd, 1) := by decide +kernel
theorem dX8_makeAnew_42 : decode cX8_makeAnew 42 = .ok (.putfield 25, 3) := by decide +kernel
theorem dX8_makeAnew_45 : decode cX8_makeAnew 45 = .ok (.aload_n 1, 1) := by decide +kernel
theorem dX8_makeAnew_46 : decode cX8_makeAnew 46 = .ok (.getfield 69, 3) := by decide +kernel
theorem dX8_makeAnew_49 : decode cX8_makeAnew 49 = .ok (.ifCond .ne 16, 3) := by decide +kernel
theorem dX8_makeAnew_52 : decode cX8_makeAnew 52 = .ok (.aload_n 1, 1) := by decide +kernel
theorem dX8_makeAnew_53 : decode cX8_makeAnew 53 = .ok (.iconst 1, 1) := by decide +kernel
theorem dX8_makeAnew_54 : decode cX8_makeAnew 54 = .ok (.putfield 69, 3) := by decide +kernel
theorem dX8_makeAnew_57 : decode cX8_makeAnew 57 = .ok (.aload_n 1, 1) := by decide +kernel
theorem dX8_makeAnew_58 : decode cX8_makeAnew 58 = .ok (.aload_n 1, 1) := by decide +kernel
theorem dX8_makeAnew_59 : decode cX8_makeAnew 59 = .ok (.getfield 53, 3) := by decide +kernel
theorem dX8_makeAnew_62 : decode cX8_makeAnew 62 = .ok (.putfield 73, 3) := by decide +kernel
theorem dX8_makeAnew_65 : decode cX8_makeAnew 65 = .ok (.aload_n 0, 1) := by decide +kernel
theorem dX8_makeAnew_66 : decode cX8_makeAnew 66 = .ok (.aload_n 1, 1) := by decide +kernel
theorem dX8_makeAnew_67 : decode cX8_makeAnew 67 = .ok (.getfield 53, 3) := by decide +kernel
theorem dX8_makeAnew_70 : decode cX8_makeAnew 70 = .ok (.putfield 9, 3) := by decide +kernel
theorem dX8_makeAnew_73 : decode cX8_makeAnew 73 = .ok (.aload_n 0, 1) := by decide +kernel
theorem dX8_makeAnew_74 : decode cX8_makeAnew 74 = .ok (.getfield 76, 3) := by decide +kernel
theorem dX8_makeAnew_77 : decode cX8_makeAnew 77 = .ok (.dup, 1) := by decide +kernel
theorem dX8_makeAnew_78 : decode cX8_makeAnew 78 = .ok (.getfield 80, 3) := by decide +kernel
theorem dX8_makeAnew_81 : decode cX8_makeAnew 81 = .ok (.iconst 1, 1) := by decide +kernel
theorem dX8_makeAnew_82 : decode cX8_makeAnew 82 = .ok (.iadd, 1) := by decide +kernel
theorem dX8_makeAnew_83 : decode cX8_makeAnew 83 = .ok (.putfield 80, 3) := by decide +kernel
theorem dX8_makeAnew_86 : decode cX8_makeAnew 86 = .ok (.aload_n 1, 1) := by decide +kernel
theorem dX8_makeAnew_87 : decode cX8_makeAnew 87 = .ok (.areturn, 1) := by decide +kernel
theorem dX8_lowest_0 : decode cX8_lowest 0 = .ok (.iconst 0, 1) := by decide +kernel
theorem dX8_lowest_1 : decode cX8_lowest 1 = .ok (.istore_n 2, 1) := by decide +kernel
theorem dX8_lowest_2 : decode cX8_lowest 2 = .ok (.iload_n 2, 1) := by decide +kernel
theorem dX8_lowest_3 : decode cX8_lowest 3 = .ok (.aload_n 0, 1) := by decide +kernel
theorem dX8_lowest_4 : decode cX8_lowest 4 = .ok (.getfield 85, 3) := by decide +kernel
theorem dX8_lowest_7 : decode cX8_lowest 7 = .ok (.if_icmp .ge 39, 3) := by decide +kernel
theorem dX8_lowest_10 : decode cX8_lowest 10 = .ok (.aload_n 0, 1) := by decide +kernel
theorem dX8_lowest_11 : decode cX8_lowest 11 = .ok (.iload_n 2, 1) := by decide +kernel
theorem dX8_lowest_12 : decode cX8_lowest 12 = .ok (.invokevirtual 88, 3) := by decide +kernel
theorem dX8_lowest_15 : decode cX8_lowest 15 = .ok (.astore_n 3, 1) := by decide +kernel
theorem dX8_lowest_16 : decode cX8_lowest 16 = .ok (.aload_n 3, 1) := by decide +kernel
theorem dX8_lowest_17 : decode cX8_lowest 17 = .ok (.ifnull 23, 3) := by decide +kernel
theorem dX8_lowest_20 : decode cX8_lowest 20 = .ok (.aload_n 3, 1) := by decide +kernel
theorem dX8_lowest_21 : decode cX8_lowest 21 = .ok (.getfield 91, 3) := by decide +kernel
theorem dX8_lowest_24 : decode cX8_lowest 24 = .ok (.ifCond .eq 16, 3) := by decide +kernel
theorem dX8_lowest_27 : decode cX8_lowest 27 = .ok (.aload_n 3, 1) := by decide +kernel
theorem dX8_lowest_28 : decode cX8_lowest 28 = .ok (.getfield 69, 3) := by decide +kernel
theorem dX8_lowest_31 : decode cX8_lowest 31 = .ok (.ifCond .ne 7, 3) := by decide +kernel
theorem dX8_lowest_34 : decode cX8_lowest 34 = .ok (.iload_n 1, 1) := by decide +kernel
theorem dX8_lowest_35 : decode cX8_lowest 35 = .ok (.ifCond .ne 5, 3) := by decide +kernel
theorem dX8_lowest_38 : decode cX8_lowest 38 = .ok (.aload_n 3, 1) := by decide +kernel
theorem dX8_lowest_39 : decode cX8_lowest 39 = .ok (.areturn, 1) := by decide +kernel
theorem dX8_lowest_40 : decode cX8_lowest 40 = .ok (.iinc 2 1, 3) := by decide +kernel
theorem dX8_lowest_43 : decode cX8_lowest 43 = .ok (.goto (-41), 3) := by decide +kernel
theorem dX8_lowest_46 : decode cX8_lowest 46 = .ok (.aconst_null, 1) := by decide +kernel
theorem dX8_lowest_47 : decode cX8_lowest 47 = .ok (.areturn, 1) := by decide +kernel
theorem dX8_beginVisit_0 : decode cX8_beginVisit 0 = .ok (.aload_n 1, 1) := by decide +kernel
theorem dX8_beginVisit_1 : decode cX8_beginVisit 1 = .ok (.getfield 94, 3) := by decide +kernel
theorem dX8_beginVisit_4 : decode cX8_beginVisit 4 = .ok (.iconst (-1), 1) := by decide +kernel
theorem dX8_beginVisit_5 : decode cX8_beginVisit 5 = .ok (.if_icmp .ne 7, 3) := by decide +kernel
theorem dX8_beginVisit_8 : decode cX8_beginVisit 8 = .ok (.iconst 0, 1) := by decide +kernel
theorem dX8_beginVisit_9 : decode cX8_beginVisit 9 = .ok (.goto 12, 3) := by decide +kernel
theorem dX8_beginVisit_12 : decode cX8_beginVisit 12 = .ok (.aload_n 0, 1) := by decide +kernel
theorem dX8_beginVisit_13 : decode cX8_beginVisit 13 = .ok (.getfield 25, 3) := by decide +kernel
theorem dX8_beginVisit_16 : decode cX8_beginVisit 16 = .ok (.aload_n 1, 1) := by decide +kernel
theorem dX8_beginVisit_17 : decode cX8_beginVisit 17 = .ok (.getfield 94, 3) := by decide +kernel
theorem dX8_beginVisit_20 : decode cX8_beginVisit 20 = .ok (.isub, 1) := by decide +kernel
theorem dX8_beginVisit_21 : decode cX8_beginVisit 21 = .ok (.istore_n 2, 1) := by decide +kernel
theorem dX8_beginVisit_22 : decode cX8_beginVisit 22 = .ok (.aload_n 1, 1) := by decide +kernel
theorem dX8_beginVisit_23 : decode cX8_beginVisit 23 = .ok (.aload_n 0, 1) := by decide +kernel
theorem dX8_beginVisit_24 : decode cX8_beginVisit 24 = .ok (.getfield 25, 3) := by decide +kernel
theorem dX8_beginVisit_27 : decode cX8_beginVisit 27 = .ok (.putfield 94, 3) := by decide +kernel
theorem dX8_beginVisit_30 : decode cX8_beginVisit 30 = .ok (.aload_n 1, 1) := by decide +kernel
theorem dX8_beginVisit_31 : decode cX8_beginVisit 31 = .ok (.dup, 1) := by decide +kernel
theorem dX8_beginVisit_32 : decode cX8_beginVisit 32 = .ok (.getfield 97, 3) := by decide +kernel
theorem dX8_beginVisit_35 : decode cX8_beginVisit 35 = .ok (.iconst 1, 1) := by decide +kernel
theorem dX8_beginVisit_36 : decode cX8_beginVisit 36 = .ok (.iadd, 1) := by decide +kernel
theorem dX8_beginVisit_37 : decode cX8_beginVisit 37 = .ok (.putfield 97, 3) := by decide +kernel
theorem dX8_beginVisit_40 : decode cX8_beginVisit 40 = .ok (.aload_n 0, 1) := by decide +kernel
theorem dX8_beginVisit_41 : decode cX8_beginVisit 41 = .ok (.getfield 76, 3) := by decide +kernel
theorem dX8_beginVisit_44 : decode cX8_beginVisit 44 = .ok (.dup, 1) := by decide +kernel
theorem dX8_beginVisit_45 : decode cX8_beginVisit 45 = .ok (.getfield 100, 3) := by decide +kernel
theorem dX8_beginVisit_48 : decode cX8_beginVisit 48 = .ok (.iconst 1, 1) := by decide +kernel
theorem dX8_beginVisit_49 : decode cX8_beginVisit 49 = .ok (.iadd, 1) := by decide +kernel
theorem dX8_beginVisit_50 : decode cX8_beginVisit 50 = .ok (.putfield 100, 3) := by decide +kernel
theorem dX8_beginVisit_53 : decode cX8_beginVisit 53 = .ok (.aload_n 0, 1) := by decide +kernel
theorem dX8_beginVisit_54 : decode cX8_beginVisit 54 = .ok (.getfield 76, 3) := by decide +kernel
theorem dX8_beginVisit_57 : decode cX8_beginVisit 57 = .ok (.aload_n 0, 1) := by decide +kernel
theorem dX8_beginVisit_58 : decode cX8_beginVisit 58 = .ok (.getfield 76, 3) := by decide +kernel
theorem dX8_beginVisit_61 : decode cX8_beginVisit 61 = .ok (.getfield 101, 3) := by decide +kernel
theorem dX8_beginVisit_64 : decode cX8_beginVisit 64 = .ok (.iload_n 2, 1) := by decide +kernel
theorem dX8_beginVisit_65 : decode cX8_beginVisit 65 = .ok (.invokestatic 104, 3) := by decide +kernel
theorem dX8_beginVisit_68 : decode cX8_beginVisit 68 = .ok (.putfield 101, 3) := by decide +kernel
theorem dX8_beginVisit_71 : decode cX8_beginVisit 71 = .ok (.iload_n 2, 1) := by decide +kernel
theorem dX8_beginVisit_72 : decode cX8_beginVisit 72 = .ok (.ireturn, 1) := by decide +kernel
theorem dX8_sendMessages_0 : decode cX8_sendMessages 0 = .ok (.aload_n 0, 1) := by decide +kernel
theorem dX8_sendMessages_1 : decode cX8_sendMessages 1 = .ok (.getfield 25, 3) := by decide +kernel
theorem dX8_sendMessages_4 : decode cX8_sendMessages 4 = .ok (.istore_n 3, 1) := by decide +kernel
theorem dX8_sendMessages_5 : decode cX8_sendMessages 5 = .ok (.iconst 0, 1) := by decide +kernel
theorem dX8_sendMessages_6 : decode cX8_sendMessages 6 = .ok (.istore 4, 2) := by decide +kernel
theorem dX8_sendMessages_8 : decode cX8_sendMessages 8 = .ok (.aload_n 0, 1) := by decide +kernel
theorem dX8_sendMessages_9 : decode cX8_sendMessages 9 = .ok (.getfield 110, 3) := by decide +kernel
theorem dX8_sendMessages_12 : decode cX8_sendMessages 12 = .ok (.aload_n 1, 1) := by decide +kernel
theorem dX8_sendMessages_13 : decode cX8_sendMessages 13 = .ok (.getfield 114, 3) := by decide +kernel
theorem dX8_sendMessages_16 : decode cX8_sendMessages 16 = .ok (.invokevirtual 117, 3) := by decide +kernel
theorem dX8_sendMessages_19 : decode cX8_sendMessages 19 = .ok (.istore 5, 2) := by decide +kernel
theorem dX8_sendMessages_21 : decode cX8_sendMessages 21 = .ok (.iload 4, 2) := by decide +kernel
theorem dX8_sendMessages_23 : decode cX8_sendMessages 23 = .ok (.bipush 100, 2) := by decide +kernel
theorem dX8_sendMessages_25 : decode cX8_sendMessages 25 = .ok (.if_icmp .ge 48, 3) := by decide +kernel
theorem dX8_sendMessages_28 : decode cX8_sendMessages 28 = .ok (.aload_n 1, 1) := by decide +kernel
theorem dX8_sendMessages_29 : decode cX8_sendMessages 29 = .ok (.getfield 123, 3) := by decide +kernel
theorem dX8_sendMessages_32 : decode cX8_sendMessages 32 = .ok (.ifCond .le 41, 3) := by decide +kernel
theorem dX8_sendMessages_35 : decode cX8_sendMessages 35 = .ok (.iload 5, 2) := by decide +kernel
theorem dX8_sendMessages_37 : decode cX8_sendMessages 37 = .ok (.ifCond .ne 16, 3) := by decide +kernel
theorem dX8_sendMessages_40 : decode cX8_sendMessages 40 = .ok (.aload_n 0, 1) := by decide +kernel
theorem dX8_sendMessages_41 : decode cX8_sendMessages 41 = .ok (.getfield 25, 3) := by decide +kernel
theorem dX8_sendMessages_44 : decode cX8_sendMessages 44 = .ok (.iload_n 3, 1) := by decide +kernel
theorem dX8_sendMessages_45 : decode cX8_sendMessages 45 = .ok (.isub, 1) := by decide +kernel
theorem dX8_sendMessages_46 : decode cX8_sendMessages 46 = .ok (.iload_n 2, 1) := by decide +kernel
theorem dX8_sendMessages_47 : decode cX8_sendMessages 47 = .ok (.if_icmp .lt 6, 3) := by decide +kernel
theorem dX8_sendMessages_50 : decode cX8_sendMessages 50 = .ok (.goto 23, 3) := by decide +kernel
theorem dX8_sendMessages_53 : decode cX8_sendMessages 53 = .ok (.aload_n 0, 1) := by decide +kernel
theorem dX8_sendMessages_54 : decode cX8_sendMessages 54 = .ok (.aload_n 1, 1) := by decide +kernel
theorem dX8_sendMessages_55 : decode cX8_sendMessages 55 = .ok (.invokestatic 126, 3) := by decide +kernel
theorem dX8_sendMessages_58 : decode cX8_sendMessages 58 = .ok (.ifCond .ne 6, 3) := by decide +kernel
theorem dX8_sendMessages_61 : decode cX8_sendMessages 61 = .ok (.goto 12, 3) := by decide +kernel
theorem dX8_sendMessages_64 : decode cX8_sendMessages 64 = .ok (.iconst 0, 1) := by decide +kernel
theorem dX8_sendMessages_65 : decode cX8_sendMessages 65 = .ok (.istore 5, 2) := by decide +kernel
theorem dX8_sendMessages_67 : decode cX8_sendMessages 67 = .ok (.iinc 4 1, 3) := by decide +kernel
theorem dX8_sendMessages_70 : decode cX8_sendMessages 70 = .ok (.goto (-49), 3) := by decide +kernel
theorem dX8_sendMessages_73 : decode cX8_sendMessages 73 = .ok (.iload 4, 2) := by decide +kernel
theorem dX8_sendMessages_75 : decode cX8_sendMessages 75 = .ok (.ireturn, 1) := by decide +kernel
theorem dX8_sendFirst_0 : decode cX8_sendFirst 0 = .ok (.aload_n 0, 1) := by decide +kernel
theorem dX8_sendFirst_1 : decode cX8_sendFirst 1 = .ok (.getfield 110, 3) := by decide +kernel
theorem dX8_sendFirst_4 : decode cX8_sendFirst 4 = .ok (.aload_n 1, 1) := by decide +kernel
theorem dX8_sendFirst_5 : decode cX8_sendFirst 5 = .ok (.getfield 114, 3) := by decide +kernel
theorem dX8_sendFirst_8 : decode cX8_sendFirst 8 = .ok (.iconst 0, 1) := by decide +kernel
theorem dX8_sendFirst_9 : decode cX8_sendFirst 9 = .ok (.invokevirtual 129, 3) := by decide +kernel
theorem dX8_sendFirst_12 : decode cX8_sendFirst 12 = .ok (.istore_n 2, 1) := by decide +kernel
theorem dX8_sendFirst_13 : decode cX8_sendFirst 13 = .ok (.aload_n 0, 1) := by decide +kernel
theorem dX8_sendFirst_14 : decode cX8_sendFirst 14 = .ok (.getfield 25, 3) := by decide +kernel
theorem dX8_sendFirst_17 : decode cX8_sendFirst 17 = .ok (.istore_n 3, 1) := by decide +kernel
theorem dX8_sendFirst_18 : decode cX8_sendFirst 18 = .ok (.aload_n 0, 1) := by decide +kernel
theorem dX8_sendFirst_19 : decode cX8_sendFirst 19 = .ok (.iload_n 2, 1) := by decide +kernel
theorem dX8_sendFirst_20 : decode cX8_sendFirst 20 = .ok (.invokevirtual 132, 3) := by decide +kernel
theorem dX8_sendFirst_23 : decode cX8_sendFirst 23 = .ok (.ifCond .ne 5, 3) := by decide +kernel
theorem dX8_sendFirst_26 : decode cX8_sendFirst 26 = .ok (.iconst 0, 1) := by decide +kernel
theorem dX8_sendFirst_27 : decode cX8_sendFirst 27 = .ok (.ireturn, 1) := by decide +kernel
theorem dX8_sendFirst_28 : decode cX8_sendFirst 28 = .ok (.aload_n 0, 1) := by decide +kernel
theorem dX8_sendFirst_29 : decode cX8_sendFirst 29 = .ok (.getfield 76, 3) := by decide +kernel
theorem dX8_sendFirst_32 : decode cX8_sendFirst 32 = .ok (.iload_n 2, 1) := by decide +kernel
theorem dX8_sendFirst_33 : decode cX8_sendFirst 33 = .ok (.aload_n 0, 1) := by decide +kernel
theorem dX8_sendFirst_34 : decode cX8_sendFirst 34 = .ok (.getfield 110, 3) := by decide +kernel
theorem dX8_sendFirst_37 : decode cX8_sendFirst 37 = .ok (.aload_n 1, 1) := by decide +kernel
theorem dX8_sendFirst_38 : decode cX8_sendFirst 38 = .ok (.iload_n 3, 1) := by decide +kernel
theorem dX8_sendFirst_39 : decode cX8_sendFirst 39 = .ok (.invokevirtual 135, 3) := by decide +kernel
theorem dX8_sendFirst_42 : decode cX8_sendFirst 42 = .ok (.invokevirtual 139, 3) := by decide +kernel
theorem dX8_sendFirst_45 : decode cX8_sendFirst 45 = .ok (.iconst 1, 1) := by decide +kernel
theorem dX8_sendFirst_46 : decode cX8_sendFirst 46 = .ok (.ireturn, 1) := by decide +kernel
theorem dX8_pollGap_0 : decode cX8_pollGap 0 = .ok (.aload_n 0, 1) := by decide +kernel
theorem dX8_pollGap_1 : decode cX8_pollGap 1 = .ok (.getfield 143, 3) := by decide +kernel
theorem dX8_pollGap_4 : decode cX8_pollGap 4 = .ok (.iconst 1, 1) := by decide +kernel
theorem dX8_pollGap_5 : decode cX8_pollGap 5 = .ok (.if_icmp .lt 15, 3) := by decide +kernel
theorem dX8_pollGap_8 : decode cX8_pollGap 8 = .ok (.aload_n 1, 1) := by decide +kernel
theorem dX8_pollGap_9 : decode cX8_pollGap 9 = .ok (.getfield 97, 3) := by decide +kernel
theorem dX8_pollGap_12 : decode cX8_pollGap 12 = .ok (.aload_n 0, 1) := by decide +kernel
theorem dX8_pollGap_13 : decode cX8_pollGap 13 = .ok (.getfield 143, 3) := by decide +kernel
theorem dX8_pollGap_16 : decode cX8_pollGap 16 = .ok (.irem, 1) := by decide +kernel
theorem dX8_pollGap_17 : decode cX8_pollGap 17 = .ok (.ifCond .eq 4, 3) := by decide +kernel
theorem dX8_pollGap_20 : decode cX8_pollGap 20 = .ok (.return_, 1) := by decide +kernel
theorem dX8_pollGap_21 : decode cX8_pollGap 21 = .ok (.aload_n 1, 1) := by decide +kernel
theorem dX8_pollGap_22 : decode cX8_pollGap 22 = .ok (.getfield 73, 3) := by decide +kernel
theorem dX8_pollGap_25 : decode cX8_pollGap 25 = .ok (.aload_n 1, 1) := by decide +kernel
theorem dX8_pollGap_26 : decode cX8_pollGap 26 = .ok (.getfield 53, 3) := by decide +kernel
theorem dX8_pollGap_29 : decode cX8_pollGap 29 = .ok (.isub, 1) := by decide +kernel
theorem dX8_pollGap_30 : decode cX8_pollGap 30 = .ok (.iconst 1, 1) := by decide +kernel
theorem dX8_pollGap_31 : decode cX8_pollGap 31 = .ok (.isub, 1) := by decide +kernel
theorem dX8_pollGap_32 : decode cX8_pollGap 32 = .ok (.bipush 31, 2) := by decide +kernel
theorem dX8_pollGap_34 : decode cX8_pollGap 34 = .ok (.iand, 1) := by decide +kernel
theorem dX8_pollGap_35 : decode cX8_pollGap 35 = .ok (.istore_n 2, 1) := by decide +kernel
theorem dX8_pollGap_36 : decode cX8_pollGap 36 = .ok (.iload_n 2, 1) := by decide +kernel
theorem dX8_pollGap_37 : decode cX8_pollGap 37 = .ok (.ifCond .ne 4, 3) := by decide +kernel
theorem dX8_pollGap_40 : decode cX8_pollGap 40 = .ok (.return_, 1) := by decide +kernel
theorem dX8_pollGap_41 : decode cX8_pollGap 41 = .ok (.aload_n 1, 1) := by decide +kernel
theorem dX8_pollGap_42 : decode cX8_pollGap 42 = .ok (.getfield 146, 3) := by decide +kernel
theorem dX8_pollGap_45 : decode cX8_pollGap 45 = .ok (.invokestatic 149, 3) := by decide +kernel
theorem dX8_pollGap_48 : decode cX8_pollGap 48 = .ok (.aload_n 1, 1) := by decide +kernel
theorem dX8_pollGap_49 : decode cX8_pollGap 49 = .ok (.getfield 53, 3) := by decide +kernel
theorem dX8_pollGap_52 : decode cX8_pollGap 52 = .ok (.isub, 1) := by decide +kernel
theorem dX8_pollGap_53 : decode cX8_pollGap 53 = .ok (.bipush 31, 2) := by decide +kernel
theorem dX8_pollGap_55 : decode cX8_pollGap 55 = .ok (.iand, 1) := by decide +kernel
theorem dX8_pollGap_56 : decode cX8_pollGap 56 = .ok (.istore_n 3, 1) := by decide +kernel
theorem dX8_pollGap_57 : decode cX8_pollGap 57 = .ok (.iload_n 3, 1) := by decide +kernel
theorem dX8_pollGap_58 : decode cX8_pollGap 58 = .ok (.iconst 1, 1) := by decide +kernel
theorem dX8_pollGap_59 : decode cX8_pollGap 59 = .ok (.if_icmp .lt 12, 3) := by decide +kernel
theorem dX8_pollGap_62 : decode cX8_pollGap 62 = .ok (.iload_n 3, 1) := by decide +kernel
theorem dX8_pollGap_63 : decode cX8_pollGap 63 = .ok (.iload_n 2, 1) := by decide +kernel
theorem dX8_pollGap_64 : decode cX8_pollGap 64 = .ok (.if_icmp .gt 7, 3) := by decide +kernel
theorem dX8_pollGap_67 : decode cX8_pollGap 67 = .ok (.iconst 1, 1) := by decide +kernel
theorem dX8_pollGap_68 : decode cX8_pollGap 68 = .ok (.goto 4, 3) := by decide +kernel
theorem dX8_pollGap_71 : decode cX8_pollGap 71 = .ok (.iconst 0, 1) := by decide +kernel
theorem dX8_pollGap_72 : decode cX8_pollGap 72 = .ok (.istore 4, 2) := by decide +kernel
theorem dX8_pollGap_74 : decode cX8_pollGap 74 = .ok (.aload_n 1, 1) := by decide +kernel
theorem dX8_pollGap_75 : decode cX8_pollGap 75 = .ok (.iload 4, 2) := by decide +kernel
theorem dX8_pollGap_77 : decode cX8_pollGap 77 = .ok (.ifCond .eq 13, 3) := by decide +kernel
theorem dX8_pollGap_80 : decode cX8_pollGap 80 = .ok (.aload_n 1, 1) := by decide +kernel
theorem dX8_pollGap_81 : decode cX8_pollGap 81 = .ok (.getfield 146, 3) := by decide +kernel
theorem dX8_pollGap_84 : decode cX8_pollGap 84 = .ok (.invokestatic 149, 3) := by decide +kernel
theorem dX8_pollGap_87 : decode cX8_pollGap 87 = .ok (.goto 10, 3) := by decide +kernel
theorem dX8_pollGap_90 : decode cX8_pollGap 90 = .ok (.aload_n 1, 1) := by decide +kernel
theorem dX8_pollGap_91 : decode cX8_pollGap 91 = .ok (.getfield 53, 3) := by decide +kernel
theorem dX8_pollGap_94 : decode cX8_pollGap 94 = .ok (.invokestatic 149, 3) := by decide +kernel
theorem dX8_pollGap_97 : decode cX8_pollGap 97 = .ok (.putfield 146, 3) := by decide +kernel
theorem dX8_pollGap_100 : decode cX8_pollGap 100 = .ok (.aload_n 0, 1) := by decide +kernel
theorem dX8_pollGap_101 : decode cX8_pollGap 101 = .ok (.aload_n 1, 1) := by decide +kernel
theorem dX8_pollGap_102 : decode cX8_pollGap 102 = .ok (.invokestatic 153, 3) := by decide +kernel
theorem dX8_pollGap_105 : decode cX8_pollGap 105 = .ok (.ifCond .ne 16, 3) := by decide +kernel
theorem dX8_pollGap_108 : decode cX8_pollGap 108 = .ok (.aload_n 0, 1) := by decide +kernel
theorem dX8_pollGap_109 : decode cX8_pollGap 109 = .ok (.dup, 1) := by decide +kernel
theorem dX8_pollGap_110 : decode cX8_pollGap 110 = .ok (.getfield 25, 3) := by decide +kernel
theorem dX8_pollGap_113 : decode cX8_pollGap 113 = .ok (.aload_n 0, 1) := by decide +kernel
theorem dX8_pollGap_114 : decode cX8_pollGap 114 = .ok (.getfield 66, 3) := by decide +kernel
theorem dX8_pollGap_117 : decode cX8_pollGap 117 = .ok (.iadd, 1) := by decide +kernel
theorem dX8_pollGap_118 : decode cX8_pollGap 118 = .ok (.putfield 25, 3) := by decide +kernel
theorem dX8_pollGap_121 : decode cX8_pollGap 121 = .ok (.return_, 1) := by decide +kernel
theorem dX8_comesIn_0 : decode cX8_comesIn 0 = .ok (.aload_n 0, 1) := by decide +kernel
theorem dX8_comesIn_1 : decode cX8_comesIn 1 = .ok (.iconst 1, 1) := by decide +kernel
theorem dX8_comesIn_2 : decode cX8_comesIn 2 = .ok (.invokevirtual 132, 3) := by decide +kernel
theorem dX8_comesIn_5 : decode cX8_comesIn 5 = .ok (.ifCond .eq 14, 3) := by decide +kernel
theorem dX8_comesIn_8 : decode cX8_comesIn 8 = .ok (.aload_n 0, 1) := by decide +kernel
theorem dX8_comesIn_9 : decode cX8_comesIn 9 = .ok (.aload_n 1, 1) := by decide +kernel
theorem dX8_comesIn_10 : decode cX8_comesIn 10 = .ok (.getfield 146, 3) := by decide +kernel
theorem dX8_comesIn_13 : decode cX8_comesIn 13 = .ok (.invokevirtual 15, 3) := by decide +kernel
theorem dX8_comesIn_16 : decode cX8_comesIn 16 = .ok (.goto 4, 3) := by decide +kernel
theorem dX8_comesIn_19 : decode cX8_comesIn 19 = .ok (.aconst_null, 1) := by decide +kernel
theorem dX8_comesIn_20 : decode cX8_comesIn 20 = .ok (.astore_n 2, 1) := by decide +kernel
theorem dX8_comesIn_21 : decode cX8_comesIn 21 = .ok (.aload_n 2, 1) := by decide +kernel
theorem dX8_comesIn_22 : decode cX8_comesIn 22 = .ok (.ifnull 17, 3) := by decide +kernel
theorem dX8_comesIn_25 : decode cX8_comesIn 25 = .ok (.aload_n 2, 1) := by decide +kernel
theorem dX8_comesIn_26 : decode cX8_comesIn 26 = .ok (.getfield 91, 3) := by decide +kernel
