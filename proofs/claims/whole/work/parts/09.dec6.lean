theorem dX10_isComplete_0 : decode cX10_isComplete 0 = .ok (.iconst 1, 1) := by decide +kernel
theorem dX10_isComplete_1 : decode cX10_isComplete 1 = .ok (.istore_n 1, 1) := by decide +kernel
theorem dX10_isComplete_2 : decode cX10_isComplete 2 = .ok (.iconst 0, 1) := by decide +kernel
theorem dX10_isComplete_3 : decode cX10_isComplete 3 = .ok (.istore_n 2, 1) := by decide +kernel
theorem dX10_isComplete_4 : decode cX10_isComplete 4 = .ok (.iload_n 2, 1) := by decide +kernel
theorem dX10_isComplete_5 : decode cX10_isComplete 5 = .ok (.bipush 32, 2) := by decide +kernel
theorem dX10_isComplete_7 : decode cX10_isComplete 7 = .ok (.if_icmp .ge 47, 3) := by decide +kernel
theorem dX10_isComplete_10 : decode cX10_isComplete 10 = .ok (.iload_n 1, 1) := by decide +kernel
theorem dX10_isComplete_11 : decode cX10_isComplete 11 = .ok (.ifCond .eq 35, 3) := by decide +kernel
theorem dX10_isComplete_14 : decode cX10_isComplete 14 = .ok (.aload_n 0, 1) := by decide +kernel
theorem dX10_isComplete_15 : decode cX10_isComplete 15 = .ok (.iload_n 2, 1) := by decide +kernel
theorem dX10_isComplete_16 : decode cX10_isComplete 16 = .ok (.iconst 0, 1) := by decide +kernel
theorem dX10_isComplete_17 : decode cX10_isComplete 17 = .ok (.invokevirtual 39, 3) := by decide +kernel
theorem dX10_isComplete_20 : decode cX10_isComplete 20 = .ok (.ifCond .eq 22, 3) := by decide +kernel
theorem dX10_isComplete_23 : decode cX10_isComplete 23 = .ok (.aload_n 0, 1) := by decide +kernel
theorem dX10_isComplete_24 : decode cX10_isComplete 24 = .ok (.iload_n 2, 1) := by decide +kernel
theorem dX10_isComplete_25 : decode cX10_isComplete 25 = .ok (.iconst 1, 1) := by decide +kernel
theorem dX10_isComplete_26 : decode cX10_isComplete 26 = .ok (.invokevirtual 39, 3) := by decide +kernel
theorem dX10_isComplete_29 : decode cX10_isComplete 29 = .ok (.ifCond .eq 13, 3) := by decide +kernel
theorem dX10_isComplete_32 : decode cX10_isComplete 32 = .ok (.aload_n 0, 1) := by decide +kernel
theorem dX10_isComplete_33 : decode cX10_isComplete 33 = .ok (.iload_n 2, 1) := by decide +kernel
theorem dX10_isComplete_34 : decode cX10_isComplete 34 = .ok (.iconst 2, 1) := by decide +kernel
theorem dX10_isComplete_35 : decode cX10_isComplete 35 = .ok (.invokevirtual 39, 3) := by decide +kernel
theorem dX10_isComplete_38 : decode cX10_isComplete 38 = .ok (.iconst 1, 1) := by decide +kernel
theorem dX10_isComplete_39 : decode cX10_isComplete 39 = .ok (.if_icmp .ne 7, 3) := by decide +kernel
theorem dX10_isComplete_42 : decode cX10_isComplete 42 = .ok (.iconst 1, 1) := by decide +kernel
theorem dX10_isComplete_43 : decode cX10_isComplete 43 = .ok (.goto 4, 3) := by decide +kernel
theorem dX10_isComplete_46 : decode cX10_isComplete 46 = .ok (.iconst 0, 1) := by decide +kernel
theorem dX10_isComplete_47 : decode cX10_isComplete 47 = .ok (.istore_n 1, 1) := by decide +kernel
theorem dX10_isComplete_48 : decode cX10_isComplete 48 = .ok (.iinc 2 1, 3) := by decide +kernel
theorem dX10_isComplete_51 : decode cX10_isComplete 51 = .ok (.goto (-47), 3) := by decide +kernel
theorem dX10_isComplete_54 : decode cX10_isComplete 54 = .ok (.iload_n 1, 1) := by decide +kernel
theorem dX10_isComplete_55 : decode cX10_isComplete 55 = .ok (.ireturn, 1) := by decide +kernel
theorem dX10_completeAfter_0 : decode cX10_completeAfter 0 = .ok (.aload_n 0, 1) := by decide +kernel
theorem dX10_completeAfter_1 : decode cX10_completeAfter 1 = .ok (.aload_n 0, 1) := by decide +kernel
theorem dX10_completeAfter_2 : decode cX10_completeAfter 2 = .ok (.getfield 7, 3) := by decide +kernel
theorem dX10_completeAfter_5 : decode cX10_completeAfter 5 = .ok (.iconst 3, 1) := by decide +kernel
theorem dX10_completeAfter_6 : decode cX10_completeAfter 6 = .ok (.iaload, 1) := by decide +kernel
theorem dX10_completeAfter_7 : decode cX10_completeAfter 7 = .ok (.ldc 118, 2) := by decide +kernel
theorem dX10_completeAfter_9 : decode cX10_completeAfter 9 = .ok (.if_icmp .gt 7, 3) := by decide +kernel
theorem dX10_completeAfter_12 : decode cX10_completeAfter 12 = .ok (.iconst 1, 1) := by decide +kernel
theorem dX10_completeAfter_13 : decode cX10_completeAfter 13 = .ok (.goto 4, 3) := by decide +kernel
theorem dX10_completeAfter_16 : decode cX10_completeAfter 16 = .ok (.iconst 0, 1) := by decide +kernel
theorem dX10_completeAfter_17 : decode cX10_completeAfter 17 = .ok (.iconst 1, 1) := by decide +kernel
theorem dX10_completeAfter_18 : decode cX10_completeAfter 18 = .ok (.iconst 1, 1) := by decide +kernel
theorem dX10_completeAfter_19 : decode cX10_completeAfter 19 = .ok (.invokevirtual 53, 3) := by decide +kernel
theorem dX10_completeAfter_22 : decode cX10_completeAfter 22 = .ok (.ifCond .ne 5, 3) := by decide +kernel
theorem dX10_completeAfter_25 : decode cX10_completeAfter 25 = .ok (.iconst 0, 1) := by decide +kernel
theorem dX10_completeAfter_26 : decode cX10_completeAfter 26 = .ok (.ireturn, 1) := by decide +kernel
theorem dX10_completeAfter_27 : decode cX10_completeAfter 27 = .ok (.aload_n 0, 1) := by decide +kernel
theorem dX10_completeAfter_28 : decode cX10_completeAfter 28 = .ok (.invokevirtual 143, 3) := by decide +kernel
theorem dX10_completeAfter_31 : decode cX10_completeAfter 31 = .ok (.iconst 0, 1) := by decide +kernel
theorem dX10_completeAfter_32 : decode cX10_completeAfter 32 = .ok (.istore_n 1, 1) := by decide +kernel
theorem dX10_completeAfter_33 : decode cX10_completeAfter 33 = .ok (.iload_n 1, 1) := by decide +kernel
theorem dX10_completeAfter_34 : decode cX10_completeAfter 34 = .ok (.sipush 300, 3) := by decide +kernel
theorem dX10_completeAfter_37 : decode cX10_completeAfter 37 = .ok (.if_icmp .ge 20, 3) := by decide +kernel
theorem dX10_completeAfter_40 : decode cX10_completeAfter 40 = .ok (.aload_n 0, 1) := by decide +kernel
theorem dX10_completeAfter_41 : decode cX10_completeAfter 41 = .ok (.invokevirtual 149, 3) := by decide +kernel
theorem dX10_completeAfter_44 : decode cX10_completeAfter 44 = .ok (.ifCond .ne 13, 3) := by decide +kernel
theorem dX10_completeAfter_47 : decode cX10_completeAfter 47 = .ok (.aload_n 0, 1) := by decide +kernel
theorem dX10_completeAfter_48 : decode cX10_completeAfter 48 = .ok (.invokevirtual 119, 3) := by decide +kernel
theorem dX10_completeAfter_51 : decode cX10_completeAfter 51 = .ok (.iinc 1 1, 3) := by decide +kernel
theorem dX10_completeAfter_54 : decode cX10_completeAfter 54 = .ok (.goto (-21), 3) := by decide +kernel
theorem dX10_completeAfter_57 : decode cX10_completeAfter 57 = .ok (.aload_n 0, 1) := by decide +kernel
theorem dX10_completeAfter_58 : decode cX10_completeAfter 58 = .ok (.invokevirtual 149, 3) := by decide +kernel
theorem dX10_completeAfter_61 : decode cX10_completeAfter 61 = .ok (.ifCond .eq 7, 3) := by decide +kernel
theorem dX10_completeAfter_64 : decode cX10_completeAfter 64 = .ok (.iload_n 1, 1) := by decide +kernel
theorem dX10_completeAfter_65 : decode cX10_completeAfter 65 = .ok (.goto 4, 3) := by decide +kernel
theorem dX10_completeAfter_68 : decode cX10_completeAfter 68 = .ok (.iconst (-1), 1) := by decide +kernel
theorem dX10_completeAfter_69 : decode cX10_completeAfter 69 = .ok (.istore_n 1, 1) := by decide +kernel
theorem dX10_completeAfter_70 : decode cX10_completeAfter 70 = .ok (.aload_n 0, 1) := by decide +kernel
theorem dX10_completeAfter_71 : decode cX10_completeAfter 71 = .ok (.invokevirtual 146, 3) := by decide +kernel
theorem dX10_completeAfter_74 : decode cX10_completeAfter 74 = .ok (.iload_n 1, 1) := by decide +kernel
theorem dX10_completeAfter_75 : decode cX10_completeAfter 75 = .ok (.ireturn, 1) := by decide +kernel
theorem dX10_waiting_0 : decode cX10_waiting 0 = .ok (.iconst 0, 1) := by decide +kernel
theorem dX10_waiting_1 : decode cX10_waiting 1 = .ok (.istore_n 1, 1) := by decide +kernel
theorem dX10_waiting_2 : decode cX10_waiting 2 = .ok (.iconst 0, 1) := by decide +kernel
theorem dX10_waiting_3 : decode cX10_waiting 3 = .ok (.istore_n 2, 1) := by decide +kernel
theorem dX10_waiting_4 : decode cX10_waiting 4 = .ok (.iload_n 2, 1) := by decide +kernel
theorem dX10_waiting_5 : decode cX10_waiting 5 = .ok (.bipush 32, 2) := by decide +kernel
theorem dX10_waiting_7 : decode cX10_waiting 7 = .ok (.if_icmp .ge 41, 3) := by decide +kernel
theorem dX10_waiting_10 : decode cX10_waiting 10 = .ok (.iload_n 1, 1) := by decide +kernel
theorem dX10_waiting_11 : decode cX10_waiting 11 = .ok (.aload_n 0, 1) := by decide +kernel
theorem dX10_waiting_12 : decode cX10_waiting 12 = .ok (.iload_n 2, 1) := by decide +kernel
theorem dX10_waiting_13 : decode cX10_waiting 13 = .ok (.iconst 0, 1) := by decide +kernel
theorem dX10_waiting_14 : decode cX10_waiting 14 = .ok (.invokevirtual 39, 3) := by decide +kernel
theorem dX10_waiting_17 : decode cX10_waiting 17 = .ok (.iconst 1, 1) := by decide +kernel
theorem dX10_waiting_18 : decode cX10_waiting 18 = .ok (.if_icmp .ne 21, 3) := by decide +kernel
theorem dX10_waiting_21 : decode cX10_waiting 21 = .ok (.aload_n 0, 1) := by decide +kernel
theorem dX10_waiting_22 : decode cX10_waiting 22 = .ok (.iload_n 2, 1) := by decide +kernel
theorem dX10_waiting_23 : decode cX10_waiting 23 = .ok (.iconst 1, 1) := by decide +kernel
theorem dX10_waiting_24 : decode cX10_waiting 24 = .ok (.invokevirtual 39, 3) := by decide +kernel
theorem dX10_waiting_27 : decode cX10_waiting 27 = .ok (.iconst 1, 1) := by decide +kernel
theorem dX10_waiting_28 : decode cX10_waiting 28 = .ok (.if_icmp .ne 11, 3) := by decide +kernel
theorem dX10_waiting_31 : decode cX10_waiting 31 = .ok (.aload_n 0, 1) := by decide +kernel
theorem dX10_waiting_32 : decode cX10_waiting 32 = .ok (.iload_n 2, 1) := by decide +kernel
theorem dX10_waiting_33 : decode cX10_waiting 33 = .ok (.invokevirtual 131, 3) := by decide +kernel
theorem dX10_waiting_36 : decode cX10_waiting 36 = .ok (.goto 4, 3) := by decide +kernel
theorem dX10_waiting_39 : decode cX10_waiting 39 = .ok (.iconst 0, 1) := by decide +kernel
theorem dX10_waiting_40 : decode cX10_waiting 40 = .ok (.iadd, 1) := by decide +kernel
theorem dX10_waiting_41 : decode cX10_waiting 41 = .ok (.istore_n 1, 1) := by decide +kernel
theorem dX10_waiting_42 : decode cX10_waiting 42 = .ok (.iinc 2 1, 3) := by decide +kernel
theorem dX10_waiting_45 : decode cX10_waiting 45 = .ok (.goto (-41), 3) := by decide +kernel
theorem dX10_waiting_48 : decode cX10_waiting 48 = .ok (.iload_n 1, 1) := by decide +kernel
theorem dX10_waiting_49 : decode cX10_waiting 49 = .ok (.ireturn, 1) := by decide +kernel
theorem dX10_leastTarget_0 : decode cX10_leastTarget 0 = .ok (.aload_n 0, 1) := by decide +kernel
theorem dX10_leastTarget_1 : decode cX10_leastTarget 1 = .ok (.iload_n 1, 1) := by decide +kernel
theorem dX10_leastTarget_2 : decode cX10_leastTarget 2 = .ok (.i2l, 1) := by decide +kernel
theorem dX10_leastTarget_3 : decode cX10_leastTarget 3 = .ok (.lconst 0, 1) := by decide +kernel
theorem dX10_leastTarget_4 : decode cX10_leastTarget 4 = .ok (.ldc2_w 152, 3) := by decide +kernel
theorem dX10_leastTarget_7 : decode cX10_leastTarget 7 = .ok (.invokestatic 35, 3) := by decide +kernel
theorem dX10_leastTarget_10 : decode cX10_leastTarget 10 = .ok (.aload_n 0, 1) := by decide +kernel
theorem dX10_leastTarget_11 : decode cX10_leastTarget 11 = .ok (.getfield 7, 3) := by decide +kernel
theorem dX10_leastTarget_14 : decode cX10_leastTarget 14 = .ok (.iconst 3, 1) := by decide +kernel
theorem dX10_leastTarget_15 : decode cX10_leastTarget 15 = .ok (.iaload, 1) := by decide +kernel
theorem dX10_leastTarget_16 : decode cX10_leastTarget 16 = .ok (.ldc 118, 2) := by decide +kernel
theorem dX10_leastTarget_18 : decode cX10_leastTarget 18 = .ok (.if_icmp .gt 7, 3) := by decide +kernel
theorem dX10_leastTarget_21 : decode cX10_leastTarget 21 = .ok (.iconst 1, 1) := by decide +kernel
theorem dX10_leastTarget_22 : decode cX10_leastTarget 22 = .ok (.goto 4, 3) := by decide +kernel
theorem dX10_leastTarget_25 : decode cX10_leastTarget 25 = .ok (.iconst 0, 1) := by decide +kernel
theorem dX10_leastTarget_26 : decode cX10_leastTarget 26 = .ok (.iconst 1, 1) := by decide +kernel
theorem dX10_leastTarget_27 : decode cX10_leastTarget 27 = .ok (.invokevirtual 53, 3) := by decide +kernel
theorem dX10_leastTarget_30 : decode cX10_leastTarget 30 = .ok (.ifCond .ne 5, 3) := by decide +kernel
theorem dX10_leastTarget_33 : decode cX10_leastTarget 33 = .ok (.iconst 0, 1) := by decide +kernel
theorem dX10_leastTarget_34 : decode cX10_leastTarget 34 = .ok (.ireturn, 1) := by decide +kernel
theorem dX10_leastTarget_35 : decode cX10_leastTarget 35 = .ok (.aload_n 0, 1) := by decide +kernel
theorem dX10_leastTarget_36 : decode cX10_leastTarget 36 = .ok (.invokevirtual 143, 3) := by decide +kernel
theorem dX10_leastTarget_39 : decode cX10_leastTarget 39 = .ok (.bipush 20, 2) := by decide +kernel
theorem dX10_leastTarget_41 : decode cX10_leastTarget 41 = .ok (.istore_n 2, 1) := by decide +kernel
theorem dX10_leastTarget_42 : decode cX10_leastTarget 42 = .ok (.iload_n 2, 1) := by decide +kernel
theorem dX10_leastTarget_43 : decode cX10_leastTarget 43 = .ok (.sipush 400, 3) := by decide +kernel
theorem dX10_leastTarget_46 : decode cX10_leastTarget 46 = .ok (.if_icmp .gt 55, 3) := by decide +kernel
theorem dX10_leastTarget_49 : decode cX10_leastTarget 49 = .ok (.aload_n 0, 1) := by decide +kernel
theorem dX10_leastTarget_50 : decode cX10_leastTarget 50 = .ok (.getfield 7, 3) := by decide +kernel
theorem dX10_leastTarget_53 : decode cX10_leastTarget 53 = .ok (.iconst 0, 1) := by decide +kernel
theorem dX10_leastTarget_54 : decode cX10_leastTarget 54 = .ok (.iload_n 2, 1) := by decide +kernel
theorem dX10_leastTarget_55 : decode cX10_leastTarget 55 = .ok (.iastore, 1) := by decide +kernel
theorem dX10_leastTarget_56 : decode cX10_leastTarget 56 = .ok (.iconst 0, 1) := by decide +kernel
theorem dX10_leastTarget_57 : decode cX10_leastTarget 57 = .ok (.istore_n 3, 1) := by decide +kernel
theorem dX10_leastTarget_58 : decode cX10_leastTarget 58 = .ok (.iload_n 3, 1) := by decide +kernel
theorem dX10_leastTarget_59 : decode cX10_leastTarget 59 = .ok (.iload_n 1, 1) := by decide +kernel
theorem dX10_leastTarget_60 : decode cX10_leastTarget 60 = .ok (.if_icmp .ge 20, 3) := by decide +kernel
theorem dX10_leastTarget_63 : decode cX10_leastTarget 63 = .ok (.aload_n 0, 1) := by decide +kernel
theorem dX10_leastTarget_64 : decode cX10_leastTarget 64 = .ok (.invokevirtual 154, 3) := by decide +kernel
theorem dX10_leastTarget_67 : decode cX10_leastTarget 67 = .ok (.ifCond .le 13, 3) := by decide +kernel
theorem dX10_leastTarget_70 : decode cX10_leastTarget 70 = .ok (.aload_n 0, 1) := by decide +kernel
theorem dX10_leastTarget_71 : decode cX10_leastTarget 71 = .ok (.invokevirtual 119, 3) := by decide +kernel
theorem dX10_leastTarget_74 : decode cX10_leastTarget 74 = .ok (.iinc 3 1, 3) := by decide +kernel
theorem dX10_leastTarget_77 : decode cX10_leastTarget 77 = .ok (.goto (-19), 3) := by decide +kernel
theorem dX10_leastTarget_80 : decode cX10_leastTarget 80 = .ok (.aload_n 0, 1) := by decide +kernel
theorem dX10_leastTarget_81 : decode cX10_leastTarget 81 = .ok (.invokevirtual 154, 3) := by decide +kernel
theorem dX10_leastTarget_84 : decode cX10_leastTarget 84 = .ok (.istore_n 3, 1) := by decide +kernel
theorem dX10_leastTarget_85 : decode cX10_leastTarget 85 = .ok (.aload_n 0, 1) := by decide +kernel
theorem dX10_leastTarget_86 : decode cX10_leastTarget 86 = .ok (.invokevirtual 146, 3) := by decide +kernel
theorem dX10_leastTarget_89 : decode cX10_leastTarget 89 = .ok (.iload_n 3, 1) := by decide +kernel
theorem dX10_leastTarget_90 : decode cX10_leastTarget 90 = .ok (.ifCond .ne 5, 3) := by decide +kernel
theorem dX10_leastTarget_93 : decode cX10_leastTarget 93 = .ok (.iload_n 2, 1) := by decide +kernel
theorem dX10_leastTarget_94 : decode cX10_leastTarget 94 = .ok (.ireturn, 1) := by decide +kernel
theorem dX10_leastTarget_95 : decode cX10_leastTarget 95 = .ok (.iinc 2 20, 3) := by decide +kernel
theorem dX10_leastTarget_98 : decode cX10_leastTarget 98 = .ok (.goto (-56), 3) := by decide +kernel
theorem dX10_leastTarget_101 : decode cX10_leastTarget 101 = .ok (.iconst (-1), 1) := by decide +kernel
theorem dX10_leastTarget_102 : decode cX10_leastTarget 102 = .ok (.ireturn, 1) := by decide +kernel
theorem dX10_append_0 : decode cX10_append 0 = .ok (.aload_n 0, 1) := by decide +kernel
theorem dX10_append_1 : decode cX10_append 1 = .ok (.iload_n 1, 1) := by decide +kernel
theorem dX10_append_2 : decode cX10_append 2 = .ok (.i2l, 1) := by decide +kernel
theorem dX10_append_3 : decode cX10_append 3 = .ok (.lconst 0, 1) := by decide +kernel
theorem dX10_append_4 : decode cX10_append 4 = .ok (.ldc2_w 157, 3) := by decide +kernel
theorem dX10_append_7 : decode cX10_append 7 = .ok (.invokestatic 35, 3) := by decide +kernel
theorem dX10_append_10 : decode cX10_append 10 = .ok (.aload_n 0, 1) := by decide +kernel
theorem dX10_append_11 : decode cX10_append 11 = .ok (.getfield 159, 3) := by decide +kernel
theorem dX10_append_14 : decode cX10_append 14 = .ok (.bipush 120, 2) := by decide +kernel
theorem dX10_append_16 : decode cX10_append 16 = .ok (.if_icmp .ge 7, 3) := by decide +kernel
theorem dX10_append_19 : decode cX10_append 19 = .ok (.iconst 1, 1) := by decide +kernel
theorem dX10_append_20 : decode cX10_append 20 = .ok (.goto 4, 3) := by decide +kernel
theorem dX10_append_23 : decode cX10_append 23 = .ok (.iconst 0, 1) := by decide +kernel
theorem dX10_append_24 : decode cX10_append 24 = .ok (.iconst 1, 1) := by decide +kernel
theorem dX10_append_25 : decode cX10_append 25 = .ok (.invokevirtual 53, 3) := by decide +kernel
theorem dX10_append_28 : decode cX10_append 28 = .ok (.ifCond .ne 5, 3) := by decide +kernel
theorem dX10_append_31 : decode cX10_append 31 = .ok (.iconst 0, 1) := by decide +kernel
theorem dX10_append_32 : decode cX10_append 32 = .ok (.ireturn, 1) := by decide +kernel
theorem dX10_append_33 : decode cX10_append 33 = .ok (.aload_n 0, 1) := by decide +kernel
theorem dX10_append_34 : decode cX10_append 34 = .ok (.getfield 19, 3) := by decide +kernel
theorem dX10_append_37 : decode cX10_append 37 = .ok (.aload_n 0, 1) := by decide +kernel
theorem dX10_append_38 : decode cX10_append 38 = .ok (.getfield 159, 3) := by decide +kernel
theorem dX10_append_41 : decode cX10_append 41 = .ok (.iload_n 1, 1) := by decide +kernel
theorem dX10_append_42 : decode cX10_append 42 = .ok (.iastore, 1) := by decide +kernel
theorem dX10_append_43 : decode cX10_append 43 = .ok (.aload_n 0, 1) := by decide +kernel
theorem dX10_append_44 : decode cX10_append 44 = .ok (.dup, 1) := by decide +kernel
theorem dX10_append_45 : decode cX10_append 45 = .ok (.getfield 159, 3) := by decide +kernel
theorem dX10_append_48 : decode cX10_append 48 = .ok (.iconst 1, 1) := by decide +kernel
theorem dX10_append_49 : decode cX10_append 49 = .ok (.iadd, 1) := by decide +kernel
theorem dX10_append_50 : decode cX10_append 50 = .ok (.putfield 159, 3) := by decide +kernel
theorem dX10_append_53 : decode cX10_append 53 = .ok (.aload_n 0, 1) := by decide +kernel
theorem dX10_append_54 : decode cX10_append 54 = .ok (.getfield 159, 3) := by decide +kernel
theorem dX10_append_57 : decode cX10_append 57 = .ok (.ireturn, 1) := by decide +kernel
theorem dX10_clearText_0 : decode cX10_clearText 0 = .ok (.aload_n 0, 1) := by decide +kernel
theorem dX10_clearText_1 : decode cX10_clearText 1 = .ok (.iconst 0, 1) := by decide +kernel
theorem dX10_clearText_2 : decode cX10_clearText 2 = .ok (.putfield 22, 3) := by decide +kernel
theorem dX10_clearText_5 : decode cX10_clearText 5 = .ok (.aload_n 0, 1) := by decide +kernel
theorem dX10_clearText_6 : decode cX10_clearText 6 = .ok (.getfield 159, 3) := by decide +kernel
theorem dX10_clearText_9 : decode cX10_clearText 9 = .ok (.istore_n 1, 1) := by decide +kernel
theorem dX10_clearText_10 : decode cX10_clearText 10 = .ok (.aload_n 0, 1) := by decide +kernel
theorem dX10_clearText_11 : decode cX10_clearText 11 = .ok (.iconst 0, 1) := by decide +kernel
theorem dX10_clearText_12 : decode cX10_clearText 12 = .ok (.putfield 159, 3) := by decide +kernel
theorem dX10_clearText_15 : decode cX10_clearText 15 = .ok (.iload_n 1, 1) := by decide +kernel
theorem dX10_clearText_16 : decode cX10_clearText 16 = .ok (.ireturn, 1) := by decide +kernel
theorem dX10_isFigure_0 : decode cX10_isFigure 0 = .ok (.aload_n 0, 1) := by decide +kernel
theorem dX10_isFigure_1 : decode cX10_isFigure 1 = .ok (.getfield 162, 3) := by decide +kernel
theorem dX10_isFigure_4 : decode cX10_isFigure 4 = .ok (.aload_n 0, 1) := by decide +kernel
theorem dX10_isFigure_5 : decode cX10_isFigure 5 = .ok (.getfield 159, 3) := by decide +kernel
theorem dX10_isFigure_8 : decode cX10_isFigure 8 = .ok (.if_icmp .ge 29, 3) := by decide +kernel
theorem dX10_isFigure_11 : decode cX10_isFigure 11 = .ok (.aload_n 0, 1) := by decide +kernel
theorem dX10_isFigure_12 : decode cX10_isFigure 12 = .ok (.getfield 19, 3) := by decide +kernel
theorem dX10_isFigure_15 : decode cX10_isFigure 15 = .ok (.aload_n 0, 1) := by decide +kernel
theorem dX10_isFigure_16 : decode cX10_isFigure 16 = .ok (.getfield 162, 3) := by decide +kernel
theorem dX10_isFigure_19 : decode cX10_isFigure 19 = .ok (.iaload, 1) := by decide +kernel
theorem dX10_isFigure_20 : decode cX10_isFigure 20 = .ok (.i2l, 1) := by decide +kernel
theorem dX10_isFigure_21 : decode cX10_isFigure 21 = .ok (.ldc2_w 165, 3) := by decide +kernel
theorem dX10_isFigure_24 : decode cX10_isFigure 24 = .ok (.ldc2_w 167, 3) := by decide +kernel
theorem dX10_isFigure_27 : decode cX10_isFigure 27 = .ok (.invokestatic 35, 3) := by decide +kernel
theorem dX10_isFigure_30 : decode cX10_isFigure 30 = .ok (.ifCond .eq 7, 3) := by decide +kernel
theorem dX10_isFigure_33 : decode cX10_isFigure 33 = .ok (.iconst 1, 1) := by decide +kernel
theorem dX10_isFigure_34 : decode cX10_isFigure 34 = .ok (.goto 4, 3) := by decide +kernel
theorem dX10_isFigure_37 : decode cX10_isFigure 37 = .ok (.iconst 0, 1) := by decide +kernel
theorem dX10_isFigure_38 : decode cX10_isFigure 38 = .ok (.ireturn, 1) := by decide +kernel
theorem dX10_passesByte_0 : decode cX10_passesByte 0 = .ok (.aload_n 0, 1) := by decide +kernel
theorem dX10_passesByte_1 : decode cX10_passesByte 1 = .ok (.getfield 162, 3) := by decide +kernel
theorem dX10_passesByte_4 : decode cX10_passesByte 4 = .ok (.aload_n 0, 1) := by decide +kernel
theorem dX10_passesByte_5 : decode cX10_passesByte 5 = .ok (.getfield 159, 3) := by decide +kernel
theorem dX10_passesByte_8 : decode cX10_passesByte 8 = .ok (.if_icmp .ge 20, 3) := by decide +kernel
theorem dX10_passesByte_11 : decode cX10_passesByte 11 = .ok (.aload_n 0, 1) := by decide +kernel
theorem dX10_passesByte_12 : decode cX10_passesByte 12 = .ok (.getfield 19, 3) := by decide +kernel
theorem dX10_passesByte_15 : decode cX10_passesByte 15 = .ok (.aload_n 0, 1) := by decide +kernel
theorem dX10_passesByte_16 : decode cX10_passesByte 16 = .ok (.getfield 162, 3) := by decide +kernel
theorem dX10_passesByte_19 : decode cX10_passesByte 19 = .ok (.iaload, 1) := by decide +kernel
theorem dX10_passesByte_20 : decode cX10_passesByte 20 = .ok (.iload_n 1, 1) := by decide +kernel
theorem dX10_passesByte_21 : decode cX10_passesByte 21 = .ok (.if_icmp .ne 7, 3) := by decide +kernel
theorem dX10_passesByte_24 : decode cX10_passesByte 24 = .ok (.iconst 1, 1) := by decide +kernel
theorem dX10_passesByte_25 : decode cX10_passesByte 25 = .ok (.goto 4, 3) := by decide +kernel
theorem dX10_passesByte_28 : decode cX10_passesByte 28 = .ok (.iconst 0, 1) := by decide +kernel
theorem dX10_passesByte_29 : decode cX10_passesByte 29 = .ok (.istore_n 2, 1) := by decide +kernel
theorem dX10_passesByte_30 : decode cX10_passesByte 30 = .ok (.aload_n 0, 1) := by decide +kernel
theorem dX10_passesByte_31 : decode cX10_passesByte 31 = .ok (.dup, 1) := by decide +kernel
theorem dX10_passesByte_32 : decode cX10_passesByte 32 = .ok (.getfield 162, 3) := by decide +kernel
theorem dX10_passesByte_35 : decode cX10_passesByte 35 = .ok (.iload_n 2, 1) := by decide +kernel
theorem dX10_passesByte_36 : decode cX10_passesByte 36 = .ok (.ifCond .eq 7, 3) := by decide +kernel
theorem dX10_passesByte_39 : decode cX10_passesByte 39 = .ok (.iconst 1, 1) := by decide +kernel
theorem dX10_passesByte_40 : decode cX10_passesByte 40 = .ok (.goto 4, 3) := by decide +kernel
theorem dX10_passesByte_43 : decode cX10_passesByte 43 = .ok (.iconst 0, 1) := by decide +kernel
theorem dX10_passesByte_44 : decode cX10_passesByte 44 = .ok (.iadd, 1) := by decide +kernel
theorem dX10_passesByte_45 : decode cX10_passesByte 45 = .ok (.putfield 162, 3) := by decide +kernel
theorem dX10_passesByte_48 : decode cX10_passesByte 48 = .ok (.iload_n 2, 1) := by decide +kernel
theorem dX10_passesByte_49 : decode cX10_passesByte 49 = .ok (.ireturn, 1) := by decide +kernel
theorem dX10_readsNumber_0 : decode cX10_readsNumber 0 = .ok (.aload_n 0, 1) := by decide +kernel
theorem dX10_readsNumber_1 : decode cX10_readsNumber 1 = .ok (.getfield 162, 3) := by decide +kernel
theorem dX10_readsNumber_4 : decode cX10_readsNumber 4 = .ok (.istore_n 1, 1) := by decide +kernel
theorem dX10_readsNumber_5 : decode cX10_readsNumber 5 = .ok (.aload_n 0, 1) := by decide +kernel
theorem dX10_readsNumber_6 : decode cX10_readsNumber 6 = .ok (.iconst 0, 1) := by decide +kernel
theorem dX10_readsNumber_7 : decode cX10_readsNumber 7 = .ok (.putfield 169, 3) := by decide +kernel
theorem dX10_readsNumber_10 : decode cX10_readsNumber 10 = .ok (.aload_n 0, 1) := by decide +kernel
theorem dX10_readsNumber_11 : decode cX10_readsNumber 11 = .ok (.invokevirtual 172, 3) := by decide +kernel
theorem dX10_readsNumber_14 : decode cX10_readsNumber 14 = .ok (.ifCond .eq 50, 3) := by decide +kernel
theorem dX10_readsNumber_17 : decode cX10_readsNumber 17 = .ok (.aload_n 0, 1) := by decide +kernel
theorem dX10_readsNumber_18 : decode cX10_readsNumber 18 = .ok (.getfield 162, 3) := by decide +kernel
theorem dX10_readsNumber_21 : decode cX10_readsNumber 21 = .ok (.iload_n 1, 1) := by decide +kernel
theorem dX10_readsNumber_22 : decode cX10_readsNumber 22 = .ok (.iconst 2, 1) := by decide +kernel
theorem dX10_readsNumber_23 : decode cX10_readsNumber 23 = .ok (.iadd, 1) := by decide +kernel
theorem dX10_readsNumber_24 : decode cX10_readsNumber 24 = .ok (.if_icmp .ge 40, 3) := by decide +kernel
theorem dX10_readsNumber_27 : decode cX10_readsNumber 27 = .ok (.aload_n 0, 1) := by decide +kernel
theorem dX10_readsNumber_28 : decode cX10_readsNumber 28 = .ok (.bipush 10, 2) := by decide +kernel
theorem dX10_readsNumber_30 : decode cX10_readsNumber 30 = .ok (.aload_n 0, 1) := by decide +kernel
theorem dX10_readsNumber_31 : decode cX10_readsNumber 31 = .ok (.getfield 169, 3) := by decide +kernel
theorem dX10_readsNumber_34 : decode cX10_readsNumber 34 = .ok (.imul, 1) := by decide +kernel
theorem dX10_readsNumber_35 : decode cX10_readsNumber 35 = .ok (.aload_n 0, 1) := by decide +kernel
theorem dX10_readsNumber_36 : decode cX10_readsNumber 36 = .ok (.getfield 19, 3) := by decide +kernel
theorem dX10_readsNumber_39 : decode cX10_readsNumber 39 = .ok (.aload_n 0, 1) := by decide +kernel
theorem dX10_readsNumber_40 : decode cX10_readsNumber 40 = .ok (.getfield 162, 3) := by decide +kernel
theorem dX10_readsNumber_43 : decode cX10_readsNumber 43 = .ok (.iaload, 1) := by decide +kernel
theorem dX10_readsNumber_44 : decode cX10_readsNumber 44 = .ok (.iadd, 1) := by decide +kernel
theorem dX10_readsNumber_45 : decode cX10_readsNumber 45 = .ok (.bipush 48, 2) := by decide +kernel
theorem dX10_readsNumber_47 : decode cX10_readsNumber 47 = .ok (.isub, 1) := by decide +kernel
theorem dX10_readsNumber_48 : decode cX10_readsNumber 48 = .ok (.putfield 169, 3) := by decide +kernel
theorem dX10_readsNumber_51 : decode cX10_readsNumber 51 = .ok (.aload_n 0, 1) := by decide +kernel
theorem dX10_readsNumber_52 : decode cX10_readsNumber 52 = .ok (.dup, 1) := by decide +kernel
theorem dX10_readsNumber_53 : decode cX10_readsNumber 53 = .ok (.getfield 162, 3) := by decide +kernel
theorem dX10_readsNumber_56 : decode cX10_readsNumber 56 = .ok (.iconst 1, 1) := by decide +kernel
theorem dX10_readsNumber_57 : decode cX10_readsNumber 57 = .ok (.iadd, 1) := by decide +kernel
theorem dX10_readsNumber_58 : decode cX10_readsNumber 58 = .ok (.putfield 162, 3) := by decide +kernel
theorem dX10_readsNumber_61 : decode cX10_readsNumber 61 = .ok (.goto (-51), 3) := by decide +kernel
theorem dX10_readsNumber_64 : decode cX10_readsNumber 64 = .ok (.aload_n 0, 1) := by decide +kernel
theorem dX10_readsNumber_65 : decode cX10_readsNumber 65 = .ok (.getfield 162, 3) := by decide +kernel
theorem dX10_readsNumber_68 : decode cX10_readsNumber 68 = .ok (.iload_n 1, 1) := by decide +kernel
theorem dX10_readsNumber_69 : decode cX10_readsNumber 69 = .ok (.if_icmp .le 14, 3) := by decide +kernel
theorem dX10_readsNumber_72 : decode cX10_readsNumber 72 = .ok (.aload_n 0, 1) := by decide +kernel
theorem dX10_readsNumber_73 : decode cX10_readsNumber 73 = .ok (.invokevirtual 172, 3) := by decide +kernel
theorem dX10_readsNumber_76 : decode cX10_readsNumber 76 = .ok (.ifCond .ne 7, 3) := by decide +kernel
theorem dX10_readsNumber_79 : decode cX10_readsNumber 79 = .ok (.iconst 1, 1) := by decide +kernel
theorem dX10_readsNumber_80 : decode cX10_readsNumber 80 = .ok (.goto 4, 3) := by decide +kernel
theorem dX10_readsNumber_83 : decode cX10_readsNumber 83 = .ok (.iconst 0, 1) := by decide +kernel
theorem dX10_readsNumber_84 : decode cX10_readsNumber 84 = .ok (.ireturn, 1) := by decide +kernel
theorem dX10_readsItem_0 : decode cX10_readsItem 0 = .ok (.aload_n 0, 1) := by decide +kernel
theorem dX10_readsItem_1 : decode cX10_readsItem 1 = .ok (.getfield 162, 3) := by decide +kernel
theorem dX10_readsItem_4 : decode cX10_readsItem 4 = .ok (.iconst 1, 1) := by decide +kernel
theorem dX10_readsItem_5 : decode cX10_readsItem 5 = .ok (.iadd, 1) := by decide +kernel
theorem dX10_readsItem_6 : decode cX10_readsItem 6 = .ok (.istore_n 1, 1) := by decide +kernel
theorem dX10_readsItem_7 : decode cX10_readsItem 7 = .ok (.aload_n 0, 1) := by decide +kernel
theorem dX10_readsItem_8 : decode cX10_readsItem 8 = .ok (.invokevirtual 49, 3) := by decide +kernel
theorem dX10_readsItem_11 : decode cX10_readsItem 11 = .ok (.bipush 8, 2) := by decide +kernel
theorem dX10_readsItem_13 : decode cX10_readsItem 13 = .ok (.if_icmp .ge 71, 3) := by decide +kernel
theorem dX10_readsItem_16 : decode cX10_readsItem 16 = .ok (.aload_n 0, 1) := by decide +kernel
theorem dX10_readsItem_17 : decode cX10_readsItem 17 = .ok (.bipush 115, 2) := by decide +kernel
theorem dX10_readsItem_19 : decode cX10_readsItem 19 = .ok (.invokevirtual 175, 3) := by decide +kernel
theorem dX10_readsItem_22 : decode cX10_readsItem 22 = .ok (.ifCond .eq 62, 3) := by decide +kernel
theorem dX10_readsItem_25 : decode cX10_readsItem 25 = .ok (.aload_n 0, 1) := by decide +kernel
theorem dX10_readsItem_26 : decode cX10_readsItem 26 = .ok (.invokevirtual 178, 3) := by decide +kernel
theorem dX10_readsItem_29 : decode cX10_readsItem 29 = .ok (.ifCond .ne 5, 3) := by decide +kernel
theorem dX10_readsItem_32 : decode cX10_readsItem 32 = .ok (.iconst 0, 1) := by decide +kernel
theorem dX10_readsItem_33 : decode cX10_readsItem 33 = .ok (.ireturn, 1) := by decide +kernel
theorem dX10_readsItem_34 : decode cX10_readsItem 34 = .ok (.aload_n 0, 1) := by decide +kernel
theorem dX10_readsItem_35 : decode cX10_readsItem 35 = .ok (.getfield 169, 3) := by decide +kernel
theorem dX10_readsItem_38 : decode cX10_readsItem 38 = .ok (.bipush 32, 2) := by decide +kernel
theorem dX10_readsItem_40 : decode cX10_readsItem 40 = .ok (.if_icmp .ge 14, 3) := by decide +kernel
theorem dX10_readsItem_43 : decode cX10_readsItem 43 = .ok (.aload_n 0, 1) := by decide +kernel
theorem dX10_readsItem_44 : decode cX10_readsItem 44 = .ok (.aload_n 0, 1) := by decide +kernel
theorem dX10_readsItem_45 : decode cX10_readsItem 45 = .ok (.getfield 169, 3) := by decide +kernel
theorem dX10_readsItem_48 : decode cX10_readsItem 48 = .ok (.invokevirtual 45, 3) := by decide +kernel
theorem dX10_readsItem_51 : decode cX10_readsItem 51 = .ok (.ifCond .eq 10, 3) := by decide +kernel
theorem dX10_readsItem_54 : decode cX10_readsItem 54 = .ok (.aload_n 0, 1) := by decide +kernel
theorem dX10_readsItem_55 : decode cX10_readsItem 55 = .ok (.iload_n 1, 1) := by decide +kernel
theorem dX10_readsItem_56 : decode cX10_readsItem 56 = .ok (.putfield 162, 3) := by decide +kernel
theorem dX10_readsItem_59 : decode cX10_readsItem 59 = .ok (.iconst 0, 1) := by decide +kernel
theorem dX10_readsItem_60 : decode cX10_readsItem 60 = .ok (.ireturn, 1) := by decide +kernel
theorem dX10_readsItem_61 : decode cX10_readsItem 61 = .ok (.aload_n 0, 1) := by decide +kernel
theorem dX10_readsItem_62 : decode cX10_readsItem 62 = .ok (.aload_n 0, 1) := by decide +kernel
theorem dX10_readsItem_63 : decode cX10_readsItem 63 = .ok (.getfield 169, 3) := by decide +kernel
theorem dX10_readsItem_66 : decode cX10_readsItem 66 = .ok (.putfield 181, 3) := by decide +kernel
theorem dX10_readsItem_69 : decode cX10_readsItem 69 = .ok (.aload_n 0, 1) := by decide +kernel
theorem dX10_readsItem_70 : decode cX10_readsItem 70 = .ok (.aload_n 0, 1) := by decide +kernel
theorem dX10_readsItem_71 : decode cX10_readsItem 71 = .ok (.getfield 169, 3) := by decide +kernel
theorem dX10_readsItem_74 : decode cX10_readsItem 74 = .ok (.invokevirtual 60, 3) := by decide +kernel
theorem dX10_readsItem_77 : decode cX10_readsItem 77 = .ok (.aload_n 0, 1) := by decide +kernel
theorem dX10_readsItem_78 : decode cX10_readsItem 78 = .ok (.bipush 59, 2) := by decide +kernel
theorem dX10_readsItem_80 : decode cX10_readsItem 80 = .ok (.invokevirtual 175, 3) := by decide +kernel
theorem dX10_readsItem_83 : decode cX10_readsItem 83 = .ok (.ireturn, 1) := by decide +kernel
theorem dX10_readsItem_84 : decode cX10_readsItem 84 = .ok (.aload_n 0, 1) := by decide +kernel
theorem dX10_readsItem_85 : decode cX10_readsItem 85 = .ok (.getfield 181, 3) := by decide +kernel
theorem dX10_readsItem_88 : decode cX10_readsItem 88 = .ok (.iconst (-1), 1) := by decide +kernel
theorem dX10_readsItem_89 : decode cX10_readsItem 89 = .ok (.if_icmp .eq 19, 3) := by decide +kernel
theorem dX10_readsItem_92 : decode cX10_readsItem 92 = .ok (.aload_n 0, 1) := by decide +kernel
theorem dX10_readsItem_93 : decode cX10_readsItem 93 = .ok (.bipush 109, 2) := by decide +kernel
theorem dX10_readsItem_95 : decode cX10_readsItem 95 = .ok (.invokevirtual 175, 3) := by decide +kernel
theorem dX10_readsItem_98 : decode cX10_readsItem 98 = .ok (.ifCond .eq 10, 3) := by decide +kernel
theorem dX10_readsItem_101 : decode cX10_readsItem 101 = .ok (.aload_n 0, 1) := by decide +kernel
theorem dX10_readsItem_102 : decode cX10_readsItem 102 = .ok (.invokevirtual 178, 3) := by decide +kernel
theorem dX10_readsItem_105 : decode cX10_readsItem 105 = .ok (.ifCond .ne 5, 3) := by decide +kernel
theorem dX10_readsItem_108 : decode cX10_readsItem 108 = .ok (.iconst 0, 1) := by decide +kernel
theorem dX10_readsItem_109 : decode cX10_readsItem 109 = .ok (.ireturn, 1) := by decide +kernel
theorem dX10_readsItem_110 : decode cX10_readsItem 110 = .ok (.aload_n 0, 1) := by decide +kernel
theorem dX10_readsItem_111 : decode cX10_readsItem 111 = .ok (.getfield 169, 3) := by decide +kernel
theorem dX10_readsItem_114 : decode cX10_readsItem 114 = .ok (.i2l, 1) := by decide +kernel
theorem dX10_readsItem_115 : decode cX10_readsItem 115 = .ok (.lconst 1, 1) := by decide +kernel
theorem dX10_readsItem_116 : decode cX10_readsItem 116 = .ok (.ldc2_w 66, 3) := by decide +kernel
theorem dX10_readsItem_119 : decode cX10_readsItem 119 = .ok (.invokestatic 35, 3) := by decide +kernel
theorem dX10_readsItem_122 : decode cX10_readsItem 122 = .ok (.ifCond .ne 10, 3) := by decide +kernel
theorem dX10_readsItem_125 : decode cX10_readsItem 125 = .ok (.aload_n 0, 1) := by decide +kernel
theorem dX10_readsItem_126 : decode cX10_readsItem 126 = .ok (.iload_n 1, 1) := by decide +kernel
theorem dX10_readsItem_127 : decode cX10_readsItem 127 = .ok (.putfield 162, 3) := by decide +kernel
theorem dX10_readsItem_130 : decode cX10_readsItem 130 = .ok (.iconst 0, 1) := by decide +kernel
theorem dX10_readsItem_131 : decode cX10_readsItem 131 = .ok (.ireturn, 1) := by decide +kernel
theorem dX10_readsItem_132 : decode cX10_readsItem 132 = .ok (.aload_n 0, 1) := by decide +kernel
theorem dX10_readsItem_133 : decode cX10_readsItem 133 = .ok (.getfield 169, 3) := by decide +kernel
theorem dX10_readsItem_136 : decode cX10_readsItem 136 = .ok (.istore_n 2, 1) := by decide +kernel
theorem dX10_readsItem_137 : decode cX10_readsItem 137 = .ok (.aload_n 0, 1) := by decide +kernel
theorem dX10_readsItem_138 : decode cX10_readsItem 138 = .ok (.bipush 44, 2) := by decide +kernel
theorem dX10_readsItem_140 : decode cX10_readsItem 140 = .ok (.invokevirtual 175, 3) := by decide +kernel
theorem dX10_readsItem_143 : decode cX10_readsItem 143 = .ok (.ifCond .eq 10, 3) := by decide +kernel
theorem dX10_readsItem_146 : decode cX10_readsItem 146 = .ok (.aload_n 0, 1) := by decide +kernel
theorem dX10_readsItem_147 : decode cX10_readsItem 147 = .ok (.invokevirtual 172, 3) := by decide +kernel
theorem dX10_readsItem_150 : decode cX10_readsItem 150 = .ok (.ifCond .ne 5, 3) := by decide +kernel
theorem dX10_readsItem_153 : decode cX10_readsItem 153 = .ok (.iconst 0, 1) := by decide +kernel
theorem dX10_readsItem_154 : decode cX10_readsItem 154 = .ok (.ireturn, 1) := by decide +kernel
theorem dX10_readsItem_155 : decode cX10_readsItem 155 = .ok (.aload_n 0, 1) := by decide +kernel
theorem dX10_readsItem_156 : decode cX10_readsItem 156 = .ok (.aload_n 0, 1) := by decide +kernel
theorem dX10_readsItem_157 : decode cX10_readsItem 157 = .ok (.getfield 181, 3) := by decide +kernel
theorem dX10_readsItem_160 : decode cX10_readsItem 160 = .ok (.iload_n 2, 1) := by decide +kernel
theorem dX10_readsItem_161 : decode cX10_readsItem 161 = .ok (.aload_n 0, 1) := by decide +kernel
theorem dX10_readsItem_162 : decode cX10_readsItem 162 = .ok (.getfield 19, 3) := by decide +kernel
theorem dX10_readsItem_165 : decode cX10_readsItem 165 = .ok (.aload_n 0, 1) := by decide +kernel
theorem dX10_readsItem_166 : decode cX10_readsItem 166 = .ok (.getfield 162, 3) := by decide +kernel
theorem dX10_readsItem_169 : decode cX10_readsItem 169 = .ok (.iaload, 1) := by decide +kernel
theorem dX10_readsItem_170 : decode cX10_readsItem 170 = .ok (.bipush 48, 2) := by decide +kernel
theorem dX10_readsItem_172 : decode cX10_readsItem 172 = .ok (.isub, 1) := by decide +kernel
theorem dX10_readsItem_173 : decode cX10_readsItem 173 = .ok (.invokevirtual 70, 3) := by decide +kernel
theorem dX10_readsItem_176 : decode cX10_readsItem 176 = .ok (.istore_n 3, 1) := by decide +kernel
theorem dX10_readsItem_177 : decode cX10_readsItem 177 = .ok (.aload_n 0, 1) := by decide +kernel
theorem dX10_readsItem_178 : decode cX10_readsItem 178 = .ok (.dup, 1) := by decide +kernel
theorem dX10_readsItem_179 : decode cX10_readsItem 179 = .ok (.getfield 162, 3) := by decide +kernel
theorem dX10_readsItem_182 : decode cX10_readsItem 182 = .ok (.iconst 1, 1) := by decide +kernel
theorem dX10_readsItem_183 : decode cX10_readsItem 183 = .ok (.iadd, 1) := by decide +kernel
theorem dX10_readsItem_184 : decode cX10_readsItem 184 = .ok (.putfield 162, 3) := by decide +kernel
theorem dX10_readsItem_187 : decode cX10_readsItem 187 = .ok (.aload_n 0, 1) := by decide +kernel
theorem dX10_readsItem_188 : decode cX10_readsItem 188 = .ok (.bipush 59, 2) := by decide +kernel
theorem dX10_readsItem_190 : decode cX10_readsItem 190 = .ok (.invokevirtual 175, 3) := by decide +kernel
theorem dX10_readsItem_193 : decode cX10_readsItem 193 = .ok (.ireturn, 1) := by decide +kernel
theorem dX10_parse_0 : decode cX10_parse 0 = .ok (.aload_n 0, 1) := by decide +kernel
theorem dX10_parse_1 : decode cX10_parse 1 = .ok (.iconst 0, 1) := by decide +kernel
theorem dX10_parse_2 : decode cX10_parse 2 = .ok (.putfield 22, 3) := by decide +kernel
theorem dX10_parse_5 : decode cX10_parse 5 = .ok (.aload_n 0, 1) := by decide +kernel
theorem dX10_parse_6 : decode cX10_parse 6 = .ok (.invokevirtual 143, 3) := by decide +kernel
theorem dX10_parse_9 : decode cX10_parse 9 = .ok (.iconst 3, 1) := by decide +kernel
theorem dX10_parse_10 : decode cX10_parse 10 = .ok (.istore_n 1, 1) := by decide +kernel
theorem dX10_parse_11 : decode cX10_parse 11 = .ok (.iload_n 1, 1) := by decide +kernel
theorem dX10_parse_12 : decode cX10_parse 12 = .ok (.sipush 942, 3) := by decide +kernel
theorem dX10_parse_15 : decode cX10_parse 15 = .ok (.if_icmp .ge 16, 3) := by decide +kernel
theorem dX10_parse_18 : decode cX10_parse 18 = .ok (.aload_n 0, 1) := by decide +kernel
theorem dX10_parse_19 : decode cX10_parse 19 = .ok (.getfield 7, 3) := by decide +kernel
theorem dX10_parse_22 : decode cX10_parse 22 = .ok (.iload_n 1, 1) := by decide +kernel
theorem dX10_parse_23 : decode cX10_parse 23 = .ok (.iconst 0, 1) := by decide +kernel
theorem dX10_parse_24 : decode cX10_parse 24 = .ok (.iastore, 1) := by decide +kernel
theorem dX10_parse_25 : decode cX10_parse 25 = .ok (.iinc 1 1, 3) := by decide +kernel
theorem dX10_parse_28 : decode cX10_parse 28 = .ok (.goto (-17), 3) := by decide +kernel
theorem dX10_parse_31 : decode cX10_parse 31 = .ok (.aload_n 0, 1) := by decide +kernel
theorem dX10_parse_32 : decode cX10_parse 32 = .ok (.getfield 7, 3) := by decide +kernel
theorem dX10_parse_35 : decode cX10_parse 35 = .ok (.iconst 4, 1) := by decide +kernel
theorem dX10_parse_36 : decode cX10_parse 36 = .ok (.iconst (-1), 1) := by decide +kernel
theorem dX10_parse_37 : decode cX10_parse 37 = .ok (.iastore, 1) := by decide +kernel
theorem dX10_parse_38 : decode cX10_parse 38 = .ok (.aload_n 0, 1) := by decide +kernel
theorem dX10_parse_39 : decode cX10_parse 39 = .ok (.iconst (-1), 1) := by decide +kernel
theorem dX10_parse_40 : decode cX10_parse 40 = .ok (.putfield 181, 3) := by decide +kernel
theorem dX10_parse_43 : decode cX10_parse 43 = .ok (.aload_n 0, 1) := by decide +kernel
theorem dX10_parse_44 : decode cX10_parse 44 = .ok (.iconst 0, 1) := by decide +kernel
theorem dX10_parse_45 : decode cX10_parse 45 = .ok (.putfield 162, 3) := by decide +kernel
theorem dX10_parse_48 : decode cX10_parse 48 = .ok (.iconst 0, 1) := by decide +kernel
theorem dX10_parse_49 : decode cX10_parse 49 = .ok (.istore_n 1, 1) := by decide +kernel
theorem dX10_parse_50 : decode cX10_parse 50 = .ok (.aload_n 0, 1) := by decide +kernel
theorem dX10_parse_51 : decode cX10_parse 51 = .ok (.getfield 162, 3) := by decide +kernel
theorem dX10_parse_54 : decode cX10_parse 54 = .ok (.aload_n 0, 1) := by decide +kernel
theorem dX10_parse_55 : decode cX10_parse 55 = .ok (.getfield 159, 3) := by decide +kernel
theorem dX10_parse_58 : decode cX10_parse 58 = .ok (.if_icmp .ge 28, 3) := by decide +kernel
theorem dX10_parse_61 : decode cX10_parse 61 = .ok (.aload_n 0, 1) := by decide +kernel
theorem dX10_parse_62 : decode cX10_parse 62 = .ok (.invokevirtual 184, 3) := by decide +kernel
theorem dX10_parse_65 : decode cX10_parse 65 = .ok (.ifCond .ne 15, 3) := by decide +kernel
theorem dX10_parse_68 : decode cX10_parse 68 = .ok (.aload_n 0, 1) := by decide +kernel
theorem dX10_parse_69 : decode cX10_parse 69 = .ok (.invokevirtual 146, 3) := by decide +kernel
theorem dX10_parse_72 : decode cX10_parse 72 = .ok (.bipush (-10), 2) := by decide +kernel
theorem dX10_parse_74 : decode cX10_parse 74 = .ok (.aload_n 0, 1) := by decide +kernel
theorem dX10_parse_75 : decode cX10_parse 75 = .ok (.getfield 162, 3) := by decide +kernel
theorem dX10_parse_78 : decode cX10_parse 78 = .ok (.isub, 1) := by decide +kernel
theorem dX10_parse_79 : decode cX10_parse 79 = .ok (.ireturn, 1) := by decide +kernel
theorem dX10_parse_80 : decode cX10_parse 80 = .ok (.iinc 1 1, 3) := by decide +kernel
theorem dX10_parse_83 : decode cX10_parse 83 = .ok (.goto (-33), 3) := by decide +kernel
theorem dX10_parse_86 : decode cX10_parse 86 = .ok (.iconst 0, 1) := by decide +kernel
theorem dX10_parse_87 : decode cX10_parse 87 = .ok (.istore_n 2, 1) := by decide +kernel
theorem dX10_parse_88 : decode cX10_parse 88 = .ok (.iload_n 2, 1) := by decide +kernel
theorem dX10_parse_89 : decode cX10_parse 89 = .ok (.sipush 942, 3) := by decide +kernel
theorem dX10_parse_92 : decode cX10_parse 92 = .ok (.if_icmp .ge 35, 3) := by decide +kernel
theorem dX10_parse_95 : decode cX10_parse 95 = .ok (.aload_n 0, 1) := by decide +kernel
theorem dX10_parse_96 : decode cX10_parse 96 = .ok (.getfield 7, 3) := by decide +kernel
theorem dX10_parse_99 : decode cX10_parse 99 = .ok (.iload_n 2, 1) := by decide +kernel
theorem dX10_parse_100 : decode cX10_parse 100 = .ok (.iaload, 1) := by decide +kernel
theorem dX10_parse_101 : decode cX10_parse 101 = .ok (.istore_n 3, 1) := by decide +kernel
theorem dX10_parse_102 : decode cX10_parse 102 = .ok (.aload_n 0, 1) := by decide +kernel
theorem dX10_parse_103 : decode cX10_parse 103 = .ok (.getfield 7, 3) := by decide +kernel
theorem dX10_parse_106 : decode cX10_parse 106 = .ok (.iload_n 2, 1) := by decide +kernel
theorem dX10_parse_107 : decode cX10_parse 107 = .ok (.aload_n 0, 1) := by decide +kernel
theorem dX10_parse_108 : decode cX10_parse 108 = .ok (.getfield 16, 3) := by decide +kernel
theorem dX10_parse_111 : decode cX10_parse 111 = .ok (.iload_n 2, 1) := by decide +kernel
theorem dX10_parse_112 : decode cX10_parse 112 = .ok (.iaload, 1) := by decide +kernel
theorem dX10_parse_113 : decode cX10_parse 113 = .ok (.iastore, 1) := by decide +kernel
theorem dX10_parse_114 : decode cX10_parse 114 = .ok (.aload_n 0, 1) := by decide +kernel
theorem dX10_parse_115 : decode cX10_parse 115 = .ok (.getfield 16, 3) := by decide +kernel
theorem dX10_parse_118 : decode cX10_parse 118 = .ok (.iload_n 2, 1) := by decide +kernel
theorem dX10_parse_119 : decode cX10_parse 119 = .ok (.iload_n 3, 1) := by decide +kernel
theorem dX10_parse_120 : decode cX10_parse 120 = .ok (.iastore, 1) := by decide +kernel
theorem dX10_parse_121 : decode cX10_parse 121 = .ok (.iinc 2 1, 3) := by decide +kernel
theorem dX10_parse_124 : decode cX10_parse 124 = .ok (.goto (-36), 3) := by decide +kernel
theorem dX10_parse_127 : decode cX10_parse 127 = .ok (.aload_n 0, 1) := by decide +kernel
theorem dX10_parse_128 : decode cX10_parse 128 = .ok (.invokevirtual 57, 3) := by decide +kernel
theorem dX10_parse_131 : decode cX10_parse 131 = .ok (.aload_n 0, 1) := by decide +kernel
theorem dX10_parse_132 : decode cX10_parse 132 = .ok (.invokevirtual 146, 3) := by decide +kernel
theorem dX10_parse_135 : decode cX10_parse 135 = .ok (.iload_n 1, 1) := by decide +kernel
theorem dX10_parse_136 : decode cX10_parse 136 = .ok (.ireturn, 1) := by decide +kernel
theorem dX10_undo_0 : decode cX10_undo 0 = .ok (.aload_n 0, 1) := by decide +kernel
theorem dX10_undo_1 : decode cX10_undo 1 = .ok (.aload_n 0, 1) := by decide +kernel
theorem dX10_undo_2 : decode cX10_undo 2 = .ok (.getfield 26, 3) := by decide +kernel
theorem dX10_undo_5 : decode cX10_undo 5 = .ok (.ifCond .le 7, 3) := by decide +kernel
theorem dX10_undo_8 : decode cX10_undo 8 = .ok (.iconst 1, 1) := by decide +kernel
theorem dX10_undo_9 : decode cX10_undo 9 = .ok (.goto 4, 3) := by decide +kernel
theorem dX10_undo_12 : decode cX10_undo 12 = .ok (.iconst 0, 1) := by decide +kernel
theorem dX10_undo_13 : decode cX10_undo 13 = .ok (.iconst 1, 1) := by decide +kernel
theorem dX10_undo_14 : decode cX10_undo 14 = .ok (.iconst 1, 1) := by decide +kernel
theorem dX10_undo_15 : decode cX10_undo 15 = .ok (.invokevirtual 53, 3) := by decide +kernel
theorem dX10_undo_18 : decode cX10_undo 18 = .ok (.ifCond .ne 5, 3) := by decide +kernel
theorem dX10_undo_21 : decode cX10_undo 21 = .ok (.iconst 0, 1) := by decide +kernel
theorem dX10_undo_22 : decode cX10_undo 22 = .ok (.ireturn, 1) := by decide +kernel
theorem dX10_undo_23 : decode cX10_undo 23 = .ok (.aload_n 0, 1) := by decide +kernel
theorem dX10_undo_24 : decode cX10_undo 24 = .ok (.dup, 1) := by decide +kernel
theorem dX10_undo_25 : decode cX10_undo 25 = .ok (.getfield 26, 3) := by decide +kernel
theorem dX10_undo_28 : decode cX10_undo 28 = .ok (.iconst 1, 1) := by decide +kernel
theorem dX10_undo_29 : decode cX10_undo 29 = .ok (.isub, 1) := by decide +kernel
theorem dX10_undo_30 : decode cX10_undo 30 = .ok (.putfield 26, 3) := by decide +kernel
theorem dX10_undo_33 : decode cX10_undo 33 = .ok (.iconst 0, 1) := by decide +kernel
theorem dX10_undo_34 : decode cX10_undo 34 = .ok (.istore_n 1, 1) := by decide +kernel
theorem dX10_undo_35 : decode cX10_undo 35 = .ok (.iload_n 1, 1) := by decide +kernel
theorem dX10_undo_36 : decode cX10_undo 36 = .ok (.sipush 942, 3) := by decide +kernel
theorem dX10_undo_39 : decode cX10_undo 39 = .ok (.if_icmp .ge 30, 3) := by decide +kernel
theorem dX10_undo_42 : decode cX10_undo 42 = .ok (.aload_n 0, 1) := by decide +kernel
theorem dX10_undo_43 : decode cX10_undo 43 = .ok (.getfield 7, 3) := by decide +kernel
theorem dX10_undo_46 : decode cX10_undo 46 = .ok (.iload_n 1, 1) := by decide +kernel
theorem dX10_undo_47 : decode cX10_undo 47 = .ok (.aload_n 0, 1) := by decide +kernel
theorem dX10_undo_48 : decode cX10_undo 48 = .ok (.getfield 13, 3) := by decide +kernel
theorem dX10_undo_51 : decode cX10_undo 51 = .ok (.sipush 942, 3) := by decide +kernel
theorem dX10_undo_54 : decode cX10_undo 54 = .ok (.aload_n 0, 1) := by decide +kernel
theorem dX10_undo_55 : decode cX10_undo 55 = .ok (.getfield 26, 3) := by decide +kernel
theorem dX10_undo_58 : decode cX10_undo 58 = .ok (.imul, 1) := by decide +kernel
theorem dX10_undo_59 : decode cX10_undo 59 = .ok (.iload_n 1, 1) := by decide +kernel
theorem dX10_undo_60 : decode cX10_undo 60 = .ok (.iadd, 1) := by decide +kernel
theorem dX10_undo_61 : decode cX10_undo 61 = .ok (.iaload, 1) := by decide +kernel
theorem dX10_undo_62 : decode cX10_undo 62 = .ok (.iastore, 1) := by decide +kernel
theorem dX10_undo_63 : decode cX10_undo 63 = .ok (.iinc 1 1, 3) := by decide +kernel
theorem dX10_undo_66 : decode cX10_undo 66 = .ok (.goto (-31), 3) := by decide +kernel
theorem dX10_undo_69 : decode cX10_undo 69 = .ok (.aload_n 0, 1) := by decide +kernel
theorem dX10_undo_70 : decode cX10_undo 70 = .ok (.getfield 26, 3) := by decide +kernel
theorem dX10_undo_73 : decode cX10_undo 73 = .ok (.ireturn, 1) := by decide +kernel
theorem dX10_sums_0 : decode cX10_sums 0 = .ok (.ldc2_w 33, 3) := by decide +kernel
theorem dX10_sums_3 : decode cX10_sums 3 = .ok (.lload_n 0, 1) := by decide +kernel
theorem dX10_sums_4 : decode cX10_sums 4 = .ok (.lmul, 1) := by decide +kernel
theorem dX10_sums_5 : decode cX10_sums 5 = .ok (.lload_n 2, 1) := by decide +kernel
theorem dX10_sums_6 : decode cX10_sums 6 = .ok (.ladd, 1) := by decide +kernel
theorem dX10_sums_7 : decode cX10_sums 7 = .ok (.lreturn, 1) := by decide +kernel
theorem dX10_withStation_0 : decode cX10_withStation 0 = .ok (.lload_n 1, 1) := by decide +kernel
theorem dX10_withStation_1 : decode cX10_withStation 1 = .ok (.iload_n 3, 1) := by decide +kernel
theorem dX10_withStation_2 : decode cX10_withStation 2 = .ok (.i2l, 1) := by decide +kernel
theorem dX10_withStation_3 : decode cX10_withStation 3 = .ok (.invokestatic 187, 3) := by decide +kernel
theorem dX10_withStation_6 : decode cX10_withStation 6 = .ok (.lstore 4, 2) := by decide +kernel
theorem dX10_withStation_8 : decode cX10_withStation 8 = .ok (.iconst 0, 1) := by decide +kernel
theorem dX10_withStation_9 : decode cX10_withStation 9 = .ok (.istore 6, 2) := by decide +kernel
theorem dX10_withStation_11 : decode cX10_withStation 11 = .ok (.iload 6, 2) := by decide +kernel
theorem dX10_withStation_13 : decode cX10_withStation 13 = .ok (.bipush 7, 2) := by decide +kernel
theorem dX10_withStation_15 : decode cX10_withStation 15 = .ok (.if_icmp .ge 24, 3) := by decide +kernel
theorem dX10_withStation_18 : decode cX10_withStation 18 = .ok (.lload 4, 2) := by decide +kernel
theorem dX10_withStation_20 : decode cX10_withStation 20 = .ok (.aload_n 0, 1) := by decide +kernel
theorem dX10_withStation_21 : decode cX10_withStation 21 = .ok (.iload_n 3, 1) := by decide +kernel
theorem dX10_withStation_22 : decode cX10_withStation 22 = .ok (.iload 6, 2) := by decide +kernel
theorem dX10_withStation_24 : decode cX10_withStation 24 = .ok (.invokevirtual 136, 3) := by decide +kernel
theorem dX10_withStation_27 : decode cX10_withStation 27 = .ok (.i2l, 1) := by decide +kernel
theorem dX10_withStation_28 : decode cX10_withStation 28 = .ok (.invokestatic 187, 3) := by decide +kernel
theorem dX10_withStation_31 : decode cX10_withStation 31 = .ok (.lstore 4, 2) := by decide +kernel
theorem dX10_withStation_33 : decode cX10_withStation 33 = .ok (.iinc 6 1, 3) := by decide +kernel
theorem dX10_withStation_36 : decode cX10_withStation 36 = .ok (.goto (-25), 3) := by decide +kernel
theorem dX10_withStation_39 : decode cX10_withStation 39 = .ok (.aload_n 0, 1) := by decide +kernel
theorem dX10_withStation_40 : decode cX10_withStation 40 = .ok (.iload_n 3, 1) := by decide +kernel
theorem dX10_withStation_41 : decode cX10_withStation 41 = .ok (.iconst (-1), 1) := by decide +kernel
theorem dX10_withStation_42 : decode cX10_withStation 42 = .ok (.invokevirtual 86, 3) := by decide +kernel
theorem dX10_withStation_45 : decode cX10_withStation 45 = .ok (.istore 6, 2) := by decide +kernel
theorem dX10_withStation_47 : decode cX10_withStation 47 = .ok (.iload 6, 2) := by decide +kernel
theorem dX10_withStation_49 : decode cX10_withStation 49 = .ok (.iconst (-1), 1) := by decide +kernel
theorem dX10_withStation_50 : decode cX10_withStation 50 = .ok (.if_icmp .eq 25, 3) := by decide +kernel
theorem dX10_withStation_53 : decode cX10_withStation 53 = .ok (.lload 4, 2) := by decide +kernel
theorem dX10_withStation_55 : decode cX10_withStation 55 = .ok (.iload 6, 2) := by decide +kernel
theorem dX10_withStation_57 : decode cX10_withStation 57 = .ok (.i2l, 1) := by decide +kernel
theorem dX10_withStation_58 : decode cX10_withStation 58 = .ok (.invokestatic 187, 3) := by decide +kernel
theorem dX10_withStation_61 : decode cX10_withStation 61 = .ok (.lstore 4, 2) := by decide +kernel
theorem dX10_withStation_63 : decode cX10_withStation 63 = .ok (.aload_n 0, 1) := by decide +kernel
theorem dX10_withStation_64 : decode cX10_withStation 64 = .ok (.iload_n 3, 1) := by decide +kernel
theorem dX10_withStation_65 : decode cX10_withStation 65 = .ok (.iload 6, 2) := by decide +kernel
theorem dX10_withStation_67 : decode cX10_withStation 67 = .ok (.invokevirtual 86, 3) := by decide +kernel
theorem dX10_withStation_70 : decode cX10_withStation 70 = .ok (.istore 6, 2) := by decide +kernel
theorem dX10_withStation_72 : decode cX10_withStation 72 = .ok (.goto (-25), 3) := by decide +kernel
theorem dX10_withStation_75 : decode cX10_withStation 75 = .ok (.lload 4, 2) := by decide +kernel
theorem dX10_withStation_77 : decode cX10_withStation 77 = .ok (.lreturn, 1) := by decide +kernel
theorem dX10_digest_0 : decode cX10_digest 0 = .ok (.aload_n 0, 1) := by decide +kernel
theorem dX10_digest_1 : decode cX10_digest 1 = .ok (.iconst 0, 1) := by decide +kernel
theorem dX10_digest_2 : decode cX10_digest 2 = .ok (.putfield 22, 3) := by decide +kernel
theorem dX10_digest_5 : decode cX10_digest 5 = .ok (.ldc2_w 191, 3) := by decide +kernel
theorem dX10_digest_8 : decode cX10_digest 8 = .ok (.aload_n 0, 1) := by decide +kernel
theorem dX10_digest_9 : decode cX10_digest 9 = .ok (.getfield 159, 3) := by decide +kernel
theorem dX10_digest_12 : decode cX10_digest 12 = .ok (.i2l, 1) := by decide +kernel
theorem dX10_digest_13 : decode cX10_digest 13 = .ok (.invokestatic 187, 3) := by decide +kernel
theorem dX10_digest_16 : decode cX10_digest 16 = .ok (.lstore_n 1, 1) := by decide +kernel
theorem dX10_digest_17 : decode cX10_digest 17 = .ok (.iconst 0, 1) := by decide +kernel
theorem dX10_digest_18 : decode cX10_digest 18 = .ok (.istore_n 3, 1) := by decide +kernel
theorem dX10_digest_19 : decode cX10_digest 19 = .ok (.iload_n 3, 1) := by decide +kernel
theorem dX10_digest_20 : decode cX10_digest 20 = .ok (.bipush 9, 2) := by decide +kernel
theorem dX10_digest_22 : decode cX10_digest 22 = .ok (.if_icmp .ge 20, 3) := by decide +kernel
theorem dX10_digest_25 : decode cX10_digest 25 = .ok (.lload_n 1, 1) := by decide +kernel
theorem dX10_digest_26 : decode cX10_digest 26 = .ok (.aload_n 0, 1) := by decide +kernel
theorem dX10_digest_27 : decode cX10_digest 27 = .ok (.iload_n 3, 1) := by decide +kernel
theorem dX10_digest_28 : decode cX10_digest 28 = .ok (.invokevirtual 127, 3) := by decide +kernel
theorem dX10_digest_31 : decode cX10_digest 31 = .ok (.i2l, 1) := by decide +kernel
theorem dX10_digest_32 : decode cX10_digest 32 = .ok (.invokestatic 187, 3) := by decide +kernel
theorem dX10_digest_35 : decode cX10_digest 35 = .ok (.lstore_n 1, 1) := by decide +kernel
theorem dX10_digest_36 : decode cX10_digest 36 = .ok (.iinc 3 1, 3) := by decide +kernel
theorem dX10_digest_39 : decode cX10_digest 39 = .ok (.goto (-20), 3) := by decide +kernel
theorem dX10_digest_42 : decode cX10_digest 42 = .ok (.iconst 0, 1) := by decide +kernel
theorem dX10_digest_43 : decode cX10_digest 43 = .ok (.istore_n 3, 1) := by decide +kernel
theorem dX10_digest_44 : decode cX10_digest 44 = .ok (.iload_n 3, 1) := by decide +kernel
theorem dX10_digest_45 : decode cX10_digest 45 = .ok (.bipush 32, 2) := by decide +kernel
theorem dX10_digest_47 : decode cX10_digest 47 = .ok (.if_icmp .ge 30, 3) := by decide +kernel
theorem dX10_digest_50 : decode cX10_digest 50 = .ok (.aload_n 0, 1) := by decide +kernel
theorem dX10_digest_51 : decode cX10_digest 51 = .ok (.iload_n 3, 1) := by decide +kernel
theorem dX10_digest_52 : decode cX10_digest 52 = .ok (.iconst 0, 1) := by decide +kernel
theorem dX10_digest_53 : decode cX10_digest 53 = .ok (.invokevirtual 39, 3) := by decide +kernel
theorem dX10_digest_56 : decode cX10_digest 56 = .ok (.iconst 1, 1) := by decide +kernel
theorem dX10_digest_57 : decode cX10_digest 57 = .ok (.if_icmp .ne 12, 3) := by decide +kernel
theorem dX10_digest_60 : decode cX10_digest 60 = .ok (.aload_n 0, 1) := by decide +kernel
theorem dX10_digest_61 : decode cX10_digest 61 = .ok (.lload_n 1, 1) := by decide +kernel
theorem dX10_digest_62 : decode cX10_digest 62 = .ok (.iload_n 3, 1) := by decide +kernel
theorem dX10_digest_63 : decode cX10_digest 63 = .ok (.invokevirtual 193, 3) := by decide +kernel
theorem dX10_digest_66 : decode cX10_digest 66 = .ok (.goto 4, 3) := by decide +kernel
theorem dX10_digest_69 : decode cX10_digest 69 = .ok (.lload_n 1, 1) := by decide +kernel
theorem dX10_digest_70 : decode cX10_digest 70 = .ok (.lstore_n 1, 1) := by decide +kernel
theorem dX10_digest_71 : decode cX10_digest 71 = .ok (.iinc 3 1, 3) := by decide +kernel
theorem dX10_digest_74 : decode cX10_digest 74 = .ok (.goto (-30), 3) := by decide +kernel
theorem dX10_digest_77 : decode cX10_digest 77 = .ok (.iconst 0, 1) := by decide +kernel
theorem dX10_digest_78 : decode cX10_digest 78 = .ok (.istore_n 3, 1) := by decide +kernel
theorem dX10_digest_79 : decode cX10_digest 79 = .ok (.iload_n 3, 1) := by decide +kernel
theorem dX10_digest_80 : decode cX10_digest 80 = .ok (.iconst 5, 1) := by decide +kernel
theorem dX10_digest_81 : decode cX10_digest 81 = .ok (.aload_n 0, 1) := by decide +kernel
theorem dX10_digest_82 : decode cX10_digest 82 = .ok (.getfield 7, 3) := by decide +kernel
theorem dX10_digest_85 : decode cX10_digest 85 = .ok (.iconst 5, 1) := by decide +kernel
theorem dX10_digest_86 : decode cX10_digest 86 = .ok (.iaload, 1) := by decide +kernel
theorem dX10_digest_87 : decode cX10_digest 87 = .ok (.imul, 1) := by decide +kernel
theorem dX10_digest_88 : decode cX10_digest 88 = .ok (.if_icmp .ge 25, 3) := by decide +kernel
theorem dX10_digest_91 : decode cX10_digest 91 = .ok (.lload_n 1, 1) := by decide +kernel
theorem dX10_digest_92 : decode cX10_digest 92 = .ok (.aload_n 0, 1) := by decide +kernel
theorem dX10_digest_93 : decode cX10_digest 93 = .ok (.getfield 7, 3) := by decide +kernel
theorem dX10_digest_96 : decode cX10_digest 96 = .ok (.sipush 242, 3) := by decide +kernel
theorem dX10_digest_99 : decode cX10_digest 99 = .ok (.iload_n 3, 1) := by decide +kernel
theorem dX10_digest_100 : decode cX10_digest 100 = .ok (.iadd, 1) := by decide +kernel
theorem dX10_digest_101 : decode cX10_digest 101 = .ok (.iaload, 1) := by decide +kernel
theorem dX10_digest_102 : decode cX10_digest 102 = .ok (.i2l, 1) := by decide +kernel
theorem dX10_digest_103 : decode cX10_digest 103 = .ok (.invokestatic 187, 3) := by decide +kernel
theorem dX10_digest_106 : decode cX10_digest 106 = .ok (.lstore_n 1, 1) := by decide +kernel
theorem dX10_digest_107 : decode cX10_digest 107 = .ok (.iinc 3 1, 3) := by decide +kernel
theorem dX10_digest_110 : decode cX10_digest 110 = .ok (.goto (-31), 3) := by decide +kernel
theorem dX10_digest_113 : decode cX10_digest 113 = .ok (.iconst 0, 1) := by decide +kernel
theorem dX10_digest_114 : decode cX10_digest 114 = .ok (.istore_n 3, 1) := by decide +kernel
theorem dX10_digest_115 : decode cX10_digest 115 = .ok (.iload_n 3, 1) := by decide +kernel
theorem dX10_digest_116 : decode cX10_digest 116 = .ok (.bipush 7, 2) := by decide +kernel
theorem dX10_digest_118 : decode cX10_digest 118 = .ok (.if_icmp .ge 24, 3) := by decide +kernel
theorem dX10_digest_121 : decode cX10_digest 121 = .ok (.lload_n 1, 1) := by decide +kernel
theorem dX10_digest_122 : decode cX10_digest 122 = .ok (.aload_n 0, 1) := by decide +kernel
theorem dX10_digest_123 : decode cX10_digest 123 = .ok (.getfield 7, 3) := by decide +kernel
theorem dX10_digest_126 : decode cX10_digest 126 = .ok (.bipush 9, 2) := by decide +kernel
theorem dX10_digest_128 : decode cX10_digest 128 = .ok (.iload_n 3, 1) := by decide +kernel
theorem dX10_digest_129 : decode cX10_digest 129 = .ok (.iadd, 1) := by decide +kernel
theorem dX10_digest_130 : decode cX10_digest 130 = .ok (.iaload, 1) := by decide +kernel
theorem dX10_digest_131 : decode cX10_digest 131 = .ok (.i2l, 1) := by decide +kernel
theorem dX10_digest_132 : decode cX10_digest 132 = .ok (.invokestatic 187, 3) := by decide +kernel
theorem dX10_digest_135 : decode cX10_digest 135 = .ok (.lstore_n 1, 1) := by decide +kernel
theorem dX10_digest_136 : decode cX10_digest 136 = .ok (.iinc 3 1, 3) := by decide +kernel
theorem dX10_digest_139 : decode cX10_digest 139 = .ok (.goto (-24), 3) := by decide +kernel
theorem dX10_digest_142 : decode cX10_digest 142 = .ok (.lload_n 1, 1) := by decide +kernel
theorem dX10_digest_143 : decode cX10_digest 143 = .ok (.aload_n 0, 1) := by decide +kernel
theorem dX10_digest_144 : decode cX10_digest 144 = .ok (.getfield 7, 3) := by decide +kernel
theorem dX10_digest_147 : decode cX10_digest 147 = .ok (.bipush 8, 2) := by decide +kernel
theorem dX10_digest_149 : decode cX10_digest 149 = .ok (.iaload, 1) := by decide +kernel
theorem dX10_digest_150 : decode cX10_digest 150 = .ok (.i2l, 1) := by decide +kernel
theorem dX10_digest_151 : decode cX10_digest 151 = .ok (.invokestatic 187, 3) := by decide +kernel
theorem dX10_digest_154 : decode cX10_digest 154 = .ok (.aload_n 0, 1) := by decide +kernel
theorem dX10_digest_155 : decode cX10_digest 155 = .ok (.getfield 7, 3) := by decide +kernel
theorem dX10_digest_158 : decode cX10_digest 158 = .ok (.bipush 7, 2) := by decide +kernel
theorem dX10_digest_160 : decode cX10_digest 160 = .ok (.iaload, 1) := by decide +kernel
theorem dX10_digest_161 : decode cX10_digest 161 = .ok (.i2l, 1) := by decide +kernel
theorem dX10_digest_162 : decode cX10_digest 162 = .ok (.invokestatic 187, 3) := by decide +kernel
theorem dX10_digest_165 : decode cX10_digest 165 = .ok (.lstore_n 1, 1) := by decide +kernel
theorem dX10_digest_166 : decode cX10_digest 166 = .ok (.iconst 0, 1) := by decide +kernel
theorem dX10_digest_167 : decode cX10_digest 167 = .ok (.istore_n 3, 1) := by decide +kernel
theorem dX10_digest_168 : decode cX10_digest 168 = .ok (.iload_n 3, 1) := by decide +kernel
theorem dX10_digest_169 : decode cX10_digest 169 = .ok (.iconst 4, 1) := by decide +kernel
theorem dX10_digest_170 : decode cX10_digest 170 = .ok (.aload_n 0, 1) := by decide +kernel
theorem dX10_digest_171 : decode cX10_digest 171 = .ok (.getfield 7, 3) := by decide +kernel
theorem dX10_digest_174 : decode cX10_digest 174 = .ok (.bipush 7, 2) := by decide +kernel
theorem dX10_digest_176 : decode cX10_digest 176 = .ok (.iaload, 1) := by decide +kernel
theorem dX10_digest_177 : decode cX10_digest 177 = .ok (.imul, 1) := by decide +kernel
theorem dX10_digest_178 : decode cX10_digest 178 = .ok (.if_icmp .ge 25, 3) := by decide +kernel
theorem dX10_digest_181 : decode cX10_digest 181 = .ok (.lload_n 1, 1) := by decide +kernel
theorem dX10_digest_182 : decode cX10_digest 182 = .ok (.aload_n 0, 1) := by decide +kernel
theorem dX10_digest_183 : decode cX10_digest 183 = .ok (.getfield 7, 3) := by decide +kernel
theorem dX10_digest_186 : decode cX10_digest 186 = .ok (.sipush 782, 3) := by decide +kernel
theorem dX10_digest_189 : decode cX10_digest 189 = .ok (.iload_n 3, 1) := by decide +kernel
theorem dX10_digest_190 : decode cX10_digest 190 = .ok (.iadd, 1) := by decide +kernel
theorem dX10_digest_191 : decode cX10_digest 191 = .ok (.iaload, 1) := by decide +kernel
theorem dX10_digest_192 : decode cX10_digest 192 = .ok (.i2l, 1) := by decide +kernel
theorem dX10_digest_193 : decode cX10_digest 193 = .ok (.invokestatic 187, 3) := by decide +kernel
theorem dX10_digest_196 : decode cX10_digest 196 = .ok (.lstore_n 1, 1) := by decide +kernel
theorem dX10_digest_197 : decode cX10_digest 197 = .ok (.iinc 3 1, 3) := by decide +kernel
theorem dX10_digest_200 : decode cX10_digest 200 = .ok (.goto (-32), 3) := by decide +kernel
theorem dX10_digest_203 : decode cX10_digest 203 = .ok (.lload_n 1, 1) := by decide +kernel
theorem dX10_digest_204 : decode cX10_digest 204 = .ok (.aload_n 0, 1) := by decide +kernel
theorem dX10_digest_205 : decode cX10_digest 205 = .ok (.getfield 26, 3) := by decide +kernel
theorem dX10_digest_208 : decode cX10_digest 208 = .ok (.i2l, 1) := by decide +kernel
theorem dX10_digest_209 : decode cX10_digest 209 = .ok (.invokestatic 187, 3) := by decide +kernel
theorem dX10_digest_212 : decode cX10_digest 212 = .ok (.lreturn, 1) := by decide +kernel
theorem dL_addStation_0 : decode cL_addStation 0 = .ok (.aload_n 2, 1) := by decide +kernel
theorem dL_addStation_1 : decode cL_addStation 1 = .ok (.iconst 0, 1) := by decide +kernel
theorem dL_addStation_2 : decode cL_addStation 2 = .ok (.aload_n 0, 1) := by decide +kernel
theorem dL_addStation_3 : decode cL_addStation 3 = .ok (.iload_n 1, 1) := by decide +kernel
theorem dL_addStation_4 : decode cL_addStation 4 = .ok (.invokevirtual 7, 3) := by decide +kernel
theorem dL_addStation_7 : decode cL_addStation 7 = .ok (.i2l, 1) := by decide +kernel
theorem dL_addStation_8 : decode cL_addStation 8 = .ok (.lastore, 1) := by decide +kernel
theorem dL_addStation_9 : decode cL_addStation 9 = .ok (.goto 9, 3) := by decide +kernel
theorem dL_addStation_12 : decode cL_addStation 12 = .ok (.astore_n 3, 1) := by decide +kernel
theorem dL_addStation_13 : decode cL_addStation 13 = .ok (.iconst 1, 1) := by decide +kernel
theorem dL_addStation_14 : decode cL_addStation 14 = .ok (.ireturn, 1) := by decide +kernel
theorem dL_addStation_15 : decode cL_addStation 15 = .ok (.astore_n 3, 1) := by decide +kernel
theorem dL_addStation_16 : decode cL_addStation 16 = .ok (.iconst 2, 1) := by decide +kernel
theorem dL_addStation_17 : decode cL_addStation 17 = .ok (.ireturn, 1) := by decide +kernel
theorem dL_addStation_18 : decode cL_addStation 18 = .ok (.iconst 0, 1) := by decide +kernel
theorem dL_addStation_19 : decode cL_addStation 19 = .ok (.ireturn, 1) := by decide +kernel
theorem dL_setOn_0 : decode cL_setOn 0 = .ok (.aload_n 3, 1) := by decide +kernel
theorem dL_setOn_1 : decode cL_setOn 1 = .ok (.iconst 0, 1) := by decide +kernel
theorem dL_setOn_2 : decode cL_setOn 2 = .ok (.aload_n 0, 1) := by decide +kernel
theorem dL_setOn_3 : decode cL_setOn 3 = .ok (.iload_n 1, 1) := by decide +kernel
theorem dL_setOn_4 : decode cL_setOn 4 = .ok (.iload_n 2, 1) := by decide +kernel
theorem dL_setOn_5 : decode cL_setOn 5 = .ok (.invokevirtual 17, 3) := by decide +kernel
theorem dL_setOn_8 : decode cL_setOn 8 = .ok (.ifCond .eq 7, 3) := by decide +kernel
theorem dL_setOn_11 : decode cL_setOn 11 = .ok (.lconst 1, 1) := by decide +kernel
theorem dL_setOn_12 : decode cL_setOn 12 = .ok (.goto 4, 3) := by decide +kernel
theorem dL_setOn_15 : decode cL_setOn 15 = .ok (.lconst 0, 1) := by decide +kernel
theorem dL_setOn_16 : decode cL_setOn 16 = .ok (.lastore, 1) := by decide +kernel
theorem dL_setOn_17 : decode cL_setOn 17 = .ok (.goto 7, 3) := by decide +kernel
theorem dL_setOn_20 : decode cL_setOn 20 = .ok (.astore 4, 2) := by decide +kernel
theorem dL_setOn_22 : decode cL_setOn 22 = .ok (.iconst 1, 1) := by decide +kernel
theorem dL_setOn_23 : decode cL_setOn 23 = .ok (.ireturn, 1) := by decide +kernel
theorem dL_setOn_24 : decode cL_setOn 24 = .ok (.iconst 0, 1) := by decide +kernel
theorem dL_setOn_25 : decode cL_setOn 25 = .ok (.ireturn, 1) := by decide +kernel
theorem dL_setTimes_0 : decode cL_setTimes 0 = .ok (.aload 4, 2) := by decide +kernel
theorem dL_setTimes_2 : decode cL_setTimes 2 = .ok (.iconst 0, 1) := by decide +kernel
theorem dL_setTimes_3 : decode cL_setTimes 3 = .ok (.aload_n 0, 1) := by decide +kernel
theorem dL_setTimes_4 : decode cL_setTimes 4 = .ok (.iload_n 1, 1) := by decide +kernel
theorem dL_setTimes_5 : decode cL_setTimes 5 = .ok (.iload_n 2, 1) := by decide +kernel
theorem dL_setTimes_6 : decode cL_setTimes 6 = .ok (.iload_n 3, 1) := by decide +kernel
theorem dL_setTimes_7 : decode cL_setTimes 7 = .ok (.invokevirtual 23, 3) := by decide +kernel
theorem dL_setTimes_10 : decode cL_setTimes 10 = .ok (.i2l, 1) := by decide +kernel
theorem dL_setTimes_11 : decode cL_setTimes 11 = .ok (.lastore, 1) := by decide +kernel
theorem dL_setTimes_12 : decode cL_setTimes 12 = .ok (.goto 7, 3) := by decide +kernel
theorem dL_setTimes_15 : decode cL_setTimes 15 = .ok (.astore 5, 2) := by decide +kernel
theorem dL_setTimes_17 : decode cL_setTimes 17 = .ok (.iconst 1, 1) := by decide +kernel
theorem dL_setTimes_18 : decode cL_setTimes 18 = .ok (.ireturn, 1) := by decide +kernel
theorem dL_setTimes_19 : decode cL_setTimes 19 = .ok (.iconst 0, 1) := by decide +kernel
theorem dL_setTimes_20 : decode cL_setTimes 20 = .ok (.ireturn, 1) := by decide +kernel
theorem dL_give_0 : decode cL_give 0 = .ok (.aload 4, 2) := by decide +kernel
theorem dL_give_2 : decode cL_give 2 = .ok (.iconst 0, 1) := by decide +kernel
theorem dL_give_3 : decode cL_give 3 = .ok (.aload_n 0, 1) := by decide +kernel
theorem dL_give_4 : decode cL_give 4 = .ok (.iload_n 1, 1) := by decide +kernel
theorem dL_give_5 : decode cL_give 5 = .ok (.iload_n 2, 1) := by decide +kernel
theorem dL_give_6 : decode cL_give 6 = .ok (.iload_n 3, 1) := by decide +kernel
theorem dL_give_7 : decode cL_give 7 = .ok (.invokevirtual 27, 3) := by decide +kernel
theorem dL_give_10 : decode cL_give 10 = .ok (.i2l, 1) := by decide +kernel
theorem dL_give_11 : decode cL_give 11 = .ok (.lastore, 1) := by decide +kernel
theorem dL_give_12 : decode cL_give 12 = .ok (.goto 15, 3) := by decide +kernel
theorem dL_give_15 : decode cL_give 15 = .ok (.astore 5, 2) := by decide +kernel
theorem dL_give_17 : decode cL_give 17 = .ok (.iconst 1, 1) := by decide +kernel
theorem dL_give_18 : decode cL_give 18 = .ok (.ireturn, 1) := by decide +kernel
theorem dL_give_19 : decode cL_give 19 = .ok (.astore 5, 2) := by decide +kernel
theorem dL_give_21 : decode cL_give 21 = .ok (.iconst 2, 1) := by decide +kernel
theorem dL_give_22 : decode cL_give 22 = .ok (.ireturn, 1) := by decide +kernel
theorem dL_give_23 : decode cL_give 23 = .ok (.astore 5, 2) := by decide +kernel
theorem dL_give_25 : decode cL_give 25 = .ok (.iconst 3, 1) := by decide +kernel
theorem dL_give_26 : decode cL_give 26 = .ok (.ireturn, 1) := by decide +kernel
theorem dL_give_27 : decode cL_give 27 = .ok (.iconst 0, 1) := by decide +kernel
theorem dL_give_28 : decode cL_give 28 = .ok (.ireturn, 1) := by decide +kernel
theorem dL_addNoise_0 : decode cL_addNoise 0 = .ok (.aload_n 3, 1) := by decide +kernel
theorem dL_addNoise_1 : decode cL_addNoise 1 = .ok (.iconst 0, 1) := by decide +kernel
theorem dL_addNoise_2 : decode cL_addNoise 2 = .ok (.aload_n 0, 1) := by decide +kernel
theorem dL_addNoise_3 : decode cL_addNoise 3 = .ok (.iload_n 1, 1) := by decide +kernel
theorem dL_addNoise_4 : decode cL_addNoise 4 = .ok (.iload_n 2, 1) := by decide +kernel
theorem dL_addNoise_5 : decode cL_addNoise 5 = .ok (.invokevirtual 30, 3) := by decide +kernel
theorem dL_addNoise_8 : decode cL_addNoise 8 = .ok (.i2l, 1) := by decide +kernel
theorem dL_addNoise_9 : decode cL_addNoise 9 = .ok (.lastore, 1) := by decide +kernel
theorem dL_addNoise_10 : decode cL_addNoise 10 = .ok (.goto 11, 3) := by decide +kernel
theorem dL_addNoise_13 : decode cL_addNoise 13 = .ok (.astore 4, 2) := by decide +kernel
theorem dL_addNoise_15 : decode cL_addNoise 15 = .ok (.iconst 1, 1) := by decide +kernel
theorem dL_addNoise_16 : decode cL_addNoise 16 = .ok (.ireturn, 1) := by decide +kernel
theorem dL_addNoise_17 : decode cL_addNoise 17 = .ok (.astore 4, 2) := by decide +kernel
theorem dL_addNoise_19 : decode cL_addNoise 19 = .ok (.iconst 2, 1) := by decide +kernel
theorem dL_addNoise_20 : decode cL_addNoise 20 = .ok (.ireturn, 1) := by decide +kernel
theorem dL_addNoise_21 : decode cL_addNoise 21 = .ok (.iconst 0, 1) := by decide +kernel
theorem dL_addNoise_22 : decode cL_addNoise 22 = .ok (.ireturn, 1) := by decide +kernel
theorem dL_run_0 : decode cL_run 0 = .ok (.aload_n 2, 1) := by decide +kernel
theorem dL_run_1 : decode cL_run 1 = .ok (.iconst 0, 1) := by decide +kernel
theorem dL_run_2 : decode cL_run 2 = .ok (.aload_n 0, 1) := by decide +kernel
theorem dL_run_3 : decode cL_run 3 = .ok (.iload_n 1, 1) := by decide +kernel
theorem dL_run_4 : decode cL_run 4 = .ok (.invokevirtual 34, 3) := by decide +kernel
theorem dL_run_7 : decode cL_run 7 = .ok (.i2l, 1) := by decide +kernel
theorem dL_run_8 : decode cL_run 8 = .ok (.lastore, 1) := by decide +kernel
theorem dL_run_9 : decode cL_run 9 = .ok (.goto 9, 3) := by decide +kernel
theorem dL_run_12 : decode cL_run 12 = .ok (.astore_n 3, 1) := by decide +kernel
theorem dL_run_13 : decode cL_run 13 = .ok (.iconst 1, 1) := by decide +kernel
theorem dL_run_14 : decode cL_run 14 = .ok (.ireturn, 1) := by decide +kernel
theorem dL_run_15 : decode cL_run 15 = .ok (.astore_n 3, 1) := by decide +kernel
theorem dL_run_16 : decode cL_run 16 = .ok (.iconst 2, 1) := by decide +kernel
theorem dL_run_17 : decode cL_run 17 = .ok (.ireturn, 1) := by decide +kernel
theorem dL_run_18 : decode cL_run 18 = .ok (.iconst 0, 1) := by decide +kernel
theorem dL_run_19 : decode cL_run 19 = .ok (.ireturn, 1) := by decide +kernel
theorem dL_setting_0 : decode cL_setting 0 = .ok (.aload_n 2, 1) := by decide +kernel
theorem dL_setting_1 : decode cL_setting 1 = .ok (.iconst 0, 1) := by decide +kernel
theorem dL_setting_2 : decode cL_setting 2 = .ok (.aload_n 0, 1) := by decide +kernel
theorem dL_setting_3 : decode cL_setting 3 = .ok (.iload_n 1, 1) := by decide +kernel
theorem dL_setting_4 : decode cL_setting 4 = .ok (.invokevirtual 37, 3) := by decide +kernel
theorem dL_setting_7 : decode cL_setting 7 = .ok (.i2l, 1) := by decide +kernel
theorem dL_setting_8 : decode cL_setting 8 = .ok (.lastore, 1) := by decide +kernel
theorem dL_setting_9 : decode cL_setting 9 = .ok (.goto 6, 3) := by decide +kernel
theorem dL_setting_12 : decode cL_setting 12 = .ok (.astore_n 3, 1) := by decide +kernel
theorem dL_setting_13 : decode cL_setting 13 = .ok (.iconst 1, 1) := by decide +kernel
theorem dL_setting_14 : decode cL_setting 14 = .ok (.ireturn, 1) := by decide +kernel
theorem dL_setting_15 : decode cL_setting 15 = .ok (.iconst 0, 1) := by decide +kernel
theorem dL_setting_16 : decode cL_setting 16 = .ok (.ireturn, 1) := by decide +kernel
theorem dL_station_0 : decode cL_station 0 = .ok (.aload_n 3, 1) := by decide +kernel
theorem dL_station_1 : decode cL_station 1 = .ok (.iconst 0, 1) := by decide +kernel
theorem dL_station_2 : decode cL_station 2 = .ok (.aload_n 0, 1) := by decide +kernel
theorem dL_station_3 : decode cL_station 3 = .ok (.iload_n 1, 1) := by decide +kernel
theorem dL_station_4 : decode cL_station 4 = .ok (.iload_n 2, 1) := by decide +kernel
theorem dL_station_5 : decode cL_station 5 = .ok (.invokevirtual 40, 3) := by decide +kernel
theorem dL_station_8 : decode cL_station 8 = .ok (.i2l, 1) := by decide +kernel
theorem dL_station_9 : decode cL_station 9 = .ok (.lastore, 1) := by decide +kernel
theorem dL_station_10 : decode cL_station 10 = .ok (.goto 11, 3) := by decide +kernel
theorem dL_station_13 : decode cL_station 13 = .ok (.astore 4, 2) := by decide +kernel
theorem dL_station_15 : decode cL_station 15 = .ok (.iconst 1, 1) := by decide +kernel
theorem dL_station_16 : decode cL_station 16 = .ok (.ireturn, 1) := by decide +kernel
theorem dL_station_17 : decode cL_station 17 = .ok (.astore 4, 2) := by decide +kernel
theorem dL_station_19 : decode cL_station 19 = .ok (.iconst 2, 1) := by decide +kernel
theorem dL_station_20 : decode cL_station 20 = .ok (.ireturn, 1) := by decide +kernel
theorem dL_station_21 : decode cL_station 21 = .ok (.iconst 0, 1) := by decide +kernel
theorem dL_station_22 : decode cL_station 22 = .ok (.ireturn, 1) := by decide +kernel
theorem dL_addressAt_0 : decode cL_addressAt 0 = .ok (.aload_n 2, 1) := by decide +kernel
theorem dL_addressAt_1 : decode cL_addressAt 1 = .ok (.iconst 0, 1) := by decide +kernel
theorem dL_addressAt_2 : decode cL_addressAt 2 = .ok (.aload_n 0, 1) := by decide +kernel
theorem dL_addressAt_3 : decode cL_addressAt 3 = .ok (.iload_n 1, 1) := by decide +kernel
theorem dL_addressAt_4 : decode cL_addressAt 4 = .ok (.invokevirtual 43, 3) := by decide +kernel
theorem dL_addressAt_7 : decode cL_addressAt 7 = .ok (.i2l, 1) := by decide +kernel
theorem dL_addressAt_8 : decode cL_addressAt 8 = .ok (.lastore, 1) := by decide +kernel
theorem dL_addressAt_9 : decode cL_addressAt 9 = .ok (.goto 6, 3) := by decide +kernel
theorem dL_addressAt_12 : decode cL_addressAt 12 = .ok (.astore_n 3, 1) := by decide +kernel
theorem dL_addressAt_13 : decode cL_addressAt 13 = .ok (.iconst 1, 1) := by decide +kernel
theorem dL_addressAt_14 : decode cL_addressAt 14 = .ok (.ireturn, 1) := by decide +kernel
theorem dL_addressAt_15 : decode cL_addressAt 15 = .ok (.iconst 0, 1) := by decide +kernel
theorem dL_addressAt_16 : decode cL_addressAt 16 = .ok (.ireturn, 1) := by decide +kernel
theorem dL_queued_0 : decode cL_queued 0 = .ok (.aload_n 3, 1) := by decide +kernel
theorem dL_queued_1 : decode cL_queued 1 = .ok (.iconst 0, 1) := by decide +kernel
theorem dL_queued_2 : decode cL_queued 2 = .ok (.aload_n 0, 1) := by decide +kernel
theorem dL_queued_3 : decode cL_queued 3 = .ok (.iload_n 1, 1) := by decide +kernel
theorem dL_queued_4 : decode cL_queued 4 = .ok (.iload_n 2, 1) := by decide +kernel
theorem dL_queued_5 : decode cL_queued 5 = .ok (.invokevirtual 48, 3) := by decide +kernel
theorem dL_queued_8 : decode cL_queued 8 = .ok (.i2l, 1) := by decide +kernel
theorem dL_queued_9 : decode cL_queued 9 = .ok (.lastore, 1) := by decide +kernel
theorem dL_queued_10 : decode cL_queued 10 = .ok (.goto 11, 3) := by decide +kernel
theorem dL_queued_13 : decode cL_queued 13 = .ok (.astore 4, 2) := by decide +kernel
theorem dL_queued_15 : decode cL_queued 15 = .ok (.iconst 1, 1) := by decide +kernel
theorem dL_queued_16 : decode cL_queued 16 = .ok (.ireturn, 1) := by decide +kernel
theorem dL_queued_17 : decode cL_queued 17 = .ok (.astore 4, 2) := by decide +kernel
theorem dL_queued_19 : decode cL_queued 19 = .ok (.iconst 2, 1) := by decide +kernel
theorem dL_queued_20 : decode cL_queued 20 = .ok (.ireturn, 1) := by decide +kernel
theorem dL_queued_21 : decode cL_queued 21 = .ok (.iconst 0, 1) := by decide +kernel
theorem dL_queued_22 : decode cL_queued 22 = .ok (.ireturn, 1) := by decide +kernel
theorem dL_message_0 : decode cL_message 0 = .ok (.aload_n 3, 1) := by decide +kernel
theorem dL_message_1 : decode cL_message 1 = .ok (.iconst 0, 1) := by decide +kernel
theorem dL_message_2 : decode cL_message 2 = .ok (.aload_n 0, 1) := by decide +kernel
theorem dL_message_3 : decode cL_message 3 = .ok (.iload_n 1, 1) := by decide +kernel
theorem dL_message_4 : decode cL_message 4 = .ok (.iload_n 2, 1) := by decide +kernel
theorem dL_message_5 : decode cL_message 5 = .ok (.invokevirtual 51, 3) := by decide +kernel
theorem dL_message_8 : decode cL_message 8 = .ok (.i2l, 1) := by decide +kernel
theorem dL_message_9 : decode cL_message 9 = .ok (.lastore, 1) := by decide +kernel
theorem dL_message_10 : decode cL_message 10 = .ok (.goto 11, 3) := by decide +kernel
theorem dL_message_13 : decode cL_message 13 = .ok (.astore 4, 2) := by decide +kernel
theorem dL_message_15 : decode cL_message 15 = .ok (.iconst 1, 1) := by decide +kernel
theorem dL_message_16 : decode cL_message 16 = .ok (.ireturn, 1) := by decide +kernel
theorem dL_message_17 : decode cL_message 17 = .ok (.astore 4, 2) := by decide +kernel
theorem dL_message_19 : decode cL_message 19 = .ok (.iconst 2, 1) := by decide +kernel
theorem dL_message_20 : decode cL_message 20 = .ok (.ireturn, 1) := by decide +kernel
theorem dL_message_21 : decode cL_message 21 = .ok (.iconst 0, 1) := by decide +kernel
theorem dL_message_22 : decode cL_message 22 = .ok (.ireturn, 1) := by decide +kernel
theorem dL_count_0 : decode cL_count 0 = .ok (.aload_n 2, 1) := by decide +kernel
theorem dL_count_1 : decode cL_count 1 = .ok (.iconst 0, 1) := by decide +kernel
theorem dL_count_2 : decode cL_count 2 = .ok (.aload_n 0, 1) := by decide +kernel
theorem dL_count_3 : decode cL_count 3 = .ok (.iload_n 1, 1) := by decide +kernel
theorem dL_count_4 : decode cL_count 4 = .ok (.invokevirtual 54, 3) := by decide +kernel
theorem dL_count_7 : decode cL_count 7 = .ok (.i2l, 1) := by decide +kernel
theorem dL_count_8 : decode cL_count 8 = .ok (.lastore, 1) := by decide +kernel
theorem dL_count_9 : decode cL_count 9 = .ok (.goto 6, 3) := by decide +kernel
theorem dL_count_12 : decode cL_count 12 = .ok (.astore_n 3, 1) := by decide +kernel
theorem dL_count_13 : decode cL_count 13 = .ok (.iconst 1, 1) := by decide +kernel
theorem dL_count_14 : decode cL_count 14 = .ok (.ireturn, 1) := by decide +kernel
theorem dL_count_15 : decode cL_count 15 = .ok (.iconst 0, 1) := by decide +kernel
theorem dL_count_16 : decode cL_count 16 = .ok (.ireturn, 1) := by decide +kernel
theorem dL_isNoisy_0 : decode cL_isNoisy 0 = .ok (.aload_n 2, 1) := by decide +kernel
theorem dL_isNoisy_1 : decode cL_isNoisy 1 = .ok (.iconst 0, 1) := by decide +kernel
theorem dL_isNoisy_2 : decode cL_isNoisy 2 = .ok (.aload_n 0, 1) := by decide +kernel
theorem dL_isNoisy_3 : decode cL_isNoisy 3 = .ok (.iload_n 1, 1) := by decide +kernel
theorem dL_isNoisy_4 : decode cL_isNoisy 4 = .ok (.invokevirtual 57, 3) := by decide +kernel
theorem dL_isNoisy_7 : decode cL_isNoisy 7 = .ok (.ifCond .eq 7, 3) := by decide +kernel
theorem dL_isNoisy_10 : decode cL_isNoisy 10 = .ok (.lconst 1, 1) := by decide +kernel
theorem dL_isNoisy_11 : decode cL_isNoisy 11 = .ok (.goto 4, 3) := by decide +kernel
theorem dL_isNoisy_14 : decode cL_isNoisy 14 = .ok (.lconst 0, 1) := by decide +kernel
theorem dL_isNoisy_15 : decode cL_isNoisy 15 = .ok (.lastore, 1) := by decide +kernel
theorem dL_isNoisy_16 : decode cL_isNoisy 16 = .ok (.goto 6, 3) := by decide +kernel
theorem dL_isNoisy_19 : decode cL_isNoisy 19 = .ok (.astore_n 3, 1) := by decide +kernel
theorem dL_isNoisy_20 : decode cL_isNoisy 20 = .ok (.iconst 1, 1) := by decide +kernel
theorem dL_isNoisy_21 : decode cL_isNoisy 21 = .ok (.ireturn, 1) := by decide +kernel
theorem dL_isNoisy_22 : decode cL_isNoisy 22 = .ok (.iconst 0, 1) := by decide +kernel
theorem dL_isNoisy_23 : decode cL_isNoisy 23 = .ok (.ireturn, 1) := by decide +kernel
theorem dL_visit_0 : decode cL_visit 0 = .ok (.aload_n 3, 1) := by decide +kernel
theorem dL_visit_1 : decode cL_visit 1 = .ok (.iconst 0, 1) := by decide +kernel
theorem dL_visit_2 : decode cL_visit 2 = .ok (.aload_n 0, 1) := by decide +kernel
theorem dL_visit_3 : decode cL_visit 3 = .ok (.iload_n 1, 1) := by decide +kernel
theorem dL_visit_4 : decode cL_visit 4 = .ok (.iload_n 2, 1) := by decide +kernel
theorem dL_visit_5 : decode cL_visit 5 = .ok (.invokevirtual 61, 3) := by decide +kernel
theorem dL_visit_8 : decode cL_visit 8 = .ok (.i2l, 1) := by decide +kernel
theorem dL_visit_9 : decode cL_visit 9 = .ok (.lastore, 1) := by decide +kernel
theorem dL_visit_10 : decode cL_visit 10 = .ok (.goto 11, 3) := by decide +kernel
theorem dL_visit_13 : decode cL_visit 13 = .ok (.astore 4, 2) := by decide +kernel
theorem dL_visit_15 : decode cL_visit 15 = .ok (.iconst 1, 1) := by decide +kernel
theorem dL_visit_16 : decode cL_visit 16 = .ok (.ireturn, 1) := by decide +kernel
theorem dL_visit_17 : decode cL_visit 17 = .ok (.astore 4, 2) := by decide +kernel
theorem dL_visit_19 : decode cL_visit 19 = .ok (.iconst 2, 1) := by decide +kernel
theorem dL_visit_20 : decode cL_visit 20 = .ok (.ireturn, 1) := by decide +kernel
theorem dL_visit_21 : decode cL_visit 21 = .ok (.iconst 0, 1) := by decide +kernel
theorem dL_visit_22 : decode cL_visit 22 = .ok (.ireturn, 1) := by decide +kernel
