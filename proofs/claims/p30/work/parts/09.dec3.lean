theorem dX8_comesIn_29 : decode cX8_comesIn 29 = .ok (.ifCond .eq 10, 3) := by decide +kernel
theorem dX8_comesIn_32 : decode cX8_comesIn 32 = .ok (.aload_n 2, 1) := by decide +kernel
theorem dX8_comesIn_33 : decode cX8_comesIn 33 = .ok (.getfield 69, 3) := by decide +kernel
theorem dX8_comesIn_36 : decode cX8_comesIn 36 = .ok (.ifCond .eq 5, 3) := by decide +kernel
theorem dX8_comesIn_39 : decode cX8_comesIn 39 = .ok (.iconst 0, 1) := by decide +kernel
theorem dX8_comesIn_40 : decode cX8_comesIn 40 = .ok (.ireturn, 1) := by decide +kernel
theorem dX8_comesIn_41 : decode cX8_comesIn 41 = .ok (.aload_n 0, 1) := by decide +kernel
theorem dX8_comesIn_42 : decode cX8_comesIn 42 = .ok (.iconst 1, 1) := by decide +kernel
theorem dX8_comesIn_43 : decode cX8_comesIn 43 = .ok (.invokevirtual 132, 3) := by decide +kernel
theorem dX8_comesIn_46 : decode cX8_comesIn 46 = .ok (.ifCond .ne 5, 3) := by decide +kernel
theorem dX8_comesIn_49 : decode cX8_comesIn 49 = .ok (.iconst 0, 1) := by decide +kernel
theorem dX8_comesIn_50 : decode cX8_comesIn 50 = .ok (.ireturn, 1) := by decide +kernel
theorem dX8_comesIn_51 : decode cX8_comesIn 51 = .ok (.aload_n 2, 1) := by decide +kernel
theorem dX8_comesIn_52 : decode cX8_comesIn 52 = .ok (.iconst 1, 1) := by decide +kernel
theorem dX8_comesIn_53 : decode cX8_comesIn 53 = .ok (.putfield 69, 3) := by decide +kernel
theorem dX8_comesIn_56 : decode cX8_comesIn 56 = .ok (.aload_n 2, 1) := by decide +kernel
theorem dX8_comesIn_57 : decode cX8_comesIn 57 = .ok (.aload_n 1, 1) := by decide +kernel
theorem dX8_comesIn_58 : decode cX8_comesIn 58 = .ok (.getfield 73, 3) := by decide +kernel
theorem dX8_comesIn_61 : decode cX8_comesIn 61 = .ok (.putfield 73, 3) := by decide +kernel
theorem dX8_comesIn_64 : decode cX8_comesIn 64 = .ok (.aload_n 2, 1) := by decide +kernel
theorem dX8_comesIn_65 : decode cX8_comesIn 65 = .ok (.aload_n 2, 1) := by decide +kernel
theorem dX8_comesIn_66 : decode cX8_comesIn 66 = .ok (.getfield 53, 3) := by decide +kernel
theorem dX8_comesIn_69 : decode cX8_comesIn 69 = .ok (.putfield 146, 3) := by decide +kernel
theorem dX8_comesIn_72 : decode cX8_comesIn 72 = .ok (.aload_n 1, 1) := by decide +kernel
theorem dX8_comesIn_73 : decode cX8_comesIn 73 = .ok (.aload_n 2, 1) := by decide +kernel
theorem dX8_comesIn_74 : decode cX8_comesIn 74 = .ok (.getfield 53, 3) := by decide +kernel
theorem dX8_comesIn_77 : decode cX8_comesIn 77 = .ok (.putfield 73, 3) := by decide +kernel
theorem dX8_comesIn_80 : decode cX8_comesIn 80 = .ok (.aload_n 0, 1) := by decide +kernel
theorem dX8_comesIn_81 : decode cX8_comesIn 81 = .ok (.getfield 76, 3) := by decide +kernel
theorem dX8_comesIn_84 : decode cX8_comesIn 84 = .ok (.dup, 1) := by decide +kernel
theorem dX8_comesIn_85 : decode cX8_comesIn 85 = .ok (.getfield 156, 3) := by decide +kernel
theorem dX8_comesIn_88 : decode cX8_comesIn 88 = .ok (.iconst 1, 1) := by decide +kernel
theorem dX8_comesIn_89 : decode cX8_comesIn 89 = .ok (.iadd, 1) := by decide +kernel
theorem dX8_comesIn_90 : decode cX8_comesIn 90 = .ok (.putfield 156, 3) := by decide +kernel
theorem dX8_comesIn_93 : decode cX8_comesIn 93 = .ok (.iconst 1, 1) := by decide +kernel
theorem dX8_comesIn_94 : decode cX8_comesIn 94 = .ok (.ireturn, 1) := by decide +kernel
theorem dX8_passToNext_0 : decode cX8_passToNext 0 = .ok (.iconst 0, 1) := by decide +kernel
theorem dX8_passToNext_1 : decode cX8_passToNext 1 = .ok (.istore_n 2, 1) := by decide +kernel
theorem dX8_passToNext_2 : decode cX8_passToNext 2 = .ok (.iload_n 2, 1) := by decide +kernel
theorem dX8_passToNext_3 : decode cX8_passToNext 3 = .ok (.iconst 3, 1) := by decide +kernel
theorem dX8_passToNext_4 : decode cX8_passToNext 4 = .ok (.if_icmp .ge 30, 3) := by decide +kernel
theorem dX8_passToNext_7 : decode cX8_passToNext 7 = .ok (.aload_n 0, 1) := by decide +kernel
theorem dX8_passToNext_8 : decode cX8_passToNext 8 = .ok (.aload_n 1, 1) := by decide +kernel
theorem dX8_passToNext_9 : decode cX8_passToNext 9 = .ok (.getfield 73, 3) := by decide +kernel
theorem dX8_passToNext_12 : decode cX8_passToNext 12 = .ok (.invokestatic 159, 3) := by decide +kernel
theorem dX8_passToNext_15 : decode cX8_passToNext 15 = .ok (.ifCond .eq 13, 3) := by decide +kernel
theorem dX8_passToNext_18 : decode cX8_passToNext 18 = .ok (.aload_n 0, 1) := by decide +kernel
theorem dX8_passToNext_19 : decode cX8_passToNext 19 = .ok (.aload_n 1, 1) := by decide +kernel
theorem dX8_passToNext_20 : decode cX8_passToNext 20 = .ok (.getfield 73, 3) := by decide +kernel
theorem dX8_passToNext_23 : decode cX8_passToNext 23 = .ok (.putfield 9, 3) := by decide +kernel
theorem dX8_passToNext_26 : decode cX8_passToNext 26 = .ok (.iconst 1, 1) := by decide +kernel
theorem dX8_passToNext_27 : decode cX8_passToNext 27 = .ok (.ireturn, 1) := by decide +kernel
theorem dX8_passToNext_28 : decode cX8_passToNext 28 = .ok (.iinc 2 1, 3) := by decide +kernel
theorem dX8_passToNext_31 : decode cX8_passToNext 31 = .ok (.goto (-29), 3) := by decide +kernel
theorem dX8_passToNext_34 : decode cX8_passToNext 34 = .ok (.iconst 0, 1) := by decide +kernel
theorem dX8_passToNext_35 : decode cX8_passToNext 35 = .ok (.ireturn, 1) := by decide +kernel
theorem dX8_reaches_0 : decode cX8_reaches 0 = .ok (.aload_n 0, 1) := by decide +kernel
theorem dX8_reaches_1 : decode cX8_reaches 1 = .ok (.iconst 1, 1) := by decide +kernel
theorem dX8_reaches_2 : decode cX8_reaches 2 = .ok (.invokevirtual 132, 3) := by decide +kernel
theorem dX8_reaches_5 : decode cX8_reaches 5 = .ok (.ifCond .eq 11, 3) := by decide +kernel
theorem dX8_reaches_8 : decode cX8_reaches 8 = .ok (.aload_n 0, 1) := by decide +kernel
theorem dX8_reaches_9 : decode cX8_reaches 9 = .ok (.iload_n 1, 1) := by decide +kernel
theorem dX8_reaches_10 : decode cX8_reaches 10 = .ok (.invokevirtual 15, 3) := by decide +kernel
theorem dX8_reaches_13 : decode cX8_reaches 13 = .ok (.goto 4, 3) := by decide +kernel
theorem dX8_reaches_16 : decode cX8_reaches 16 = .ok (.aconst_null, 1) := by decide +kernel
theorem dX8_reaches_17 : decode cX8_reaches 17 = .ok (.astore_n 2, 1) := by decide +kernel
theorem dX8_reaches_18 : decode cX8_reaches 18 = .ok (.aload_n 2, 1) := by decide +kernel
theorem dX8_reaches_19 : decode cX8_reaches 19 = .ok (.ifnull 19, 3) := by decide +kernel
theorem dX8_reaches_22 : decode cX8_reaches 22 = .ok (.aload_n 2, 1) := by decide +kernel
theorem dX8_reaches_23 : decode cX8_reaches 23 = .ok (.getfield 91, 3) := by decide +kernel
theorem dX8_reaches_26 : decode cX8_reaches 26 = .ok (.ifCond .eq 12, 3) := by decide +kernel
theorem dX8_reaches_29 : decode cX8_reaches 29 = .ok (.aload_n 2, 1) := by decide +kernel
theorem dX8_reaches_30 : decode cX8_reaches 30 = .ok (.getfield 69, 3) := by decide +kernel
theorem dX8_reaches_33 : decode cX8_reaches 33 = .ok (.ifCond .eq 5, 3) := by decide +kernel
theorem dX8_reaches_36 : decode cX8_reaches 36 = .ok (.iconst 1, 1) := by decide +kernel
theorem dX8_reaches_37 : decode cX8_reaches 37 = .ok (.ireturn, 1) := by decide +kernel
theorem dX8_reaches_38 : decode cX8_reaches 38 = .ok (.aload_n 0, 1) := by decide +kernel
theorem dX8_reaches_39 : decode cX8_reaches 39 = .ok (.dup, 1) := by decide +kernel
theorem dX8_reaches_40 : decode cX8_reaches 40 = .ok (.getfield 25, 3) := by decide +kernel
theorem dX8_reaches_43 : decode cX8_reaches 43 = .ok (.aload_n 0, 1) := by decide +kernel
theorem dX8_reaches_44 : decode cX8_reaches 44 = .ok (.getfield 66, 3) := by decide +kernel
theorem dX8_reaches_47 : decode cX8_reaches 47 = .ok (.iadd, 1) := by decide +kernel
theorem dX8_reaches_48 : decode cX8_reaches 48 = .ok (.putfield 25, 3) := by decide +kernel
theorem dX8_reaches_51 : decode cX8_reaches 51 = .ok (.iconst 0, 1) := by decide +kernel
theorem dX8_reaches_52 : decode cX8_reaches 52 = .ok (.ireturn, 1) := by decide +kernel
theorem dX8_dropSilent_0 : decode cX8_dropSilent 0 = .ok (.aload_n 0, 1) := by decide +kernel
theorem dX8_dropSilent_1 : decode cX8_dropSilent 1 = .ok (.aload_n 1, 1) := by decide +kernel
theorem dX8_dropSilent_2 : decode cX8_dropSilent 2 = .ok (.getfield 73, 3) := by decide +kernel
theorem dX8_dropSilent_5 : decode cX8_dropSilent 5 = .ok (.invokevirtual 15, 3) := by decide +kernel
theorem dX8_dropSilent_8 : decode cX8_dropSilent 8 = .ok (.astore_n 2, 1) := by decide +kernel
theorem dX8_dropSilent_9 : decode cX8_dropSilent 9 = .ok (.aload_n 2, 1) := by decide +kernel
theorem dX8_dropSilent_10 : decode cX8_dropSilent 10 = .ok (.ifnull 33, 3) := by decide +kernel
theorem dX8_dropSilent_13 : decode cX8_dropSilent 13 = .ok (.aload_n 2, 1) := by decide +kernel
theorem dX8_dropSilent_14 : decode cX8_dropSilent 14 = .ok (.aload_n 1, 1) := by decide +kernel
theorem dX8_dropSilent_15 : decode cX8_dropSilent 15 = .ok (.if_acmp .eq 28, 3) := by decide +kernel
theorem dX8_dropSilent_18 : decode cX8_dropSilent 18 = .ok (.aload_n 2, 1) := by decide +kernel
theorem dX8_dropSilent_19 : decode cX8_dropSilent 19 = .ok (.getfield 69, 3) := by decide +kernel
theorem dX8_dropSilent_22 : decode cX8_dropSilent 22 = .ok (.ifCond .eq 21, 3) := by decide +kernel
theorem dX8_dropSilent_25 : decode cX8_dropSilent 25 = .ok (.aload_n 2, 1) := by decide +kernel
theorem dX8_dropSilent_26 : decode cX8_dropSilent 26 = .ok (.iconst 0, 1) := by decide +kernel
theorem dX8_dropSilent_27 : decode cX8_dropSilent 27 = .ok (.putfield 69, 3) := by decide +kernel
theorem dX8_dropSilent_30 : decode cX8_dropSilent 30 = .ok (.aload_n 0, 1) := by decide +kernel
theorem dX8_dropSilent_31 : decode cX8_dropSilent 31 = .ok (.getfield 76, 3) := by decide +kernel
theorem dX8_dropSilent_34 : decode cX8_dropSilent 34 = .ok (.dup, 1) := by decide +kernel
theorem dX8_dropSilent_35 : decode cX8_dropSilent 35 = .ok (.getfield 163, 3) := by decide +kernel
theorem dX8_dropSilent_38 : decode cX8_dropSilent 38 = .ok (.iconst 1, 1) := by decide +kernel
theorem dX8_dropSilent_39 : decode cX8_dropSilent 39 = .ok (.iadd, 1) := by decide +kernel
theorem dX8_dropSilent_40 : decode cX8_dropSilent 40 = .ok (.putfield 163, 3) := by decide +kernel
theorem dX8_dropSilent_43 : decode cX8_dropSilent 43 = .ok (.return_, 1) := by decide +kernel
theorem dX8_askOthers_0 : decode cX8_askOthers 0 = .ok (.aload_n 1, 1) := by decide +kernel
theorem dX8_askOthers_1 : decode cX8_askOthers 1 = .ok (.getfield 73, 3) := by decide +kernel
theorem dX8_askOthers_4 : decode cX8_askOthers 4 = .ok (.invokestatic 149, 3) := by decide +kernel
theorem dX8_askOthers_7 : decode cX8_askOthers 7 = .ok (.istore_n 2, 1) := by decide +kernel
theorem dX8_askOthers_8 : decode cX8_askOthers 8 = .ok (.iconst 0, 1) := by decide +kernel
theorem dX8_askOthers_9 : decode cX8_askOthers 9 = .ok (.istore_n 3, 1) := by decide +kernel
theorem dX8_askOthers_10 : decode cX8_askOthers 10 = .ok (.iload_n 3, 1) := by decide +kernel
theorem dX8_askOthers_11 : decode cX8_askOthers 11 = .ok (.bipush 31, 2) := by decide +kernel
theorem dX8_askOthers_13 : decode cX8_askOthers 13 = .ok (.if_icmp .gt 41, 3) := by decide +kernel
theorem dX8_askOthers_16 : decode cX8_askOthers 16 = .ok (.iload_n 2, 1) := by decide +kernel
theorem dX8_askOthers_17 : decode cX8_askOthers 17 = .ok (.aload_n 1, 1) := by decide +kernel
theorem dX8_askOthers_18 : decode cX8_askOthers 18 = .ok (.getfield 53, 3) := by decide +kernel
theorem dX8_askOthers_21 : decode cX8_askOthers 21 = .ok (.if_icmp .eq 33, 3) := by decide +kernel
theorem dX8_askOthers_24 : decode cX8_askOthers 24 = .ok (.aload_n 0, 1) := by decide +kernel
theorem dX8_askOthers_25 : decode cX8_askOthers 25 = .ok (.iload_n 2, 1) := by decide +kernel
theorem dX8_askOthers_26 : decode cX8_askOthers 26 = .ok (.invokestatic 159, 3) := by decide +kernel
theorem dX8_askOthers_29 : decode cX8_askOthers 29 = .ok (.ifCond .eq 14, 3) := by decide +kernel
theorem dX8_askOthers_32 : decode cX8_askOthers 32 = .ok (.aload_n 1, 1) := by decide +kernel
theorem dX8_askOthers_33 : decode cX8_askOthers 33 = .ok (.iload_n 2, 1) := by decide +kernel
theorem dX8_askOthers_34 : decode cX8_askOthers 34 = .ok (.putfield 73, 3) := by decide +kernel
theorem dX8_askOthers_37 : decode cX8_askOthers 37 = .ok (.aload_n 0, 1) := by decide +kernel
theorem dX8_askOthers_38 : decode cX8_askOthers 38 = .ok (.iload_n 2, 1) := by decide +kernel
theorem dX8_askOthers_39 : decode cX8_askOthers 39 = .ok (.putfield 9, 3) := by decide +kernel
theorem dX8_askOthers_42 : decode cX8_askOthers 42 = .ok (.return_, 1) := by decide +kernel
theorem dX8_askOthers_43 : decode cX8_askOthers 43 = .ok (.iload_n 2, 1) := by decide +kernel
theorem dX8_askOthers_44 : decode cX8_askOthers 44 = .ok (.invokestatic 149, 3) := by decide +kernel
theorem dX8_askOthers_47 : decode cX8_askOthers 47 = .ok (.istore_n 2, 1) := by decide +kernel
theorem dX8_askOthers_48 : decode cX8_askOthers 48 = .ok (.iinc 3 1, 3) := by decide +kernel
theorem dX8_askOthers_51 : decode cX8_askOthers 51 = .ok (.goto (-41), 3) := by decide +kernel
theorem dX8_askOthers_54 : decode cX8_askOthers 54 = .ok (.aload_n 1, 1) := by decide +kernel
theorem dX8_askOthers_55 : decode cX8_askOthers 55 = .ok (.aload_n 1, 1) := by decide +kernel
theorem dX8_askOthers_56 : decode cX8_askOthers 56 = .ok (.getfield 53, 3) := by decide +kernel
theorem dX8_askOthers_59 : decode cX8_askOthers 59 = .ok (.putfield 73, 3) := by decide +kernel
theorem dX8_askOthers_62 : decode cX8_askOthers 62 = .ok (.return_, 1) := by decide +kernel
theorem dX9_init_0 : decode cX9_init 0 = .ok (.aload_n 0, 1) := by decide +kernel
theorem dX9_init_1 : decode cX9_init 1 = .ok (.invokespecial 1, 3) := by decide +kernel
theorem dX9_init_4 : decode cX9_init 4 = .ok (.aload_n 0, 1) := by decide +kernel
theorem dX9_init_5 : decode cX9_init 5 = .ok (.new 7, 3) := by decide +kernel
theorem dX9_init_8 : decode cX9_init 8 = .ok (.dup, 1) := by decide +kernel
theorem dX9_init_9 : decode cX9_init 9 = .ok (.invokespecial 9, 3) := by decide +kernel
theorem dX9_init_12 : decode cX9_init 12 = .ok (.putfield 10, 3) := by decide +kernel
theorem dX9_init_15 : decode cX9_init 15 = .ok (.aload_n 0, 1) := by decide +kernel
theorem dX9_init_16 : decode cX9_init 16 = .ok (.new 7, 3) := by decide +kernel
theorem dX9_init_19 : decode cX9_init 19 = .ok (.dup, 1) := by decide +kernel
theorem dX9_init_20 : decode cX9_init 20 = .ok (.invokespecial 9, 3) := by decide +kernel
theorem dX9_init_23 : decode cX9_init 23 = .ok (.putfield 16, 3) := by decide +kernel
theorem dX9_init_26 : decode cX9_init 26 = .ok (.aload_n 0, 1) := by decide +kernel
theorem dX9_init_27 : decode cX9_init 27 = .ok (.new 19, 3) := by decide +kernel
theorem dX9_init_30 : decode cX9_init 30 = .ok (.dup, 1) := by decide +kernel
theorem dX9_init_31 : decode cX9_init 31 = .ok (.invokespecial 21, 3) := by decide +kernel
theorem dX9_init_34 : decode cX9_init 34 = .ok (.putfield 22, 3) := by decide +kernel
theorem dX9_init_37 : decode cX9_init 37 = .ok (.aload_n 0, 1) := by decide +kernel
theorem dX9_init_38 : decode cX9_init 38 = .ok (.bipush 120, 2) := by decide +kernel
theorem dX9_init_40 : decode cX9_init 40 = .ok (.newarray .byte, 2) := by decide +kernel
theorem dX9_init_42 : decode cX9_init 42 = .ok (.putfield 26, 3) := by decide +kernel
theorem dX9_init_45 : decode cX9_init 45 = .ok (.return_, 1) := by decide +kernel
theorem dX9_addStation_0 : decode cX9_addStation 0 = .ok (.iload_n 1, 1) := by decide +kernel
theorem dX9_addStation_1 : decode cX9_addStation 1 = .ok (.invokestatic 30, 3) := by decide +kernel
theorem dX9_addStation_4 : decode cX9_addStation 4 = .ok (.ifCond .ne 13, 3) := by decide +kernel
theorem dX9_addStation_7 : decode cX9_addStation 7 = .ok (.new 34, 3) := by decide +kernel
theorem dX9_addStation_10 : decode cX9_addStation 10 = .ok (.dup, 1) := by decide +kernel
theorem dX9_addStation_11 : decode cX9_addStation 11 = .ok (.ldc 36, 2) := by decide +kernel
theorem dX9_addStation_13 : decode cX9_addStation 13 = .ok (.invokespecial 38, 3) := by decide +kernel
theorem dX9_addStation_16 : decode cX9_addStation 16 = .ok (.athrow, 1) := by decide +kernel
theorem dX9_addStation_17 : decode cX9_addStation 17 = .ok (.aload_n 0, 1) := by decide +kernel
theorem dX9_addStation_18 : decode cX9_addStation 18 = .ok (.getfield 10, 3) := by decide +kernel
theorem dX9_addStation_21 : decode cX9_addStation 21 = .ok (.iload_n 1, 1) := by decide +kernel
theorem dX9_addStation_22 : decode cX9_addStation 22 = .ok (.invokevirtual 41, 3) := by decide +kernel
theorem dX9_addStation_25 : decode cX9_addStation 25 = .ok (.ifnonnull 13, 3) := by decide +kernel
theorem dX9_addStation_28 : decode cX9_addStation 28 = .ok (.aload_n 0, 1) := by decide +kernel
theorem dX9_addStation_29 : decode cX9_addStation 29 = .ok (.getfield 10, 3) := by decide +kernel
theorem dX9_addStation_32 : decode cX9_addStation 32 = .ok (.invokevirtual 45, 3) := by decide +kernel
theorem dX9_addStation_35 : decode cX9_addStation 35 = .ok (.ifCond .eq 13, 3) := by decide +kernel
theorem dX9_addStation_38 : decode cX9_addStation 38 = .ok (.new 49, 3) := by decide +kernel
theorem dX9_addStation_41 : decode cX9_addStation 41 = .ok (.dup, 1) := by decide +kernel
theorem dX9_addStation_42 : decode cX9_addStation 42 = .ok (.ldc 51, 2) := by decide +kernel
theorem dX9_addStation_44 : decode cX9_addStation 44 = .ok (.invokespecial 53, 3) := by decide +kernel
theorem dX9_addStation_47 : decode cX9_addStation 47 = .ok (.athrow, 1) := by decide +kernel
theorem dX9_addStation_48 : decode cX9_addStation 48 = .ok (.aload_n 0, 1) := by decide +kernel
theorem dX9_addStation_49 : decode cX9_addStation 49 = .ok (.getfield 22, 3) := by decide +kernel
theorem dX9_addStation_52 : decode cX9_addStation 52 = .ok (.aload_n 0, 1) := by decide +kernel
theorem dX9_addStation_53 : decode cX9_addStation 53 = .ok (.getfield 10, 3) := by decide +kernel
theorem dX9_addStation_56 : decode cX9_addStation 56 = .ok (.invokevirtual 54, 3) := by decide +kernel
theorem dX9_addStation_59 : decode cX9_addStation 59 = .ok (.aload_n 0, 1) := by decide +kernel
theorem dX9_addStation_60 : decode cX9_addStation 60 = .ok (.getfield 10, 3) := by decide +kernel
theorem dX9_addStation_63 : decode cX9_addStation 63 = .ok (.iload_n 1, 1) := by decide +kernel
theorem dX9_addStation_64 : decode cX9_addStation 64 = .ok (.invokevirtual 58, 3) := by decide +kernel
theorem dX9_addStation_67 : decode cX9_addStation 67 = .ok (.pop, 1) := by decide +kernel
theorem dX9_addStation_68 : decode cX9_addStation 68 = .ok (.aload_n 0, 1) := by decide +kernel
theorem dX9_addStation_69 : decode cX9_addStation 69 = .ok (.getfield 10, 3) := by decide +kernel
theorem dX9_addStation_72 : decode cX9_addStation 72 = .ok (.getfield 61, 3) := by decide +kernel
theorem dX9_addStation_75 : decode cX9_addStation 75 = .ok (.ireturn, 1) := by decide +kernel
theorem dX9_setOn_0 : decode cX9_setOn 0 = .ok (.aload_n 0, 1) := by decide +kernel
theorem dX9_setOn_1 : decode cX9_setOn 1 = .ok (.getfield 10, 3) := by decide +kernel
theorem dX9_setOn_4 : decode cX9_setOn 4 = .ok (.iload_n 1, 1) := by decide +kernel
theorem dX9_setOn_5 : decode cX9_setOn 5 = .ok (.invokevirtual 41, 3) := by decide +kernel
theorem dX9_setOn_8 : decode cX9_setOn 8 = .ok (.astore_n 3, 1) := by decide +kernel
theorem dX9_setOn_9 : decode cX9_setOn 9 = .ok (.aload_n 3, 1) := by decide +kernel
theorem dX9_setOn_10 : decode cX9_setOn 10 = .ok (.ifnonnull 13, 3) := by decide +kernel
theorem dX9_setOn_13 : decode cX9_setOn 13 = .ok (.new 65, 3) := by decide +kernel
theorem dX9_setOn_16 : decode cX9_setOn 16 = .ok (.dup, 1) := by decide +kernel
theorem dX9_setOn_17 : decode cX9_setOn 17 = .ok (.ldc 67, 2) := by decide +kernel
theorem dX9_setOn_19 : decode cX9_setOn 19 = .ok (.invokespecial 69, 3) := by decide +kernel
theorem dX9_setOn_22 : decode cX9_setOn 22 = .ok (.athrow, 1) := by decide +kernel
theorem dX9_setOn_23 : decode cX9_setOn 23 = .ok (.aload_n 3, 1) := by decide +kernel
theorem dX9_setOn_24 : decode cX9_setOn 24 = .ok (.getfield 70, 3) := by decide +kernel
theorem dX9_setOn_27 : decode cX9_setOn 27 = .ok (.istore 4, 2) := by decide +kernel
theorem dX9_setOn_29 : decode cX9_setOn 29 = .ok (.aload_n 0, 1) := by decide +kernel
theorem dX9_setOn_30 : decode cX9_setOn 30 = .ok (.getfield 22, 3) := by decide +kernel
theorem dX9_setOn_33 : decode cX9_setOn 33 = .ok (.aload_n 0, 1) := by decide +kernel
theorem dX9_setOn_34 : decode cX9_setOn 34 = .ok (.getfield 10, 3) := by decide +kernel
theorem dX9_setOn_37 : decode cX9_setOn 37 = .ok (.invokevirtual 54, 3) := by decide +kernel
theorem dX9_setOn_40 : decode cX9_setOn 40 = .ok (.aload_n 0, 1) := by decide +kernel
theorem dX9_setOn_41 : decode cX9_setOn 41 = .ok (.getfield 10, 3) := by decide +kernel
theorem dX9_setOn_44 : decode cX9_setOn 44 = .ok (.aload_n 3, 1) := by decide +kernel
theorem dX9_setOn_45 : decode cX9_setOn 45 = .ok (.iload_n 2, 1) := by decide +kernel
theorem dX9_setOn_46 : decode cX9_setOn 46 = .ok (.invokevirtual 76, 3) := by decide +kernel
theorem dX9_setOn_49 : decode cX9_setOn 49 = .ok (.iload 4, 2) := by decide +kernel
theorem dX9_setOn_51 : decode cX9_setOn 51 = .ok (.ireturn, 1) := by decide +kernel
theorem dX9_setTimes_0 : decode cX9_setTimes 0 = .ok (.iload_n 1, 1) := by decide +kernel
theorem dX9_setTimes_1 : decode cX9_setTimes 1 = .ok (.iconst 1, 1) := by decide +kernel
theorem dX9_setTimes_2 : decode cX9_setTimes 2 = .ok (.sipush 500, 3) := by decide +kernel
theorem dX9_setTimes_5 : decode cX9_setTimes 5 = .ok (.invokestatic 80, 3) := by decide +kernel
theorem dX9_setTimes_8 : decode cX9_setTimes 8 = .ok (.ifCond .eq 23, 3) := by decide +kernel
theorem dX9_setTimes_11 : decode cX9_setTimes 11 = .ok (.iload_n 2, 1) := by decide +kernel
theorem dX9_setTimes_12 : decode cX9_setTimes 12 = .ok (.iconst 1, 1) := by decide +kernel
theorem dX9_setTimes_13 : decode cX9_setTimes 13 = .ok (.bipush 20, 2) := by decide +kernel
theorem dX9_setTimes_15 : decode cX9_setTimes 15 = .ok (.invokestatic 80, 3) := by decide +kernel
theorem dX9_setTimes_18 : decode cX9_setTimes 18 = .ok (.ifCond .eq 13, 3) := by decide +kernel
theorem dX9_setTimes_21 : decode cX9_setTimes 21 = .ok (.iload_n 3, 1) := by decide +kernel
theorem dX9_setTimes_22 : decode cX9_setTimes 22 = .ok (.iconst 1, 1) := by decide +kernel
theorem dX9_setTimes_23 : decode cX9_setTimes 23 = .ok (.bipush 20, 2) := by decide +kernel
theorem dX9_setTimes_25 : decode cX9_setTimes 25 = .ok (.invokestatic 80, 3) := by decide +kernel
theorem dX9_setTimes_28 : decode cX9_setTimes 28 = .ok (.ifCond .ne 13, 3) := by decide +kernel
theorem dX9_setTimes_31 : decode cX9_setTimes 31 = .ok (.new 34, 3) := by decide +kernel
theorem dX9_setTimes_34 : decode cX9_setTimes 34 = .ok (.dup, 1) := by decide +kernel
theorem dX9_setTimes_35 : decode cX9_setTimes 35 = .ok (.ldc 84, 2) := by decide +kernel
theorem dX9_setTimes_37 : decode cX9_setTimes 37 = .ok (.invokespecial 38, 3) := by decide +kernel
theorem dX9_setTimes_40 : decode cX9_setTimes 40 = .ok (.athrow, 1) := by decide +kernel
theorem dX9_setTimes_41 : decode cX9_setTimes 41 = .ok (.aload_n 0, 1) := by decide +kernel
theorem dX9_setTimes_42 : decode cX9_setTimes 42 = .ok (.getfield 10, 3) := by decide +kernel
theorem dX9_setTimes_45 : decode cX9_setTimes 45 = .ok (.getfield 86, 3) := by decide +kernel
theorem dX9_setTimes_48 : decode cX9_setTimes 48 = .ok (.istore 4, 2) := by decide +kernel
theorem dX9_setTimes_50 : decode cX9_setTimes 50 = .ok (.aload_n 0, 1) := by decide +kernel
theorem dX9_setTimes_51 : decode cX9_setTimes 51 = .ok (.getfield 22, 3) := by decide +kernel
theorem dX9_setTimes_54 : decode cX9_setTimes 54 = .ok (.aload_n 0, 1) := by decide +kernel
theorem dX9_setTimes_55 : decode cX9_setTimes 55 = .ok (.getfield 10, 3) := by decide +kernel
theorem dX9_setTimes_58 : decode cX9_setTimes 58 = .ok (.invokevirtual 54, 3) := by decide +kernel
theorem dX9_setTimes_61 : decode cX9_setTimes 61 = .ok (.aload_n 0, 1) := by decide +kernel
theorem dX9_setTimes_62 : decode cX9_setTimes 62 = .ok (.getfield 10, 3) := by decide +kernel
theorem dX9_setTimes_65 : decode cX9_setTimes 65 = .ok (.iload_n 1, 1) := by decide +kernel
theorem dX9_setTimes_66 : decode cX9_setTimes 66 = .ok (.putfield 86, 3) := by decide +kernel
theorem dX9_setTimes_69 : decode cX9_setTimes 69 = .ok (.aload_n 0, 1) := by decide +kernel
theorem dX9_setTimes_70 : decode cX9_setTimes 70 = .ok (.getfield 10, 3) := by decide +kernel
theorem dX9_setTimes_73 : decode cX9_setTimes 73 = .ok (.iload_n 2, 1) := by decide +kernel
theorem dX9_setTimes_74 : decode cX9_setTimes 74 = .ok (.putfield 89, 3) := by decide +kernel
theorem dX9_setTimes_77 : decode cX9_setTimes 77 = .ok (.aload_n 0, 1) := by decide +kernel
theorem dX9_setTimes_78 : decode cX9_setTimes 78 = .ok (.getfield 10, 3) := by decide +kernel
theorem dX9_setTimes_81 : decode cX9_setTimes 81 = .ok (.iload_n 3, 1) := by decide +kernel
theorem dX9_setTimes_82 : decode cX9_setTimes 82 = .ok (.putfield 92, 3) := by decide +kernel
theorem dX9_setTimes_85 : decode cX9_setTimes 85 = .ok (.iload 4, 2) := by decide +kernel
theorem dX9_setTimes_87 : decode cX9_setTimes 87 = .ok (.ireturn, 1) := by decide +kernel
theorem dX9_give_0 : decode cX9_give 0 = .ok (.aload_n 0, 1) := by decide +kernel
theorem dX9_give_1 : decode cX9_give 1 = .ok (.getfield 10, 3) := by decide +kernel
theorem dX9_give_4 : decode cX9_give 4 = .ok (.iload_n 1, 1) := by decide +kernel
theorem dX9_give_5 : decode cX9_give 5 = .ok (.invokevirtual 41, 3) := by decide +kernel
theorem dX9_give_8 : decode cX9_give 8 = .ok (.astore 4, 2) := by decide +kernel
theorem dX9_give_10 : decode cX9_give 10 = .ok (.aload 4, 2) := by decide +kernel
theorem dX9_give_12 : decode cX9_give 12 = .ok (.ifnonnull 13, 3) := by decide +kernel
theorem dX9_give_15 : decode cX9_give 15 = .ok (.new 65, 3) := by decide +kernel
theorem dX9_give_18 : decode cX9_give 18 = .ok (.dup, 1) := by decide +kernel
theorem dX9_give_19 : decode cX9_give 19 = .ok (.ldc 67, 2) := by decide +kernel
theorem dX9_give_21 : decode cX9_give 21 = .ok (.invokespecial 69, 3) := by decide +kernel
theorem dX9_give_24 : decode cX9_give 24 = .ok (.athrow, 1) := by decide +kernel
theorem dX9_give_25 : decode cX9_give 25 = .ok (.iload_n 2, 1) := by decide +kernel
theorem dX9_give_26 : decode cX9_give 26 = .ok (.iconst 1, 1) := by decide +kernel
theorem dX9_give_27 : decode cX9_give 27 = .ok (.bipush 20, 2) := by decide +kernel
theorem dX9_give_29 : decode cX9_give 29 = .ok (.invokestatic 80, 3) := by decide +kernel
theorem dX9_give_32 : decode cX9_give 32 = .ok (.ifCond .eq 13, 3) := by decide +kernel
theorem dX9_give_35 : decode cX9_give 35 = .ok (.iload_n 3, 1) := by decide +kernel
theorem dX9_give_36 : decode cX9_give 36 = .ok (.iconst 0, 1) := by decide +kernel
theorem dX9_give_37 : decode cX9_give 37 = .ok (.bipush 9, 2) := by decide +kernel
theorem dX9_give_39 : decode cX9_give 39 = .ok (.invokestatic 80, 3) := by decide +kernel
theorem dX9_give_42 : decode cX9_give 42 = .ok (.ifCond .ne 13, 3) := by decide +kernel
theorem dX9_give_45 : decode cX9_give 45 = .ok (.new 34, 3) := by decide +kernel
theorem dX9_give_48 : decode cX9_give 48 = .ok (.dup, 1) := by decide +kernel
theorem dX9_give_49 : decode cX9_give 49 = .ok (.ldc 95, 2) := by decide +kernel
theorem dX9_give_51 : decode cX9_give 51 = .ok (.invokespecial 38, 3) := by decide +kernel
theorem dX9_give_54 : decode cX9_give 54 = .ok (.athrow, 1) := by decide +kernel
theorem dX9_give_55 : decode cX9_give 55 = .ok (.aload_n 0, 1) := by decide +kernel
theorem dX9_give_56 : decode cX9_give 56 = .ok (.getfield 10, 3) := by decide +kernel
theorem dX9_give_59 : decode cX9_give 59 = .ok (.getfield 97, 3) := by decide +kernel
theorem dX9_give_62 : decode cX9_give 62 = .ok (.invokevirtual 101, 3) := by decide +kernel
theorem dX9_give_65 : decode cX9_give 65 = .ok (.ifCond .eq 13, 3) := by decide +kernel
theorem dX9_give_68 : decode cX9_give 68 = .ok (.new 49, 3) := by decide +kernel
theorem dX9_give_71 : decode cX9_give 71 = .ok (.dup, 1) := by decide +kernel
theorem dX9_give_72 : decode cX9_give 72 = .ok (.ldc 104, 2) := by decide +kernel
theorem dX9_give_74 : decode cX9_give 74 = .ok (.invokespecial 53, 3) := by decide +kernel
theorem dX9_give_77 : decode cX9_give 77 = .ok (.athrow, 1) := by decide +kernel
theorem dX9_give_78 : decode cX9_give 78 = .ok (.aload_n 0, 1) := by decide +kernel
theorem dX9_give_79 : decode cX9_give 79 = .ok (.getfield 22, 3) := by decide +kernel
theorem dX9_give_82 : decode cX9_give 82 = .ok (.aload_n 0, 1) := by decide +kernel
theorem dX9_give_83 : decode cX9_give 83 = .ok (.getfield 10, 3) := by decide +kernel
theorem dX9_give_86 : decode cX9_give 86 = .ok (.invokevirtual 54, 3) := by decide +kernel
theorem dX9_give_89 : decode cX9_give 89 = .ok (.aload_n 0, 1) := by decide +kernel
theorem dX9_give_90 : decode cX9_give 90 = .ok (.getfield 10, 3) := by decide +kernel
theorem dX9_give_93 : decode cX9_give 93 = .ok (.getfield 97, 3) := by decide +kernel
theorem dX9_give_96 : decode cX9_give 96 = .ok (.aload 4, 2) := by decide +kernel
theorem dX9_give_98 : decode cX9_give 98 = .ok (.iload_n 2, 1) := by decide +kernel
theorem dX9_give_99 : decode cX9_give 99 = .ok (.iload_n 3, 1) := by decide +kernel
theorem dX9_give_100 : decode cX9_give 100 = .ok (.aload_n 0, 1) := by decide +kernel
theorem dX9_give_101 : decode cX9_give 101 = .ok (.getfield 10, 3) := by decide +kernel
theorem dX9_give_104 : decode cX9_give 104 = .ok (.getfield 106, 3) := by decide +kernel
theorem dX9_give_107 : decode cX9_give 107 = .ok (.invokevirtual 109, 3) := by decide +kernel
theorem dX9_give_110 : decode cX9_give 110 = .ok (.ireturn, 1) := by decide +kernel
theorem dX9_addNoise_0 : decode cX9_addNoise 0 = .ok (.iload_n 2, 1) := by decide +kernel
theorem dX9_addNoise_1 : decode cX9_addNoise 1 = .ok (.iconst 0, 1) := by decide +kernel
theorem dX9_addNoise_2 : decode cX9_addNoise 2 = .ok (.ldc 113, 2) := by decide +kernel
theorem dX9_addNoise_4 : decode cX9_addNoise 4 = .ok (.invokestatic 80, 3) := by decide +kernel
theorem dX9_addNoise_7 : decode cX9_addNoise 7 = .ok (.ifCond .eq 12, 3) := by decide +kernel
theorem dX9_addNoise_10 : decode cX9_addNoise 10 = .ok (.iload_n 1, 1) := by decide +kernel
theorem dX9_addNoise_11 : decode cX9_addNoise 11 = .ok (.iconst 0, 1) := by decide +kernel
theorem dX9_addNoise_12 : decode cX9_addNoise 12 = .ok (.iload_n 2, 1) := by decide +kernel
theorem dX9_addNoise_13 : decode cX9_addNoise 13 = .ok (.invokestatic 80, 3) := by decide +kernel
theorem dX9_addNoise_16 : decode cX9_addNoise 16 = .ok (.ifCond .ne 13, 3) := by decide +kernel
theorem dX9_addNoise_19 : decode cX9_addNoise 19 = .ok (.new 34, 3) := by decide +kernel
theorem dX9_addNoise_22 : decode cX9_addNoise 22 = .ok (.dup, 1) := by decide +kernel
theorem dX9_addNoise_23 : decode cX9_addNoise 23 = .ok (.ldc 114, 2) := by decide +kernel
theorem dX9_addNoise_25 : decode cX9_addNoise 25 = .ok (.invokespecial 38, 3) := by decide +kernel
theorem dX9_addNoise_28 : decode cX9_addNoise 28 = .ok (.athrow, 1) := by decide +kernel
theorem dX9_addNoise_29 : decode cX9_addNoise 29 = .ok (.aload_n 0, 1) := by decide +kernel
theorem dX9_addNoise_30 : decode cX9_addNoise 30 = .ok (.getfield 10, 3) := by decide +kernel
theorem dX9_addNoise_33 : decode cX9_addNoise 33 = .ok (.getfield 116, 3) := by decide +kernel
theorem dX9_addNoise_36 : decode cX9_addNoise 36 = .ok (.invokevirtual 120, 3) := by decide +kernel
theorem dX9_addNoise_39 : decode cX9_addNoise 39 = .ok (.ifCond .eq 13, 3) := by decide +kernel
theorem dX9_addNoise_42 : decode cX9_addNoise 42 = .ok (.new 49, 3) := by decide +kernel
theorem dX9_addNoise_45 : decode cX9_addNoise 45 = .ok (.dup, 1) := by decide +kernel
theorem dX9_addNoise_46 : decode cX9_addNoise 46 = .ok (.ldc 123, 2) := by decide +kernel
theorem dX9_addNoise_48 : decode cX9_addNoise 48 = .ok (.invokespecial 53, 3) := by decide +kernel
theorem dX9_addNoise_51 : decode cX9_addNoise 51 = .ok (.athrow, 1) := by decide +kernel
theorem dX9_addNoise_52 : decode cX9_addNoise 52 = .ok (.aload_n 0, 1) := by decide +kernel
theorem dX9_addNoise_53 : decode cX9_addNoise 53 = .ok (.getfield 22, 3) := by decide +kernel
theorem dX9_addNoise_56 : decode cX9_addNoise 56 = .ok (.aload_n 0, 1) := by decide +kernel
theorem dX9_addNoise_57 : decode cX9_addNoise 57 = .ok (.getfield 10, 3) := by decide +kernel
theorem dX9_addNoise_60 : decode cX9_addNoise 60 = .ok (.invokevirtual 54, 3) := by decide +kernel
theorem dX9_addNoise_63 : decode cX9_addNoise 63 = .ok (.aload_n 0, 1) := by decide +kernel
theorem dX9_addNoise_64 : decode cX9_addNoise 64 = .ok (.getfield 10, 3) := by decide +kernel
theorem dX9_addNoise_67 : decode cX9_addNoise 67 = .ok (.getfield 116, 3) := by decide +kernel
theorem dX9_addNoise_70 : decode cX9_addNoise 70 = .ok (.iload_n 1, 1) := by decide +kernel
theorem dX9_addNoise_71 : decode cX9_addNoise 71 = .ok (.iload_n 2, 1) := by decide +kernel
theorem dX9_addNoise_72 : decode cX9_addNoise 72 = .ok (.invokevirtual 125, 3) := by decide +kernel
theorem dX9_addNoise_75 : decode cX9_addNoise 75 = .ok (.aload_n 0, 1) := by decide +kernel
theorem dX9_addNoise_76 : decode cX9_addNoise 76 = .ok (.getfield 10, 3) := by decide +kernel
theorem dX9_addNoise_79 : decode cX9_addNoise 79 = .ok (.getfield 116, 3) := by decide +kernel
theorem dX9_addNoise_82 : decode cX9_addNoise 82 = .ok (.getfield 128, 3) := by decide +kernel
theorem dX9_addNoise_85 : decode cX9_addNoise 85 = .ok (.ireturn, 1) := by decide +kernel
theorem dX9_run_0 : decode cX9_run 0 = .ok (.iload_n 1, 1) := by decide +kernel
theorem dX9_run_1 : decode cX9_run 1 = .ok (.iconst 0, 1) := by decide +kernel
theorem dX9_run_2 : decode cX9_run 2 = .ok (.sipush 200, 3) := by decide +kernel
theorem dX9_run_5 : decode cX9_run 5 = .ok (.invokestatic 80, 3) := by decide +kernel
theorem dX9_run_8 : decode cX9_run 8 = .ok (.ifCond .ne 13, 3) := by decide +kernel
theorem dX9_run_11 : decode cX9_run 11 = .ok (.new 34, 3) := by decide +kernel
theorem dX9_run_14 : decode cX9_run 14 = .ok (.dup, 1) := by decide +kernel
theorem dX9_run_15 : decode cX9_run 15 = .ok (.ldc 131, 2) := by decide +kernel
theorem dX9_run_17 : decode cX9_run 17 = .ok (.invokespecial 38, 3) := by decide +kernel
theorem dX9_run_20 : decode cX9_run 20 = .ok (.athrow, 1) := by decide +kernel
theorem dX9_run_21 : decode cX9_run 21 = .ok (.aload_n 0, 1) := by decide +kernel
theorem dX9_run_22 : decode cX9_run 22 = .ok (.getfield 10, 3) := by decide +kernel
theorem dX9_run_25 : decode cX9_run 25 = .ok (.invokevirtual 133, 3) := by decide +kernel
theorem dX9_run_28 : decode cX9_run 28 = .ok (.ifCond .eq 13, 3) := by decide +kernel
theorem dX9_run_31 : decode cX9_run 31 = .ok (.new 49, 3) := by decide +kernel
theorem dX9_run_34 : decode cX9_run 34 = .ok (.dup, 1) := by decide +kernel
theorem dX9_run_35 : decode cX9_run 35 = .ok (.ldc 136, 2) := by decide +kernel
theorem dX9_run_37 : decode cX9_run 37 = .ok (.invokespecial 53, 3) := by decide +kernel
theorem dX9_run_40 : decode cX9_run 40 = .ok (.athrow, 1) := by decide +kernel
theorem dX9_run_41 : decode cX9_run 41 = .ok (.aload_n 0, 1) := by decide +kernel
theorem dX9_run_42 : decode cX9_run 42 = .ok (.getfield 22, 3) := by decide +kernel
theorem dX9_run_45 : decode cX9_run 45 = .ok (.aload_n 0, 1) := by decide +kernel
theorem dX9_run_46 : decode cX9_run 46 = .ok (.getfield 10, 3) := by decide +kernel
theorem dX9_run_49 : decode cX9_run 49 = .ok (.invokevirtual 54, 3) := by decide +kernel
theorem dX9_run_52 : decode cX9_run 52 = .ok (.iconst 0, 1) := by decide +kernel
theorem dX9_run_53 : decode cX9_run 53 = .ok (.istore_n 2, 1) := by decide +kernel
theorem dX9_run_54 : decode cX9_run 54 = .ok (.iload_n 2, 1) := by decide +kernel
theorem dX9_run_55 : decode cX9_run 55 = .ok (.iload_n 1, 1) := by decide +kernel
theorem dX9_run_56 : decode cX9_run 56 = .ok (.if_icmp .ge 16, 3) := by decide +kernel
theorem dX9_run_59 : decode cX9_run 59 = .ok (.aload_n 0, 1) := by decide +kernel
theorem dX9_run_60 : decode cX9_run 60 = .ok (.getfield 10, 3) := by decide +kernel
theorem dX9_run_63 : decode cX9_run 63 = .ok (.invokestatic 138, 3) := by decide +kernel
theorem dX9_run_66 : decode cX9_run 66 = .ok (.iinc 2 1, 3) := by decide +kernel
theorem dX9_run_69 : decode cX9_run 69 = .ok (.goto (-15), 3) := by decide +kernel
theorem dX9_run_72 : decode cX9_run 72 = .ok (.aload_n 0, 1) := by decide +kernel
theorem dX9_run_73 : decode cX9_run 73 = .ok (.getfield 10, 3) := by decide +kernel
theorem dX9_run_76 : decode cX9_run 76 = .ok (.getfield 106, 3) := by decide +kernel
theorem dX9_run_79 : decode cX9_run 79 = .ok (.ireturn, 1) := by decide +kernel
theorem dX9_loseToken_0 : decode cX9_loseToken 0 = .ok (.aload_n 0, 1) := by decide +kernel
theorem dX9_loseToken_1 : decode cX9_loseToken 1 = .ok (.getfield 10, 3) := by decide +kernel
theorem dX9_loseToken_4 : decode cX9_loseToken 4 = .ok (.getfield 143, 3) := by decide +kernel
theorem dX9_loseToken_7 : decode cX9_loseToken 7 = .ok (.istore_n 1, 1) := by decide +kernel
theorem dX9_loseToken_8 : decode cX9_loseToken 8 = .ok (.aload_n 0, 1) := by decide +kernel
theorem dX9_loseToken_9 : decode cX9_loseToken 9 = .ok (.getfield 22, 3) := by decide +kernel
theorem dX9_loseToken_12 : decode cX9_loseToken 12 = .ok (.aload_n 0, 1) := by decide +kernel
theorem dX9_loseToken_13 : decode cX9_loseToken 13 = .ok (.getfield 10, 3) := by decide +kernel
theorem dX9_loseToken_16 : decode cX9_loseToken 16 = .ok (.invokevirtual 54, 3) := by decide +kernel
theorem dX9_loseToken_19 : decode cX9_loseToken 19 = .ok (.aload_n 0, 1) := by decide +kernel
theorem dX9_loseToken_20 : decode cX9_loseToken 20 = .ok (.getfield 10, 3) := by decide +kernel
theorem dX9_loseToken_23 : decode cX9_loseToken 23 = .ok (.iconst (-1), 1) := by decide +kernel
theorem dX9_loseToken_24 : decode cX9_loseToken 24 = .ok (.putfield 143, 3) := by decide +kernel
theorem dX9_loseToken_27 : decode cX9_loseToken 27 = .ok (.iload_n 1, 1) := by decide +kernel
theorem dX9_loseToken_28 : decode cX9_loseToken 28 = .ok (.ireturn, 1) := by decide +kernel
theorem dX9_setting_0 : decode cX9_setting 0 = .ok (.iload_n 1, 1) := by decide +kernel
theorem dX9_setting_1 : decode cX9_setting 1 = .ok (.iconst 0, 1) := by decide +kernel
theorem dX9_setting_2 : decode cX9_setting 2 = .ok (.bipush 8, 2) := by decide +kernel
theorem dX9_setting_4 : decode cX9_setting 4 = .ok (.invokestatic 80, 3) := by decide +kernel
theorem dX9_setting_7 : decode cX9_setting 7 = .ok (.ifCond .ne 13, 3) := by decide +kernel
theorem dX9_setting_10 : decode cX9_setting 10 = .ok (.new 34, 3) := by decide +kernel
theorem dX9_setting_13 : decode cX9_setting 13 = .ok (.dup, 1) := by decide +kernel
theorem dX9_setting_14 : decode cX9_setting 14 = .ok (.ldc 146, 2) := by decide +kernel
theorem dX9_setting_16 : decode cX9_setting 16 = .ok (.invokespecial 38, 3) := by decide +kernel
theorem dX9_setting_19 : decode cX9_setting 19 = .ok (.athrow, 1) := by decide +kernel
theorem dX9_setting_20 : decode cX9_setting 20 = .ok (.aload_n 0, 1) := by decide +kernel
theorem dX9_setting_21 : decode cX9_setting 21 = .ok (.getfield 10, 3) := by decide +kernel
theorem dX9_setting_24 : decode cX9_setting 24 = .ok (.iload_n 1, 1) := by decide +kernel
theorem dX9_setting_25 : decode cX9_setting 25 = .ok (.invokevirtual 148, 3) := by decide +kernel
theorem dX9_setting_28 : decode cX9_setting 28 = .ok (.ireturn, 1) := by decide +kernel
theorem dX9_station_0 : decode cX9_station 0 = .ok (.aload_n 0, 1) := by decide +kernel
theorem dX9_station_1 : decode cX9_station 1 = .ok (.getfield 10, 3) := by decide +kernel
theorem dX9_station_4 : decode cX9_station 4 = .ok (.iload_n 1, 1) := by decide +kernel
theorem dX9_station_5 : decode cX9_station 5 = .ok (.invokevirtual 41, 3) := by decide +kernel
theorem dX9_station_8 : decode cX9_station 8 = .ok (.astore_n 3, 1) := by decide +kernel
theorem dX9_station_9 : decode cX9_station 9 = .ok (.aload_n 3, 1) := by decide +kernel
theorem dX9_station_10 : decode cX9_station 10 = .ok (.ifnonnull 13, 3) := by decide +kernel
theorem dX9_station_13 : decode cX9_station 13 = .ok (.new 65, 3) := by decide +kernel
theorem dX9_station_16 : decode cX9_station 16 = .ok (.dup, 1) := by decide +kernel
theorem dX9_station_17 : decode cX9_station 17 = .ok (.ldc 67, 2) := by decide +kernel
theorem dX9_station_19 : decode cX9_station 19 = .ok (.invokespecial 69, 3) := by decide +kernel
theorem dX9_station_22 : decode cX9_station 22 = .ok (.athrow, 1) := by decide +kernel
theorem dX9_station_23 : decode cX9_station 23 = .ok (.iload_n 2, 1) := by decide +kernel
theorem dX9_station_24 : decode cX9_station 24 = .ok (.iconst 0, 1) := by decide +kernel
theorem dX9_station_25 : decode cX9_station 25 = .ok (.bipush 6, 2) := by decide +kernel
theorem dX9_station_27 : decode cX9_station 27 = .ok (.invokestatic 80, 3) := by decide +kernel
theorem dX9_station_30 : decode cX9_station 30 = .ok (.ifCond .ne 13, 3) := by decide +kernel
theorem dX9_station_33 : decode cX9_station 33 = .ok (.new 34, 3) := by decide +kernel
theorem dX9_station_36 : decode cX9_station 36 = .ok (.dup, 1) := by decide +kernel
theorem dX9_station_37 : decode cX9_station 37 = .ok (.ldc 152, 2) := by decide +kernel
theorem dX9_station_39 : decode cX9_station 39 = .ok (.invokespecial 38, 3) := by decide +kernel
theorem dX9_station_42 : decode cX9_station 42 = .ok (.athrow, 1) := by decide +kernel
theorem dX9_station_43 : decode cX9_station 43 = .ok (.aload_n 3, 1) := by decide +kernel
theorem dX9_station_44 : decode cX9_station 44 = .ok (.iload_n 2, 1) := by decide +kernel
theorem dX9_station_45 : decode cX9_station 45 = .ok (.invokevirtual 154, 3) := by decide +kernel
theorem dX9_station_48 : decode cX9_station 48 = .ok (.ireturn, 1) := by decide +kernel
theorem dX9_addressAt_0 : decode cX9_addressAt 0 = .ok (.aload_n 0, 1) := by decide +kernel
theorem dX9_addressAt_1 : decode cX9_addressAt 1 = .ok (.getfield 10, 3) := by decide +kernel
theorem dX9_addressAt_4 : decode cX9_addressAt 4 = .ok (.iload_n 1, 1) := by decide +kernel
theorem dX9_addressAt_5 : decode cX9_addressAt 5 = .ok (.invokevirtual 157, 3) := by decide +kernel
theorem dX9_addressAt_8 : decode cX9_addressAt 8 = .ok (.astore_n 2, 1) := by decide +kernel
theorem dX9_addressAt_9 : decode cX9_addressAt 9 = .ok (.aload_n 2, 1) := by decide +kernel
theorem dX9_addressAt_10 : decode cX9_addressAt 10 = .ok (.ifnonnull 13, 3) := by decide +kernel
theorem dX9_addressAt_13 : decode cX9_addressAt 13 = .ok (.new 160, 3) := by decide +kernel
theorem dX9_addressAt_16 : decode cX9_addressAt 16 = .ok (.dup, 1) := by decide +kernel
theorem dX9_addressAt_17 : decode cX9_addressAt 17 = .ok (.ldc 162, 2) := by decide +kernel
theorem dX9_addressAt_19 : decode cX9_addressAt 19 = .ok (.invokespecial 164, 3) := by decide +kernel
theorem dX9_addressAt_22 : decode cX9_addressAt 22 = .ok (.athrow, 1) := by decide +kernel
theorem dX9_addressAt_23 : decode cX9_addressAt 23 = .ok (.aload_n 2, 1) := by decide +kernel
theorem dX9_addressAt_24 : decode cX9_addressAt 24 = .ok (.getfield 165, 3) := by decide +kernel
theorem dX9_addressAt_27 : decode cX9_addressAt 27 = .ok (.ireturn, 1) := by decide +kernel
theorem dX9_message_0 : decode cX9_message 0 = .ok (.aload_n 0, 1) := by decide +kernel
theorem dX9_message_1 : decode cX9_message 1 = .ok (.getfield 10, 3) := by decide +kernel
theorem dX9_message_4 : decode cX9_message 4 = .ok (.getfield 97, 3) := by decide +kernel
theorem dX9_message_7 : decode cX9_message 7 = .ok (.iload_n 1, 1) := by decide +kernel
theorem dX9_message_8 : decode cX9_message 8 = .ok (.invokevirtual 177, 3) := by decide +kernel
theorem dX9_message_11 : decode cX9_message 11 = .ok (.ifCond .ne 13, 3) := by decide +kernel
theorem dX9_message_14 : decode cX9_message 14 = .ok (.new 160, 3) := by decide +kernel
theorem dX9_message_17 : decode cX9_message 17 = .ok (.dup, 1) := by decide +kernel
theorem dX9_message_18 : decode cX9_message 18 = .ok (.ldc 180, 2) := by decide +kernel
theorem dX9_message_20 : decode cX9_message 20 = .ok (.invokespecial 164, 3) := by decide +kernel
theorem dX9_message_23 : decode cX9_message 23 = .ok (.athrow, 1) := by decide +kernel
theorem dX9_message_24 : decode cX9_message 24 = .ok (.iload_n 2, 1) := by decide +kernel
theorem dX9_message_25 : decode cX9_message 25 = .ok (.iconst 0, 1) := by decide +kernel
theorem dX9_message_26 : decode cX9_message 26 = .ok (.iconst 4, 1) := by decide +kernel
theorem dX9_message_27 : decode cX9_message 27 = .ok (.invokestatic 80, 3) := by decide +kernel
theorem dX9_message_30 : decode cX9_message 30 = .ok (.ifCond .ne 13, 3) := by decide +kernel
theorem dX9_message_33 : decode cX9_message 33 = .ok (.new 34, 3) := by decide +kernel
theorem dX9_message_36 : decode cX9_message 36 = .ok (.dup, 1) := by decide +kernel
theorem dX9_message_37 : decode cX9_message 37 = .ok (.ldc 182, 2) := by decide +kernel
theorem dX9_message_39 : decode cX9_message 39 = .ok (.invokespecial 38, 3) := by decide +kernel
theorem dX9_message_42 : decode cX9_message 42 = .ok (.athrow, 1) := by decide +kernel
theorem dX9_message_43 : decode cX9_message 43 = .ok (.aload_n 0, 1) := by decide +kernel
theorem dX9_message_44 : decode cX9_message 44 = .ok (.getfield 10, 3) := by decide +kernel
theorem dX9_message_47 : decode cX9_message 47 = .ok (.getfield 97, 3) := by decide +kernel
theorem dX9_message_50 : decode cX9_message 50 = .ok (.iload_n 1, 1) := by decide +kernel
theorem dX9_message_51 : decode cX9_message 51 = .ok (.iload_n 2, 1) := by decide +kernel
theorem dX9_message_52 : decode cX9_message 52 = .ok (.invokevirtual 184, 3) := by decide +kernel
theorem dX9_message_55 : decode cX9_message 55 = .ok (.ireturn, 1) := by decide +kernel
theorem dX9_count_0 : decode cX9_count 0 = .ok (.iload_n 1, 1) := by decide +kernel
theorem dX9_count_1 : decode cX9_count 1 = .ok (.iconst 0, 1) := by decide +kernel
theorem dX9_count_2 : decode cX9_count 2 = .ok (.bipush 6, 2) := by decide +kernel
theorem dX9_count_4 : decode cX9_count 4 = .ok (.invokestatic 80, 3) := by decide +kernel
theorem dX9_count_7 : decode cX9_count 7 = .ok (.ifCond .ne 13, 3) := by decide +kernel
theorem dX9_count_10 : decode cX9_count 10 = .ok (.new 34, 3) := by decide +kernel
theorem dX9_count_13 : decode cX9_count 13 = .ok (.dup, 1) := by decide +kernel
theorem dX9_count_14 : decode cX9_count 14 = .ok (.ldc 189, 2) := by decide +kernel
theorem dX9_count_16 : decode cX9_count 16 = .ok (.invokespecial 38, 3) := by decide +kernel
theorem dX9_count_19 : decode cX9_count 19 = .ok (.athrow, 1) := by decide +kernel
theorem dX9_count_20 : decode cX9_count 20 = .ok (.aload_n 0, 1) := by decide +kernel
theorem dX9_count_21 : decode cX9_count 21 = .ok (.getfield 10, 3) := by decide +kernel
theorem dX9_count_24 : decode cX9_count 24 = .ok (.getfield 191, 3) := by decide +kernel
theorem dX9_count_27 : decode cX9_count 27 = .ok (.iload_n 1, 1) := by decide +kernel
theorem dX9_count_28 : decode cX9_count 28 = .ok (.invokevirtual 195, 3) := by decide +kernel
theorem dX9_count_31 : decode cX9_count 31 = .ok (.ireturn, 1) := by decide +kernel
theorem dX9_logged_0 : decode cX9_logged 0 = .ok (.aload_n 0, 1) := by decide +kernel
theorem dX9_logged_1 : decode cX9_logged 1 = .ok (.getfield 10, 3) := by decide +kernel
theorem dX9_logged_4 : decode cX9_logged 4 = .ok (.invokevirtual 202, 3) := by decide +kernel
theorem dX9_logged_7 : decode cX9_logged 7 = .ok (.ireturn, 1) := by decide +kernel
theorem dX9_visit_0 : decode cX9_visit 0 = .ok (.iload_n 1, 1) := by decide +kernel
theorem dX9_visit_1 : decode cX9_visit 1 = .ok (.iconst 0, 1) := by decide +kernel
theorem dX9_visit_2 : decode cX9_visit 2 = .ok (.aload_n 0, 1) := by decide +kernel
theorem dX9_visit_3 : decode cX9_visit 3 = .ok (.getfield 10, 3) := by decide +kernel
theorem dX9_visit_6 : decode cX9_visit 6 = .ok (.invokevirtual 202, 3) := by decide +kernel
theorem dX9_visit_9 : decode cX9_visit 9 = .ok (.iconst 1, 1) := by decide +kernel
theorem dX9_visit_10 : decode cX9_visit 10 = .ok (.isub, 1) := by decide +kernel
theorem dX9_visit_11 : decode cX9_visit 11 = .ok (.invokestatic 80, 3) := by decide +kernel
theorem dX9_visit_14 : decode cX9_visit 14 = .ok (.ifCond .ne 13, 3) := by decide +kernel
theorem dX9_visit_17 : decode cX9_visit 17 = .ok (.new 160, 3) := by decide +kernel
theorem dX9_visit_20 : decode cX9_visit 20 = .ok (.dup, 1) := by decide +kernel
theorem dX9_visit_21 : decode cX9_visit 21 = .ok (.ldc 206, 2) := by decide +kernel
theorem dX9_visit_23 : decode cX9_visit 23 = .ok (.invokespecial 164, 3) := by decide +kernel
theorem dX9_visit_26 : decode cX9_visit 26 = .ok (.athrow, 1) := by decide +kernel
theorem dX9_visit_27 : decode cX9_visit 27 = .ok (.iload_n 2, 1) := by decide +kernel
theorem dX9_visit_28 : decode cX9_visit 28 = .ok (.iconst 0, 1) := by decide +kernel
theorem dX9_visit_29 : decode cX9_visit 29 = .ok (.iconst 3, 1) := by decide +kernel
theorem dX9_visit_30 : decode cX9_visit 30 = .ok (.invokestatic 80, 3) := by decide +kernel
theorem dX9_visit_33 : decode cX9_visit 33 = .ok (.ifCond .ne 13, 3) := by decide +kernel
theorem dX9_visit_36 : decode cX9_visit 36 = .ok (.new 34, 3) := by decide +kernel
theorem dX9_visit_39 : decode cX9_visit 39 = .ok (.dup, 1) := by decide +kernel
theorem dX9_visit_40 : decode cX9_visit 40 = .ok (.ldc 208, 2) := by decide +kernel
theorem dX9_visit_42 : decode cX9_visit 42 = .ok (.invokespecial 38, 3) := by decide +kernel
theorem dX9_visit_45 : decode cX9_visit 45 = .ok (.athrow, 1) := by decide +kernel
theorem dX9_visit_46 : decode cX9_visit 46 = .ok (.aload_n 0, 1) := by decide +kernel
theorem dX9_visit_47 : decode cX9_visit 47 = .ok (.getfield 10, 3) := by decide +kernel
theorem dX9_visit_50 : decode cX9_visit 50 = .ok (.iload_n 1, 1) := by decide +kernel
theorem dX9_visit_51 : decode cX9_visit 51 = .ok (.iload_n 2, 1) := by decide +kernel
theorem dX9_visit_52 : decode cX9_visit 52 = .ok (.invokevirtual 210, 3) := by decide +kernel
theorem dX9_visit_55 : decode cX9_visit 55 = .ok (.ireturn, 1) := by decide +kernel
theorem dX9_greatestRotation_0 : decode cX9_greatestRotation 0 = .ok (.aload_n 0, 1) := by decide +kernel
theorem dX9_greatestRotation_1 : decode cX9_greatestRotation 1 = .ok (.getfield 10, 3) := by decide +kernel
theorem dX9_greatestRotation_4 : decode cX9_greatestRotation 4 = .ok (.getfield 191, 3) := by decide +kernel
theorem dX9_greatestRotation_7 : decode cX9_greatestRotation 7 = .ok (.getfield 213, 3) := by decide +kernel
theorem dX9_greatestRotation_10 : decode cX9_greatestRotation 10 = .ok (.ireturn, 1) := by decide +kernel
theorem dX9_waits_0 : decode cX9_waits 0 = .ok (.aload_n 0, 1) := by decide +kernel
theorem dX9_waits_1 : decode cX9_waits 1 = .ok (.getfield 10, 3) := by decide +kernel
theorem dX9_waits_4 : decode cX9_waits 4 = .ok (.getfield 191, 3) := by decide +kernel
theorem dX9_waits_7 : decode cX9_waits 7 = .ok (.astore_n 2, 1) := by decide +kernel
theorem dX9_waits_8 : decode cX9_waits 8 = .ok (.aload_n 2, 1) := by decide +kernel
theorem dX9_waits_9 : decode cX9_waits 9 = .ok (.getfield 216, 3) := by decide +kernel
theorem dX9_waits_12 : decode cX9_waits 12 = .ok (.ifCond .ne 5, 3) := by decide +kernel
theorem dX9_waits_15 : decode cX9_waits 15 = .ok (.dconst 0, 1) := by decide +kernel
theorem dX9_waits_16 : decode cX9_waits 16 = .ok (.dreturn, 1) := by decide +kernel
theorem dX9_waits_17 : decode cX9_waits 17 = .ok (.iload_n 1, 1) := by decide +kernel
theorem dX9_waits_18 : decode cX9_waits 18 = .ok (.ifCond .eq 11, 3) := by decide +kernel
theorem dX9_waits_21 : decode cX9_waits 21 = .ok (.aload_n 2, 1) := by decide +kernel
theorem dX9_waits_22 : decode cX9_waits 22 = .ok (.getfield 219, 3) := by decide +kernel
theorem dX9_waits_25 : decode cX9_waits 25 = .ok (.i2d, 1) := by decide +kernel
theorem dX9_waits_26 : decode cX9_waits 26 = .ok (.goto 14, 3) := by decide +kernel
theorem dX9_waits_29 : decode cX9_waits 29 = .ok (.aload_n 2, 1) := by decide +kernel
theorem dX9_waits_30 : decode cX9_waits 30 = .ok (.getfield 222, 3) := by decide +kernel
theorem dX9_waits_33 : decode cX9_waits 33 = .ok (.l2d, 1) := by decide +kernel
theorem dX9_waits_34 : decode cX9_waits 34 = .ok (.aload_n 2, 1) := by decide +kernel
theorem dX9_waits_35 : decode cX9_waits 35 = .ok (.getfield 216, 3) := by decide +kernel
theorem dX9_waits_38 : decode cX9_waits 38 = .ok (.i2d, 1) := by decide +kernel
theorem dX9_waits_39 : decode cX9_waits 39 = .ok (.ddiv, 1) := by decide +kernel
theorem dX9_waits_40 : decode cX9_waits 40 = .ok (.dreturn, 1) := by decide +kernel
theorem dX9_use_0 : decode cX9_use 0 = .ok (.aload_n 0, 1) := by decide +kernel
theorem dX9_use_1 : decode cX9_use 1 = .ok (.getfield 10, 3) := by decide +kernel
theorem dX9_use_4 : decode cX9_use 4 = .ok (.getfield 106, 3) := by decide +kernel
theorem dX9_use_7 : decode cX9_use 7 = .ok (.ifCond .ne 7, 3) := by decide +kernel
theorem dX9_use_10 : decode cX9_use 10 = .ok (.dconst 0, 1) := by decide +kernel
theorem dX9_use_11 : decode cX9_use 11 = .ok (.goto 23, 3) := by decide +kernel
theorem dX9_use_14 : decode cX9_use 14 = .ok (.aload_n 0, 1) := by decide +kernel
theorem dX9_use_15 : decode cX9_use 15 = .ok (.getfield 10, 3) := by decide +kernel
theorem dX9_use_18 : decode cX9_use 18 = .ok (.getfield 191, 3) := by decide +kernel
theorem dX9_use_21 : decode cX9_use 21 = .ok (.getfield 226, 3) := by decide +kernel
theorem dX9_use_24 : decode cX9_use 24 = .ok (.i2d, 1) := by decide +kernel
theorem dX9_use_25 : decode cX9_use 25 = .ok (.aload_n 0, 1) := by decide +kernel
theorem dX9_use_26 : decode cX9_use 26 = .ok (.getfield 10, 3) := by decide +kernel
theorem dX9_use_29 : decode cX9_use 29 = .ok (.getfield 106, 3) := by decide +kernel
theorem dX9_use_32 : decode cX9_use 32 = .ok (.i2d, 1) := by decide +kernel
theorem dX9_use_33 : decode cX9_use 33 = .ok (.ddiv, 1) := by decide +kernel
theorem dX9_use_34 : decode cX9_use 34 = .ok (.dreturn, 1) := by decide +kernel
theorem dX9_waitOf_0 : decode cX9_waitOf 0 = .ok (.aload_n 0, 1) := by decide +kernel
theorem dX9_waitOf_1 : decode cX9_waitOf 1 = .ok (.getfield 10, 3) := by decide +kernel
theorem dX9_waitOf_4 : decode cX9_waitOf 4 = .ok (.getfield 97, 3) := by decide +kernel
theorem dX9_waitOf_7 : decode cX9_waitOf 7 = .ok (.iload_n 1, 1) := by decide +kernel
theorem dX9_waitOf_8 : decode cX9_waitOf 8 = .ok (.invokevirtual 177, 3) := by decide +kernel
theorem dX9_waitOf_11 : decode cX9_waitOf 11 = .ok (.ifCond .ne 13, 3) := by decide +kernel
theorem dX9_waitOf_14 : decode cX9_waitOf 14 = .ok (.new 160, 3) := by decide +kernel
theorem dX9_waitOf_17 : decode cX9_waitOf 17 = .ok (.dup, 1) := by decide +kernel
theorem dX9_waitOf_18 : decode cX9_waitOf 18 = .ok (.ldc 180, 2) := by decide +kernel
theorem dX9_waitOf_20 : decode cX9_waitOf 20 = .ok (.invokespecial 164, 3) := by decide +kernel
theorem dX9_waitOf_23 : decode cX9_waitOf 23 = .ok (.athrow, 1) := by decide +kernel
theorem dX9_waitOf_24 : decode cX9_waitOf 24 = .ok (.aload_n 0, 1) := by decide +kernel
theorem dX9_waitOf_25 : decode cX9_waitOf 25 = .ok (.getfield 10, 3) := by decide +kernel
theorem dX9_waitOf_28 : decode cX9_waitOf 28 = .ok (.getfield 97, 3) := by decide +kernel
theorem dX9_waitOf_31 : decode cX9_waitOf 31 = .ok (.iload_n 1, 1) := by decide +kernel
theorem dX9_waitOf_32 : decode cX9_waitOf 32 = .ok (.iconst 4, 1) := by decide +kernel
theorem dX9_waitOf_33 : decode cX9_waitOf 33 = .ok (.invokevirtual 184, 3) := by decide +kernel
theorem dX9_waitOf_36 : decode cX9_waitOf 36 = .ok (.iconst (-1), 1) := by decide +kernel
theorem dX9_waitOf_37 : decode cX9_waitOf 37 = .ok (.if_icmp .ne 13, 3) := by decide +kernel
theorem dX9_waitOf_40 : decode cX9_waitOf 40 = .ok (.aload_n 0, 1) := by decide +kernel
theorem dX9_waitOf_41 : decode cX9_waitOf 41 = .ok (.getfield 10, 3) := by decide +kernel
theorem dX9_waitOf_44 : decode cX9_waitOf 44 = .ok (.invokevirtual 133, 3) := by decide +kernel
theorem dX9_waitOf_47 : decode cX9_waitOf 47 = .ok (.ifCond .eq 13, 3) := by decide +kernel
theorem dX9_waitOf_50 : decode cX9_waitOf 50 = .ok (.new 49, 3) := by decide +kernel
theorem dX9_waitOf_53 : decode cX9_waitOf 53 = .ok (.dup, 1) := by decide +kernel
theorem dX9_waitOf_54 : decode cX9_waitOf 54 = .ok (.ldc 229, 2) := by decide +kernel
theorem dX9_waitOf_56 : decode cX9_waitOf 56 = .ok (.invokespecial 53, 3) := by decide +kernel
theorem dX9_waitOf_59 : decode cX9_waitOf 59 = .ok (.athrow, 1) := by decide +kernel
theorem dX9_waitOf_60 : decode cX9_waitOf 60 = .ok (.aload_n 0, 1) := by decide +kernel
theorem dX9_waitOf_61 : decode cX9_waitOf 61 = .ok (.getfield 16, 3) := by decide +kernel
theorem dX9_waitOf_64 : decode cX9_waitOf 64 = .ok (.aload_n 0, 1) := by decide +kernel
theorem dX9_waitOf_65 : decode cX9_waitOf 65 = .ok (.getfield 10, 3) := by decide +kernel
theorem dX9_waitOf_68 : decode cX9_waitOf 68 = .ok (.invokevirtual 231, 3) := by decide +kernel
theorem dX9_waitOf_71 : decode cX9_waitOf 71 = .ok (.iconst (-1), 1) := by decide +kernel
theorem dX9_waitOf_72 : decode cX9_waitOf 72 = .ok (.istore_n 2, 1) := by decide +kernel
theorem dX9_waitOf_73 : decode cX9_waitOf 73 = .ok (.iconst 0, 1) := by decide +kernel
theorem dX9_waitOf_74 : decode cX9_waitOf 74 = .ok (.istore_n 3, 1) := by decide +kernel
theorem dX9_waitOf_75 : decode cX9_waitOf 75 = .ok (.iload_n 3, 1) := by decide +kernel
theorem dX9_waitOf_76 : decode cX9_waitOf 76 = .ok (.sipush 300, 3) := by decide +kernel
theorem dX9_waitOf_79 : decode cX9_waitOf 79 = .ok (.if_icmp .ge 34, 3) := by decide +kernel
theorem dX9_waitOf_82 : decode cX9_waitOf 82 = .ok (.iload_n 2, 1) := by decide +kernel
theorem dX9_waitOf_83 : decode cX9_waitOf 83 = .ok (.iconst (-1), 1) := by decide +kernel
theorem dX9_waitOf_84 : decode cX9_waitOf 84 = .ok (.if_icmp .ne 29, 3) := by decide +kernel
theorem dX9_waitOf_87 : decode cX9_waitOf 87 = .ok (.aload_n 0, 1) := by decide +kernel
theorem dX9_waitOf_88 : decode cX9_waitOf 88 = .ok (.getfield 16, 3) := by decide +kernel
theorem dX9_waitOf_91 : decode cX9_waitOf 91 = .ok (.invokestatic 138, 3) := by decide +kernel
theorem dX9_waitOf_94 : decode cX9_waitOf 94 = .ok (.aload_n 0, 1) := by decide +kernel
theorem dX9_waitOf_95 : decode cX9_waitOf 95 = .ok (.getfield 16, 3) := by decide +kernel
theorem dX9_waitOf_98 : decode cX9_waitOf 98 = .ok (.getfield 97, 3) := by decide +kernel
theorem dX9_waitOf_101 : decode cX9_waitOf 101 = .ok (.iload_n 1, 1) := by decide +kernel
theorem dX9_waitOf_102 : decode cX9_waitOf 102 = .ok (.iconst 4, 1) := by decide +kernel
theorem dX9_waitOf_103 : decode cX9_waitOf 103 = .ok (.invokevirtual 184, 3) := by decide +kernel
theorem dX9_waitOf_106 : decode cX9_waitOf 106 = .ok (.istore_n 2, 1) := by decide +kernel
theorem dX9_waitOf_107 : decode cX9_waitOf 107 = .ok (.iinc 3 1, 3) := by decide +kernel
theorem dX9_waitOf_110 : decode cX9_waitOf 110 = .ok (.goto (-35), 3) := by decide +kernel
theorem dX9_waitOf_113 : decode cX9_waitOf 113 = .ok (.iload_n 2, 1) := by decide +kernel
theorem dX9_waitOf_114 : decode cX9_waitOf 114 = .ok (.ireturn, 1) := by decide +kernel
theorem dX9_completeAfter_0 : decode cX9_completeAfter 0 = .ok (.aload_n 0, 1) := by decide +kernel
theorem dX9_completeAfter_1 : decode cX9_completeAfter 1 = .ok (.getfield 10, 3) := by decide +kernel
theorem dX9_completeAfter_4 : decode cX9_completeAfter 4 = .ok (.invokevirtual 133, 3) := by decide +kernel
theorem dX9_completeAfter_7 : decode cX9_completeAfter 7 = .ok (.ifCond .eq 13, 3) := by decide +kernel
theorem dX9_completeAfter_10 : decode cX9_completeAfter 10 = .ok (.new 49, 3) := by decide +kernel
theorem dX9_completeAfter_13 : decode cX9_completeAfter 13 = .ok (.dup, 1) := by decide +kernel
theorem dX9_completeAfter_14 : decode cX9_completeAfter 14 = .ok (.ldc 136, 2) := by decide +kernel
theorem dX9_completeAfter_16 : decode cX9_completeAfter 16 = .ok (.invokespecial 53, 3) := by decide +kernel
theorem dX9_completeAfter_19 : decode cX9_completeAfter 19 = .ok (.athrow, 1) := by decide +kernel
theorem dX9_completeAfter_20 : decode cX9_completeAfter 20 = .ok (.aload_n 0, 1) := by decide +kernel
theorem dX9_completeAfter_21 : decode cX9_completeAfter 21 = .ok (.getfield 16, 3) := by decide +kernel
theorem dX9_completeAfter_24 : decode cX9_completeAfter 24 = .ok (.aload_n 0, 1) := by decide +kernel
theorem dX9_completeAfter_25 : decode cX9_completeAfter 25 = .ok (.getfield 10, 3) := by decide +kernel
theorem dX9_completeAfter_28 : decode cX9_completeAfter 28 = .ok (.invokevirtual 231, 3) := by decide +kernel
theorem dX9_completeAfter_31 : decode cX9_completeAfter 31 = .ok (.iconst 0, 1) := by decide +kernel
theorem dX9_completeAfter_32 : decode cX9_completeAfter 32 = .ok (.istore_n 1, 1) := by decide +kernel
theorem dX9_completeAfter_33 : decode cX9_completeAfter 33 = .ok (.iload_n 1, 1) := by decide +kernel
theorem dX9_completeAfter_34 : decode cX9_completeAfter 34 = .ok (.sipush 300, 3) := by decide +kernel
theorem dX9_completeAfter_37 : decode cX9_completeAfter 37 = .ok (.if_icmp .ge 28, 3) := by decide +kernel
theorem dX9_completeAfter_40 : decode cX9_completeAfter 40 = .ok (.aload_n 0, 1) := by decide +kernel
theorem dX9_completeAfter_41 : decode cX9_completeAfter 41 = .ok (.getfield 16, 3) := by decide +kernel
theorem dX9_completeAfter_44 : decode cX9_completeAfter 44 = .ok (.invokevirtual 234, 3) := by decide +kernel
theorem dX9_completeAfter_47 : decode cX9_completeAfter 47 = .ok (.ifCond .eq 5, 3) := by decide +kernel
theorem dX9_completeAfter_50 : decode cX9_completeAfter 50 = .ok (.iload_n 1, 1) := by decide +kernel
theorem dX9_completeAfter_51 : decode cX9_completeAfter 51 = .ok (.ireturn, 1) := by decide +kernel
theorem dX9_completeAfter_52 : decode cX9_completeAfter 52 = .ok (.aload_n 0, 1) := by decide +kernel
theorem dX9_completeAfter_53 : decode cX9_completeAfter 53 = .ok (.getfield 16, 3) := by decide +kernel
theorem dX9_completeAfter_56 : decode cX9_completeAfter 56 = .ok (.invokestatic 138, 3) := by decide +kernel
theorem dX9_completeAfter_59 : decode cX9_completeAfter 59 = .ok (.iinc 1 1, 3) := by decide +kernel
theorem dX9_completeAfter_62 : decode cX9_completeAfter 62 = .ok (.goto (-29), 3) := by decide +kernel
theorem dX9_completeAfter_65 : decode cX9_completeAfter 65 = .ok (.aload_n 0, 1) := by decide +kernel
theorem dX9_completeAfter_66 : decode cX9_completeAfter 66 = .ok (.getfield 16, 3) := by decide +kernel
theorem dX9_completeAfter_69 : decode cX9_completeAfter 69 = .ok (.invokevirtual 234, 3) := by decide +kernel
theorem dX9_completeAfter_72 : decode cX9_completeAfter 72 = .ok (.ifCond .eq 9, 3) := by decide +kernel
theorem dX9_completeAfter_75 : decode cX9_completeAfter 75 = .ok (.sipush 300, 3) := by decide +kernel
theorem dX9_completeAfter_78 : decode cX9_completeAfter 78 = .ok (.goto 4, 3) := by decide +kernel
theorem dX9_completeAfter_81 : decode cX9_completeAfter 81 = .ok (.iconst (-1), 1) := by decide +kernel
theorem dX9_completeAfter_82 : decode cX9_completeAfter 82 = .ok (.ireturn, 1) := by decide +kernel
theorem dX9_leastTarget_0 : decode cX9_leastTarget 0 = .ok (.iload_n 1, 1) := by decide +kernel
theorem dX9_leastTarget_1 : decode cX9_leastTarget 1 = .ok (.iconst 0, 1) := by decide +kernel
theorem dX9_leastTarget_2 : decode cX9_leastTarget 2 = .ok (.bipush 100, 2) := by decide +kernel
theorem dX9_leastTarget_4 : decode cX9_leastTarget 4 = .ok (.invokestatic 80, 3) := by decide +kernel
theorem dX9_leastTarget_7 : decode cX9_leastTarget 7 = .ok (.ifCond .ne 13, 3) := by decide +kernel
theorem dX9_leastTarget_10 : decode cX9_leastTarget 10 = .ok (.new 34, 3) := by decide +kernel
theorem dX9_leastTarget_13 : decode cX9_leastTarget 13 = .ok (.dup, 1) := by decide +kernel
theorem dX9_leastTarget_14 : decode cX9_leastTarget 14 = .ok (.ldc 131, 2) := by decide +kernel
theorem dX9_leastTarget_16 : decode cX9_leastTarget 16 = .ok (.invokespecial 38, 3) := by decide +kernel
theorem dX9_leastTarget_19 : decode cX9_leastTarget 19 = .ok (.athrow, 1) := by decide +kernel
theorem dX9_leastTarget_20 : decode cX9_leastTarget 20 = .ok (.aload_n 0, 1) := by decide +kernel
theorem dX9_leastTarget_21 : decode cX9_leastTarget 21 = .ok (.getfield 10, 3) := by decide +kernel
theorem dX9_leastTarget_24 : decode cX9_leastTarget 24 = .ok (.invokevirtual 133, 3) := by decide +kernel
theorem dX9_leastTarget_27 : decode cX9_leastTarget 27 = .ok (.ifCond .eq 13, 3) := by decide +kernel
theorem dX9_leastTarget_30 : decode cX9_leastTarget 30 = .ok (.new 49, 3) := by decide +kernel
theorem dX9_leastTarget_33 : decode cX9_leastTarget 33 = .ok (.dup, 1) := by decide +kernel
theorem dX9_leastTarget_34 : decode cX9_leastTarget 34 = .ok (.ldc 136, 2) := by decide +kernel
theorem dX9_leastTarget_36 : decode cX9_leastTarget 36 = .ok (.invokespecial 53, 3) := by decide +kernel
theorem dX9_leastTarget_39 : decode cX9_leastTarget 39 = .ok (.athrow, 1) := by decide +kernel
theorem dX9_leastTarget_40 : decode cX9_leastTarget 40 = .ok (.bipush 20, 2) := by decide +kernel
theorem dX9_leastTarget_42 : decode cX9_leastTarget 42 = .ok (.istore_n 2, 1) := by decide +kernel
theorem dX9_leastTarget_43 : decode cX9_leastTarget 43 = .ok (.iload_n 2, 1) := by decide +kernel
theorem dX9_leastTarget_44 : decode cX9_leastTarget 44 = .ok (.sipush 400, 3) := by decide +kernel
theorem dX9_leastTarget_47 : decode cX9_leastTarget 47 = .ok (.if_icmp .gt 20, 3) := by decide +kernel
theorem dX9_leastTarget_50 : decode cX9_leastTarget 50 = .ok (.aload_n 0, 1) := by decide +kernel
theorem dX9_leastTarget_51 : decode cX9_leastTarget 51 = .ok (.iload_n 2, 1) := by decide +kernel
theorem dX9_leastTarget_52 : decode cX9_leastTarget 52 = .ok (.iload_n 1, 1) := by decide +kernel
theorem dX9_leastTarget_53 : decode cX9_leastTarget 53 = .ok (.invokevirtual 237, 3) := by decide +kernel
theorem dX9_leastTarget_56 : decode cX9_leastTarget 56 = .ok (.ifCond .eq 5, 3) := by decide +kernel
theorem dX9_leastTarget_59 : decode cX9_leastTarget 59 = .ok (.iload_n 2, 1) := by decide +kernel
theorem dX9_leastTarget_60 : decode cX9_leastTarget 60 = .ok (.ireturn, 1) := by decide +kernel
theorem dX9_leastTarget_61 : decode cX9_leastTarget 61 = .ok (.iinc 2 20, 3) := by decide +kernel
theorem dX9_leastTarget_64 : decode cX9_leastTarget 64 = .ok (.goto (-21), 3) := by decide +kernel
theorem dX9_leastTarget_67 : decode cX9_leastTarget 67 = .ok (.iconst (-1), 1) := by decide +kernel
theorem dX9_leastTarget_68 : decode cX9_leastTarget 68 = .ok (.ireturn, 1) := by decide +kernel
theorem dX9_undo_0 : decode cX9_undo 0 = .ok (.aload_n 0, 1) := by decide +kernel
theorem dX9_undo_1 : decode cX9_undo 1 = .ok (.getfield 22, 3) := by decide +kernel
theorem dX9_undo_4 : decode cX9_undo 4 = .ok (.getfield 264, 3) := by decide +kernel
theorem dX9_undo_7 : decode cX9_undo 7 = .ok (.ifCond .ne 14, 3) := by decide +kernel
theorem dX9_undo_10 : decode cX9_undo 10 = .ok (.new 49, 3) := by decide +kernel
theorem dX9_undo_13 : decode cX9_undo 13 = .ok (.dup, 1) := by decide +kernel
theorem dX9_undo_14 : decode cX9_undo 14 = .ok (.ldc_w 267, 3) := by decide +kernel
theorem dX9_undo_17 : decode cX9_undo 17 = .ok (.invokespecial 53, 3) := by decide +kernel
theorem dX9_undo_20 : decode cX9_undo 20 = .ok (.athrow, 1) := by decide +kernel
theorem dX9_undo_21 : decode cX9_undo 21 = .ok (.aload_n 0, 1) := by decide +kernel
theorem dX9_undo_22 : decode cX9_undo 22 = .ok (.getfield 22, 3) := by decide +kernel
theorem dX9_undo_25 : decode cX9_undo 25 = .ok (.aload_n 0, 1) := by decide +kernel
theorem dX9_undo_26 : decode cX9_undo 26 = .ok (.getfield 10, 3) := by decide +kernel
theorem dX9_undo_29 : decode cX9_undo 29 = .ok (.invokevirtual 269, 3) := by decide +kernel
theorem dX9_undo_32 : decode cX9_undo 32 = .ok (.aload_n 0, 1) := by decide +kernel
theorem dX9_undo_33 : decode cX9_undo 33 = .ok (.getfield 22, 3) := by decide +kernel
theorem dX9_undo_36 : decode cX9_undo 36 = .ok (.getfield 264, 3) := by decide +kernel
theorem dX9_undo_39 : decode cX9_undo 39 = .ok (.ireturn, 1) := by decide +kernel
theorem dX9_digest_0 : decode cX9_digest 0 = .ok (.ldc2_w 272, 3) := by decide +kernel
theorem dX9_digest_3 : decode cX9_digest 3 = .ok (.aload_n 0, 1) := by decide +kernel
theorem dX9_digest_4 : decode cX9_digest 4 = .ok (.getfield 242, 3) := by decide +kernel
theorem dX9_digest_7 : decode cX9_digest 7 = .ok (.i2l, 1) := by decide +kernel
theorem dX9_digest_8 : decode cX9_digest 8 = .ok (.invokestatic 274, 3) := by decide +kernel
theorem dX9_digest_11 : decode cX9_digest 11 = .ok (.lstore_n 1, 1) := by decide +kernel
theorem dX9_digest_12 : decode cX9_digest 12 = .ok (.aload_n 0, 1) := by decide +kernel
theorem dX9_digest_13 : decode cX9_digest 13 = .ok (.getfield 10, 3) := by decide +kernel
theorem dX9_digest_16 : decode cX9_digest 16 = .ok (.lload_n 1, 1) := by decide +kernel
theorem dX9_digest_17 : decode cX9_digest 17 = .ok (.invokevirtual 278, 3) := by decide +kernel
theorem dX9_digest_20 : decode cX9_digest 20 = .ok (.lstore_n 1, 1) := by decide +kernel
theorem dX9_digest_21 : decode cX9_digest 21 = .ok (.lload_n 1, 1) := by decide +kernel
theorem dX9_digest_22 : decode cX9_digest 22 = .ok (.aload_n 0, 1) := by decide +kernel
theorem dX9_digest_23 : decode cX9_digest 23 = .ok (.getfield 22, 3) := by decide +kernel
theorem dX9_digest_26 : decode cX9_digest 26 = .ok (.getfield 264, 3) := by decide +kernel
theorem dX9_digest_29 : decode cX9_digest 29 = .ok (.i2l, 1) := by decide +kernel
theorem dX9_digest_30 : decode cX9_digest 30 = .ok (.invokestatic 274, 3) := by decide +kernel
theorem dX9_digest_33 : decode cX9_digest 33 = .ok (.lreturn, 1) := by decide +kernel
theorem dX9_isWithin_0 : decode cX9_isWithin 0 = .ok (.iload_n 0, 1) := by decide +kernel
theorem dX9_isWithin_1 : decode cX9_isWithin 1 = .ok (.iload_n 1, 1) := by decide +kernel
theorem dX9_isWithin_2 : decode cX9_isWithin 2 = .ok (.if_icmp .lt 12, 3) := by decide +kernel
theorem dX9_isWithin_5 : decode cX9_isWithin 5 = .ok (.iload_n 0, 1) := by decide +kernel
theorem dX9_isWithin_6 : decode cX9_isWithin 6 = .ok (.iload_n 2, 1) := by decide +kernel
theorem dX9_isWithin_7 : decode cX9_isWithin 7 = .ok (.if_icmp .gt 7, 3) := by decide +kernel
theorem dX9_isWithin_10 : decode cX9_isWithin 10 = .ok (.iconst 1, 1) := by decide +kernel
theorem dX9_isWithin_11 : decode cX9_isWithin 11 = .ok (.goto 4, 3) := by decide +kernel
theorem dX9_isWithin_14 : decode cX9_isWithin 14 = .ok (.iconst 0, 1) := by decide +kernel
theorem dX9_isWithin_15 : decode cX9_isWithin 15 = .ok (.ireturn, 1) := by decide +kernel
theorem dX9_isAddress_0 : decode cX9_isAddress 0 = .ok (.iload_n 0, 1) := by decide +kernel
theorem dX9_isAddress_1 : decode cX9_isAddress 1 = .ok (.iconst 0, 1) := by decide +kernel
theorem dX9_isAddress_2 : decode cX9_isAddress 2 = .ok (.bipush 31, 2) := by decide +kernel
theorem dX9_isAddress_4 : decode cX9_isAddress 4 = .ok (.invokestatic 80, 3) := by decide +kernel
theorem dX9_isAddress_7 : decode cX9_isAddress 7 = .ok (.ireturn, 1) := by decide +kernel
theorem dX9_addressBehind_0 : decode cX9_addressBehind 0 = .ok (.iload_n 0, 1) := by decide +kernel
theorem dX9_addressBehind_1 : decode cX9_addressBehind 1 = .ok (.iconst 1, 1) := by decide +kernel
theorem dX9_addressBehind_2 : decode cX9_addressBehind 2 = .ok (.iadd, 1) := by decide +kernel
theorem dX9_addressBehind_3 : decode cX9_addressBehind 3 = .ok (.bipush 31, 2) := by decide +kernel
theorem dX9_addressBehind_5 : decode cX9_addressBehind 5 = .ok (.iand, 1) := by decide +kernel
theorem dX9_addressBehind_6 : decode cX9_addressBehind 6 = .ok (.ireturn, 1) := by decide +kernel
theorem dX9_mixed_0 : decode cX9_mixed 0 = .ok (.ldc2_w 282, 3) := by decide +kernel
theorem dX9_mixed_3 : decode cX9_mixed 3 = .ok (.lload_n 0, 1) := by decide +kernel
theorem dX9_mixed_4 : decode cX9_mixed 4 = .ok (.lmul, 1) := by decide +kernel
theorem dX9_mixed_5 : decode cX9_mixed 5 = .ok (.lload_n 2, 1) := by decide +kernel
theorem dX9_mixed_6 : decode cX9_mixed 6 = .ok (.ladd, 1) := by decide +kernel
theorem dX9_mixed_7 : decode cX9_mixed 7 = .ok (.lreturn, 1) := by decide +kernel
theorem dX9_sendsAll_0 : decode cX9_sendsAll 0 = .ok (.aload_n 0, 1) := by decide +kernel
theorem dX9_sendsAll_1 : decode cX9_sendsAll 1 = .ok (.getfield 16, 3) := by decide +kernel
theorem dX9_sendsAll_4 : decode cX9_sendsAll 4 = .ok (.aload_n 0, 1) := by decide +kernel
theorem dX9_sendsAll_5 : decode cX9_sendsAll 5 = .ok (.getfield 10, 3) := by decide +kernel
theorem dX9_sendsAll_8 : decode cX9_sendsAll 8 = .ok (.invokevirtual 231, 3) := by decide +kernel
theorem dX9_sendsAll_11 : decode cX9_sendsAll 11 = .ok (.aload_n 0, 1) := by decide +kernel
theorem dX9_sendsAll_12 : decode cX9_sendsAll 12 = .ok (.getfield 16, 3) := by decide +kernel
theorem dX9_sendsAll_15 : decode cX9_sendsAll 15 = .ok (.iload_n 1, 1) := by decide +kernel
theorem dX9_sendsAll_16 : decode cX9_sendsAll 16 = .ok (.putfield 86, 3) := by decide +kernel
theorem dX9_sendsAll_19 : decode cX9_sendsAll 19 = .ok (.iconst 0, 1) := by decide +kernel
theorem dX9_sendsAll_20 : decode cX9_sendsAll 20 = .ok (.istore_n 3, 1) := by decide +kernel
theorem dX9_sendsAll_21 : decode cX9_sendsAll 21 = .ok (.iload_n 3, 1) := by decide +kernel
theorem dX9_sendsAll_22 : decode cX9_sendsAll 22 = .ok (.iload_n 2, 1) := by decide +kernel
theorem dX9_sendsAll_23 : decode cX9_sendsAll 23 = .ok (.if_icmp .ge 26, 3) := by decide +kernel
theorem dX9_sendsAll_26 : decode cX9_sendsAll 26 = .ok (.aload_n 0, 1) := by decide +kernel
theorem dX9_sendsAll_27 : decode cX9_sendsAll 27 = .ok (.getfield 16, 3) := by decide +kernel
theorem dX9_sendsAll_30 : decode cX9_sendsAll 30 = .ok (.invokevirtual 284, 3) := by decide +kernel
theorem dX9_sendsAll_33 : decode cX9_sendsAll 33 = .ok (.ifCond .eq 16, 3) := by decide +kernel
theorem dX9_sendsAll_36 : decode cX9_sendsAll 36 = .ok (.aload_n 0, 1) := by decide +kernel
theorem dX9_sendsAll_37 : decode cX9_sendsAll 37 = .ok (.getfield 16, 3) := by decide +kernel
theorem dX9_sendsAll_40 : decode cX9_sendsAll 40 = .ok (.invokestatic 138, 3) := by decide +kernel
theorem dX9_sendsAll_43 : decode cX9_sendsAll 43 = .ok (.iinc 3 1, 3) := by decide +kernel
theorem dX9_sendsAll_46 : decode cX9_sendsAll 46 = .ok (.goto (-25), 3) := by decide +kernel
theorem dX9_sendsAll_49 : decode cX9_sendsAll 49 = .ok (.aload_n 0, 1) := by decide +kernel
theorem dX9_sendsAll_50 : decode cX9_sendsAll 50 = .ok (.getfield 16, 3) := by decide +kernel
theorem dX9_sendsAll_53 : decode cX9_sendsAll 53 = .ok (.invokevirtual 284, 3) := by decide +kernel
theorem dX9_sendsAll_56 : decode cX9_sendsAll 56 = .ok (.ifCond .ne 7, 3) := by decide +kernel
theorem dX9_sendsAll_59 : decode cX9_sendsAll 59 = .ok (.iconst 1, 1) := by decide +kernel
theorem dX9_sendsAll_60 : decode cX9_sendsAll 60 = .ok (.goto 4, 3) := by decide +kernel
theorem dX9_sendsAll_63 : decode cX9_sendsAll 63 = .ok (.iconst 0, 1) := by decide +kernel
theorem dX9_sendsAll_64 : decode cX9_sendsAll 64 = .ok (.ireturn, 1) := by decide +kernel
theorem dL_cell_0 : decode cL_cell 0 = .ok (.iload_n 1, 1) := by decide +kernel
