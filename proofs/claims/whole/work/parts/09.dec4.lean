theorem dX9_addressBehind_0 : decode cX9_addressBehind 0 = .ok (.iload_n 0, 1) := by decide +kernel
theorem dX9_addressBehind_1 : decode cX9_addressBehind 1 = .ok (.iconst 1, 1) := by decide +kernel
theorem dX9_addressBehind_2 : decode cX9_addressBehind 2 = .ok (.iadd, 1) := by decide +kernel
theorem dX9_addressBehind_3 : decode cX9_addressBehind 3 = .ok (.bipush 31, 2) := by decide +kernel
theorem dX9_addressBehind_5 : decode cX9_addressBehind 5 = .ok (.iand, 1) := by decide +kernel
theorem dX9_addressBehind_6 : decode cX9_addressBehind 6 = .ok (.ireturn, 1) := by decide +kernel
theorem dX9_mixed_0 : decode cX9_mixed 0 = .ok (.ldc2_w 282, 3) := by decide +kernel
theorem dX9_mixed_3 : decode cX9_mixed 3 = .ok (.lload_n 0, 1) := by decide +kernel
theorem dX9_mixed_4 : decode cX9_mixed 4 = .ok (.lmul, 1) := by decide +kernel
theorem dX9_mixed_5 : decode cX9_mixed 5 = .ok (.lload_n 2, 1) := by decide +kernel
theorem dX9_mixed_6 : decode cX9_mixed 6 = .ok (.ladd, 1) := by decide +kernel
theorem dX9_mixed_7 : decode cX9_mixed 7 = .ok (.lreturn, 1) := by decide +kernel
theorem dX9_sendsAll_0 : decode cX9_sendsAll 0 = .ok (.aload_n 0, 1) := by decide +kernel
theorem dX9_sendsAll_1 : decode cX9_sendsAll 1 = .ok (.getfield 16, 3) := by decide +kernel
theorem dX9_sendsAll_4 : decode cX9_sendsAll 4 = .ok (.aload_n 0, 1) := by decide +kernel
theorem dX9_sendsAll_5 : decode cX9_sendsAll 5 = .ok (.getfield 10, 3) := by decide +kernel
theorem dX9_sendsAll_8 : decode cX9_sendsAll 8 = .ok (.invokevirtual 231, 3) := by decide +kernel
theorem dX9_sendsAll_11 : decode cX9_sendsAll 11 = .ok (.aload_n 0, 1) := by decide +kernel
theorem dX9_sendsAll_12 : decode cX9_sendsAll 12 = .ok (.getfield 16, 3) := by decide +kernel
theorem dX9_sendsAll_15 : decode cX9_sendsAll 15 = .ok (.iload_n 1, 1) := by decide +kernel
theorem dX9_sendsAll_16 : decode cX9_sendsAll 16 = .ok (.putfield 86, 3) := by decide +kernel
theorem dX9_sendsAll_19 : decode cX9_sendsAll 19 = .ok (.iconst 0, 1) := by decide +kernel
theorem dX9_sendsAll_20 : decode cX9_sendsAll 20 = .ok (.istore_n 3, 1) := by decide +kernel
theorem dX9_sendsAll_21 : decode cX9_sendsAll 21 = .ok (.iload_n 3, 1) := by decide +kernel
theorem dX9_sendsAll_22 : decode cX9_sendsAll 22 = .ok (.iload_n 2, 1) := by decide +kernel
theorem dX9_sendsAll_23 : decode cX9_sendsAll 23 = .ok (.if_icmp .ge 26, 3) := by decide +kernel
theorem dX9_sendsAll_26 : decode cX9_sendsAll 26 = .ok (.aload_n 0, 1) := by decide +kernel
theorem dX9_sendsAll_27 : decode cX9_sendsAll 27 = .ok (.getfield 16, 3) := by decide +kernel
theorem dX9_sendsAll_30 : decode cX9_sendsAll 30 = .ok (.invokevirtual 284, 3) := by decide +kernel
theorem dX9_sendsAll_33 : decode cX9_sendsAll 33 = .ok (.ifCond .eq 16, 3) := by decide +kernel
theorem dX9_sendsAll_36 : decode cX9_sendsAll 36 = .ok (.aload_n 0, 1) := by decide +kernel
theorem dX9_sendsAll_37 : decode cX9_sendsAll 37 = .ok (.getfield 16, 3) := by decide +kernel
theorem dX9_sendsAll_40 : decode cX9_sendsAll 40 = .ok (.invokestatic 138, 3) := by decide +kernel
theorem dX9_sendsAll_43 : decode cX9_sendsAll 43 = .ok (.iinc 3 1, 3) := by decide +kernel
theorem dX9_sendsAll_46 : decode cX9_sendsAll 46 = .ok (.goto (-25), 3) := by decide +kernel
theorem dX9_sendsAll_49 : decode cX9_sendsAll 49 = .ok (.aload_n 0, 1) := by decide +kernel
theorem dX9_sendsAll_50 : decode cX9_sendsAll 50 = .ok (.getfield 16, 3) := by decide +kernel
theorem dX9_sendsAll_53 : decode cX9_sendsAll 53 = .ok (.invokevirtual 284, 3) := by decide +kernel
theorem dX9_sendsAll_56 : decode cX9_sendsAll 56 = .ok (.ifCond .ne 7, 3) := by decide +kernel
theorem dX9_sendsAll_59 : decode cX9_sendsAll 59 = .ok (.iconst 1, 1) := by decide +kernel
theorem dX9_sendsAll_60 : decode cX9_sendsAll 60 = .ok (.goto 4, 3) := by decide +kernel
theorem dX9_sendsAll_63 : decode cX9_sendsAll 63 = .ok (.iconst 0, 1) := by decide +kernel
theorem dX9_sendsAll_64 : decode cX9_sendsAll 64 = .ok (.ireturn, 1) := by decide +kernel
theorem dX10_init_0 : decode cX10_init 0 = .ok (.aload_n 0, 1) := by decide +kernel
theorem dX10_init_1 : decode cX10_init 1 = .ok (.invokespecial 1, 3) := by decide +kernel
theorem dX10_init_4 : decode cX10_init 4 = .ok (.aload_n 0, 1) := by decide +kernel
theorem dX10_init_5 : decode cX10_init 5 = .ok (.sipush 942, 3) := by decide +kernel
theorem dX10_init_8 : decode cX10_init 8 = .ok (.newarray .int, 2) := by decide +kernel
theorem dX10_init_10 : decode cX10_init 10 = .ok (.putfield 7, 3) := by decide +kernel
theorem dX10_init_13 : decode cX10_init 13 = .ok (.aload_n 0, 1) := by decide +kernel
theorem dX10_init_14 : decode cX10_init 14 = .ok (.sipush 3768, 3) := by decide +kernel
theorem dX10_init_17 : decode cX10_init 17 = .ok (.newarray .int, 2) := by decide +kernel
theorem dX10_init_19 : decode cX10_init 19 = .ok (.putfield 13, 3) := by decide +kernel
theorem dX10_init_22 : decode cX10_init 22 = .ok (.aload_n 0, 1) := by decide +kernel
theorem dX10_init_23 : decode cX10_init 23 = .ok (.sipush 942, 3) := by decide +kernel
theorem dX10_init_26 : decode cX10_init 26 = .ok (.newarray .int, 2) := by decide +kernel
theorem dX10_init_28 : decode cX10_init 28 = .ok (.putfield 16, 3) := by decide +kernel
theorem dX10_init_31 : decode cX10_init 31 = .ok (.aload_n 0, 1) := by decide +kernel
theorem dX10_init_32 : decode cX10_init 32 = .ok (.bipush 120, 2) := by decide +kernel
theorem dX10_init_34 : decode cX10_init 34 = .ok (.newarray .int, 2) := by decide +kernel
theorem dX10_init_36 : decode cX10_init 36 = .ok (.putfield 19, 3) := by decide +kernel
theorem dX10_init_39 : decode cX10_init 39 = .ok (.aload_n 0, 1) := by decide +kernel
theorem dX10_init_40 : decode cX10_init 40 = .ok (.getfield 7, 3) := by decide +kernel
theorem dX10_init_43 : decode cX10_init 43 = .ok (.iconst 0, 1) := by decide +kernel
theorem dX10_init_44 : decode cX10_init 44 = .ok (.bipush 60, 2) := by decide +kernel
theorem dX10_init_46 : decode cX10_init 46 = .ok (.iastore, 1) := by decide +kernel
theorem dX10_init_47 : decode cX10_init 47 = .ok (.aload_n 0, 1) := by decide +kernel
theorem dX10_init_48 : decode cX10_init 48 = .ok (.getfield 7, 3) := by decide +kernel
theorem dX10_init_51 : decode cX10_init 51 = .ok (.iconst 1, 1) := by decide +kernel
theorem dX10_init_52 : decode cX10_init 52 = .ok (.iconst 4, 1) := by decide +kernel
theorem dX10_init_53 : decode cX10_init 53 = .ok (.iastore, 1) := by decide +kernel
theorem dX10_init_54 : decode cX10_init 54 = .ok (.aload_n 0, 1) := by decide +kernel
theorem dX10_init_55 : decode cX10_init 55 = .ok (.getfield 7, 3) := by decide +kernel
theorem dX10_init_58 : decode cX10_init 58 = .ok (.iconst 2, 1) := by decide +kernel
theorem dX10_init_59 : decode cX10_init 59 = .ok (.iconst 3, 1) := by decide +kernel
theorem dX10_init_60 : decode cX10_init 60 = .ok (.iastore, 1) := by decide +kernel
theorem dX10_init_61 : decode cX10_init 61 = .ok (.aload_n 0, 1) := by decide +kernel
theorem dX10_init_62 : decode cX10_init 62 = .ok (.getfield 7, 3) := by decide +kernel
theorem dX10_init_65 : decode cX10_init 65 = .ok (.iconst 4, 1) := by decide +kernel
theorem dX10_init_66 : decode cX10_init 66 = .ok (.iconst (-1), 1) := by decide +kernel
theorem dX10_init_67 : decode cX10_init 67 = .ok (.iastore, 1) := by decide +kernel
theorem dX10_init_68 : decode cX10_init 68 = .ok (.return_, 1) := by decide +kernel
theorem dX10_thrown_0 : decode cX10_thrown 0 = .ok (.aload_n 0, 1) := by decide +kernel
theorem dX10_thrown_1 : decode cX10_thrown 1 = .ok (.getfield 22, 3) := by decide +kernel
theorem dX10_thrown_4 : decode cX10_thrown 4 = .ok (.ireturn, 1) := by decide +kernel
theorem dX10_in_0 : decode cX10_in 0 = .ok (.lload_n 0, 1) := by decide +kernel
theorem dX10_in_1 : decode cX10_in 1 = .ok (.lload_n 2, 1) := by decide +kernel
theorem dX10_in_2 : decode cX10_in 2 = .ok (.lcmp, 1) := by decide +kernel
theorem dX10_in_3 : decode cX10_in 3 = .ok (.ifCond .lt 14, 3) := by decide +kernel
theorem dX10_in_6 : decode cX10_in 6 = .ok (.lload_n 0, 1) := by decide +kernel
theorem dX10_in_7 : decode cX10_in 7 = .ok (.lload 4, 2) := by decide +kernel
theorem dX10_in_9 : decode cX10_in 9 = .ok (.lcmp, 1) := by decide +kernel
theorem dX10_in_10 : decode cX10_in 10 = .ok (.ifCond .gt 7, 3) := by decide +kernel
theorem dX10_in_13 : decode cX10_in 13 = .ok (.iconst 1, 1) := by decide +kernel
theorem dX10_in_14 : decode cX10_in 14 = .ok (.goto 4, 3) := by decide +kernel
theorem dX10_in_17 : decode cX10_in 17 = .ok (.iconst 0, 1) := by decide +kernel
theorem dX10_in_18 : decode cX10_in 18 = .ok (.ireturn, 1) := by decide +kernel
theorem dX10_goes_0 : decode cX10_goes 0 = .ok (.aload_n 0, 1) := by decide +kernel
theorem dX10_goes_1 : decode cX10_goes 1 = .ok (.iload_n 1, 1) := by decide +kernel
theorem dX10_goes_2 : decode cX10_goes 2 = .ok (.ifCond .ne 7, 3) := by decide +kernel
theorem dX10_goes_5 : decode cX10_goes 5 = .ok (.iconst 1, 1) := by decide +kernel
theorem dX10_goes_6 : decode cX10_goes 6 = .ok (.goto 20, 3) := by decide +kernel
theorem dX10_goes_9 : decode cX10_goes 9 = .ok (.iload_n 2, 1) := by decide +kernel
theorem dX10_goes_10 : decode cX10_goes 10 = .ok (.ifCond .ne 7, 3) := by decide +kernel
theorem dX10_goes_13 : decode cX10_goes 13 = .ok (.iconst 2, 1) := by decide +kernel
theorem dX10_goes_14 : decode cX10_goes 14 = .ok (.goto 12, 3) := by decide +kernel
theorem dX10_goes_17 : decode cX10_goes 17 = .ok (.iload_n 3, 1) := by decide +kernel
theorem dX10_goes_18 : decode cX10_goes 18 = .ok (.ifCond .ne 7, 3) := by decide +kernel
theorem dX10_goes_21 : decode cX10_goes 21 = .ok (.iconst 3, 1) := by decide +kernel
theorem dX10_goes_22 : decode cX10_goes 22 = .ok (.goto 4, 3) := by decide +kernel
theorem dX10_goes_25 : decode cX10_goes 25 = .ok (.iconst 0, 1) := by decide +kernel
theorem dX10_goes_26 : decode cX10_goes 26 = .ok (.putfield 22, 3) := by decide +kernel
theorem dX10_goes_29 : decode cX10_goes 29 = .ok (.aload_n 0, 1) := by decide +kernel
theorem dX10_goes_30 : decode cX10_goes 30 = .ok (.getfield 22, 3) := by decide +kernel
theorem dX10_goes_33 : decode cX10_goes 33 = .ok (.ifCond .ne 7, 3) := by decide +kernel
theorem dX10_goes_36 : decode cX10_goes 36 = .ok (.iconst 1, 1) := by decide +kernel
theorem dX10_goes_37 : decode cX10_goes 37 = .ok (.goto 4, 3) := by decide +kernel
theorem dX10_goes_40 : decode cX10_goes 40 = .ok (.iconst 0, 1) := by decide +kernel
theorem dX10_goes_41 : decode cX10_goes 41 = .ok (.ireturn, 1) := by decide +kernel
theorem dX10_save_0 : decode cX10_save 0 = .ok (.aload_n 0, 1) := by decide +kernel
theorem dX10_save_1 : decode cX10_save 1 = .ok (.getfield 26, 3) := by decide +kernel
theorem dX10_save_4 : decode cX10_save 4 = .ok (.iconst 4, 1) := by decide +kernel
theorem dX10_save_5 : decode cX10_save 5 = .ok (.if_icmp .ne 44, 3) := by decide +kernel
theorem dX10_save_8 : decode cX10_save 8 = .ok (.iconst 0, 1) := by decide +kernel
theorem dX10_save_9 : decode cX10_save 9 = .ok (.istore_n 1, 1) := by decide +kernel
theorem dX10_save_10 : decode cX10_save 10 = .ok (.iload_n 1, 1) := by decide +kernel
theorem dX10_save_11 : decode cX10_save 11 = .ok (.sipush 2826, 3) := by decide +kernel
theorem dX10_save_14 : decode cX10_save 14 = .ok (.if_icmp .ge 25, 3) := by decide +kernel
theorem dX10_save_17 : decode cX10_save 17 = .ok (.aload_n 0, 1) := by decide +kernel
theorem dX10_save_18 : decode cX10_save 18 = .ok (.getfield 13, 3) := by decide +kernel
theorem dX10_save_21 : decode cX10_save 21 = .ok (.iload_n 1, 1) := by decide +kernel
theorem dX10_save_22 : decode cX10_save 22 = .ok (.aload_n 0, 1) := by decide +kernel
theorem dX10_save_23 : decode cX10_save 23 = .ok (.getfield 13, 3) := by decide +kernel
theorem dX10_save_26 : decode cX10_save 26 = .ok (.iload_n 1, 1) := by decide +kernel
theorem dX10_save_27 : decode cX10_save 27 = .ok (.sipush 942, 3) := by decide +kernel
theorem dX10_save_30 : decode cX10_save 30 = .ok (.iadd, 1) := by decide +kernel
theorem dX10_save_31 : decode cX10_save 31 = .ok (.iaload, 1) := by decide +kernel
theorem dX10_save_32 : decode cX10_save 32 = .ok (.iastore, 1) := by decide +kernel
theorem dX10_save_33 : decode cX10_save 33 = .ok (.iinc 1 1, 3) := by decide +kernel
theorem dX10_save_36 : decode cX10_save 36 = .ok (.goto (-26), 3) := by decide +kernel
theorem dX10_save_39 : decode cX10_save 39 = .ok (.aload_n 0, 1) := by decide +kernel
theorem dX10_save_40 : decode cX10_save 40 = .ok (.dup, 1) := by decide +kernel
theorem dX10_save_41 : decode cX10_save 41 = .ok (.getfield 26, 3) := by decide +kernel
theorem dX10_save_44 : decode cX10_save 44 = .ok (.iconst 1, 1) := by decide +kernel
theorem dX10_save_45 : decode cX10_save 45 = .ok (.isub, 1) := by decide +kernel
theorem dX10_save_46 : decode cX10_save 46 = .ok (.putfield 26, 3) := by decide +kernel
theorem dX10_save_49 : decode cX10_save 49 = .ok (.iconst 0, 1) := by decide +kernel
theorem dX10_save_50 : decode cX10_save 50 = .ok (.istore_n 1, 1) := by decide +kernel
theorem dX10_save_51 : decode cX10_save 51 = .ok (.iload_n 1, 1) := by decide +kernel
theorem dX10_save_52 : decode cX10_save 52 = .ok (.sipush 942, 3) := by decide +kernel
theorem dX10_save_55 : decode cX10_save 55 = .ok (.if_icmp .ge 30, 3) := by decide +kernel
theorem dX10_save_58 : decode cX10_save 58 = .ok (.aload_n 0, 1) := by decide +kernel
theorem dX10_save_59 : decode cX10_save 59 = .ok (.getfield 13, 3) := by decide +kernel
theorem dX10_save_62 : decode cX10_save 62 = .ok (.sipush 942, 3) := by decide +kernel
theorem dX10_save_65 : decode cX10_save 65 = .ok (.aload_n 0, 1) := by decide +kernel
theorem dX10_save_66 : decode cX10_save 66 = .ok (.getfield 26, 3) := by decide +kernel
theorem dX10_save_69 : decode cX10_save 69 = .ok (.imul, 1) := by decide +kernel
theorem dX10_save_70 : decode cX10_save 70 = .ok (.iload_n 1, 1) := by decide +kernel
theorem dX10_save_71 : decode cX10_save 71 = .ok (.iadd, 1) := by decide +kernel
theorem dX10_save_72 : decode cX10_save 72 = .ok (.aload_n 0, 1) := by decide +kernel
theorem dX10_save_73 : decode cX10_save 73 = .ok (.getfield 7, 3) := by decide +kernel
theorem dX10_save_76 : decode cX10_save 76 = .ok (.iload_n 1, 1) := by decide +kernel
theorem dX10_save_77 : decode cX10_save 77 = .ok (.iaload, 1) := by decide +kernel
theorem dX10_save_78 : decode cX10_save 78 = .ok (.iastore, 1) := by decide +kernel
theorem dX10_save_79 : decode cX10_save 79 = .ok (.iinc 1 1, 3) := by decide +kernel
theorem dX10_save_82 : decode cX10_save 82 = .ok (.goto (-31), 3) := by decide +kernel
theorem dX10_save_85 : decode cX10_save 85 = .ok (.aload_n 0, 1) := by decide +kernel
theorem dX10_save_86 : decode cX10_save 86 = .ok (.dup, 1) := by decide +kernel
theorem dX10_save_87 : decode cX10_save 87 = .ok (.getfield 26, 3) := by decide +kernel
theorem dX10_save_90 : decode cX10_save 90 = .ok (.iconst 1, 1) := by decide +kernel
theorem dX10_save_91 : decode cX10_save 91 = .ok (.iadd, 1) := by decide +kernel
theorem dX10_save_92 : decode cX10_save 92 = .ok (.putfield 26, 3) := by decide +kernel
theorem dX10_save_95 : decode cX10_save 95 = .ok (.return_, 1) := by decide +kernel
theorem dX10_lays_0 : decode cX10_lays 0 = .ok (.iconst 0, 1) := by decide +kernel
theorem dX10_lays_1 : decode cX10_lays 1 = .ok (.istore_n 1, 1) := by decide +kernel
theorem dX10_lays_2 : decode cX10_lays 2 = .ok (.iload_n 1, 1) := by decide +kernel
theorem dX10_lays_3 : decode cX10_lays 3 = .ok (.sipush 942, 3) := by decide +kernel
theorem dX10_lays_6 : decode cX10_lays 6 = .ok (.if_icmp .ge 21, 3) := by decide +kernel
theorem dX10_lays_9 : decode cX10_lays 9 = .ok (.aload_n 0, 1) := by decide +kernel
theorem dX10_lays_10 : decode cX10_lays 10 = .ok (.getfield 16, 3) := by decide +kernel
theorem dX10_lays_13 : decode cX10_lays 13 = .ok (.iload_n 1, 1) := by decide +kernel
theorem dX10_lays_14 : decode cX10_lays 14 = .ok (.aload_n 0, 1) := by decide +kernel
theorem dX10_lays_15 : decode cX10_lays 15 = .ok (.getfield 7, 3) := by decide +kernel
theorem dX10_lays_18 : decode cX10_lays 18 = .ok (.iload_n 1, 1) := by decide +kernel
theorem dX10_lays_19 : decode cX10_lays 19 = .ok (.iaload, 1) := by decide +kernel
theorem dX10_lays_20 : decode cX10_lays 20 = .ok (.iastore, 1) := by decide +kernel
theorem dX10_lays_21 : decode cX10_lays 21 = .ok (.iinc 1 1, 3) := by decide +kernel
theorem dX10_lays_24 : decode cX10_lays 24 = .ok (.goto (-22), 3) := by decide +kernel
theorem dX10_lays_27 : decode cX10_lays 27 = .ok (.return_, 1) := by decide +kernel
theorem dX10_takesBack_0 : decode cX10_takesBack 0 = .ok (.iconst 0, 1) := by decide +kernel
theorem dX10_takesBack_1 : decode cX10_takesBack 1 = .ok (.istore_n 1, 1) := by decide +kernel
theorem dX10_takesBack_2 : decode cX10_takesBack 2 = .ok (.iload_n 1, 1) := by decide +kernel
theorem dX10_takesBack_3 : decode cX10_takesBack 3 = .ok (.sipush 942, 3) := by decide +kernel
theorem dX10_takesBack_6 : decode cX10_takesBack 6 = .ok (.if_icmp .ge 21, 3) := by decide +kernel
theorem dX10_takesBack_9 : decode cX10_takesBack 9 = .ok (.aload_n 0, 1) := by decide +kernel
theorem dX10_takesBack_10 : decode cX10_takesBack 10 = .ok (.getfield 7, 3) := by decide +kernel
theorem dX10_takesBack_13 : decode cX10_takesBack 13 = .ok (.iload_n 1, 1) := by decide +kernel
theorem dX10_takesBack_14 : decode cX10_takesBack 14 = .ok (.aload_n 0, 1) := by decide +kernel
theorem dX10_takesBack_15 : decode cX10_takesBack 15 = .ok (.getfield 16, 3) := by decide +kernel
theorem dX10_takesBack_18 : decode cX10_takesBack 18 = .ok (.iload_n 1, 1) := by decide +kernel
theorem dX10_takesBack_19 : decode cX10_takesBack 19 = .ok (.iaload, 1) := by decide +kernel
theorem dX10_takesBack_20 : decode cX10_takesBack 20 = .ok (.iastore, 1) := by decide +kernel
theorem dX10_takesBack_21 : decode cX10_takesBack 21 = .ok (.iinc 1 1, 3) := by decide +kernel
theorem dX10_takesBack_24 : decode cX10_takesBack 24 = .ok (.goto (-22), 3) := by decide +kernel
theorem dX10_takesBack_27 : decode cX10_takesBack 27 = .ok (.return_, 1) := by decide +kernel
theorem dX10_at_0 : decode cX10_at 0 = .ok (.bipush 18, 2) := by decide +kernel
theorem dX10_at_2 : decode cX10_at 2 = .ok (.bipush 7, 2) := by decide +kernel
theorem dX10_at_4 : decode cX10_at 4 = .ok (.iload_n 0, 1) := by decide +kernel
theorem dX10_at_5 : decode cX10_at 5 = .ok (.imul, 1) := by decide +kernel
theorem dX10_at_6 : decode cX10_at 6 = .ok (.iadd, 1) := by decide +kernel
theorem dX10_at_7 : decode cX10_at 7 = .ok (.iload_n 1, 1) := by decide +kernel
theorem dX10_at_8 : decode cX10_at 8 = .ok (.iadd, 1) := by decide +kernel
theorem dX10_at_9 : decode cX10_at 9 = .ok (.ireturn, 1) := by decide +kernel
theorem dX10_of_0 : decode cX10_of 0 = .ok (.aload_n 0, 1) := by decide +kernel
theorem dX10_of_1 : decode cX10_of 1 = .ok (.getfield 7, 3) := by decide +kernel
theorem dX10_of_4 : decode cX10_of 4 = .ok (.iload_n 1, 1) := by decide +kernel
theorem dX10_of_5 : decode cX10_of 5 = .ok (.iload_n 2, 1) := by decide +kernel
theorem dX10_of_6 : decode cX10_of 6 = .ok (.invokestatic 29, 3) := by decide +kernel
theorem dX10_of_9 : decode cX10_of 9 = .ok (.iaload, 1) := by decide +kernel
theorem dX10_of_10 : decode cX10_of 10 = .ok (.ireturn, 1) := by decide +kernel
theorem dX10_isStation_0 : decode cX10_isStation 0 = .ok (.iload_n 1, 1) := by decide +kernel
theorem dX10_isStation_1 : decode cX10_isStation 1 = .ok (.i2l, 1) := by decide +kernel
theorem dX10_isStation_2 : decode cX10_isStation 2 = .ok (.lconst 0, 1) := by decide +kernel
theorem dX10_isStation_3 : decode cX10_isStation 3 = .ok (.ldc2_w 33, 3) := by decide +kernel
theorem dX10_isStation_6 : decode cX10_isStation 6 = .ok (.invokestatic 35, 3) := by decide +kernel
theorem dX10_isStation_9 : decode cX10_isStation 9 = .ok (.ifCond .eq 17, 3) := by decide +kernel
theorem dX10_isStation_12 : decode cX10_isStation 12 = .ok (.aload_n 0, 1) := by decide +kernel
theorem dX10_isStation_13 : decode cX10_isStation 13 = .ok (.iload_n 1, 1) := by decide +kernel
theorem dX10_isStation_14 : decode cX10_isStation 14 = .ok (.iconst 0, 1) := by decide +kernel
theorem dX10_isStation_15 : decode cX10_isStation 15 = .ok (.invokevirtual 39, 3) := by decide +kernel
theorem dX10_isStation_18 : decode cX10_isStation 18 = .ok (.iconst 1, 1) := by decide +kernel
theorem dX10_isStation_19 : decode cX10_isStation 19 = .ok (.if_icmp .ne 7, 3) := by decide +kernel
theorem dX10_isStation_22 : decode cX10_isStation 22 = .ok (.iconst 1, 1) := by decide +kernel
theorem dX10_isStation_23 : decode cX10_isStation 23 = .ok (.goto 4, 3) := by decide +kernel
theorem dX10_isStation_26 : decode cX10_isStation 26 = .ok (.iconst 0, 1) := by decide +kernel
theorem dX10_isStation_27 : decode cX10_isStation 27 = .ok (.ireturn, 1) := by decide +kernel
theorem dX10_isInRing_0 : decode cX10_isInRing 0 = .ok (.aload_n 0, 1) := by decide +kernel
theorem dX10_isInRing_1 : decode cX10_isInRing 1 = .ok (.iload_n 1, 1) := by decide +kernel
theorem dX10_isInRing_2 : decode cX10_isInRing 2 = .ok (.iconst 0, 1) := by decide +kernel
theorem dX10_isInRing_3 : decode cX10_isInRing 3 = .ok (.invokevirtual 39, 3) := by decide +kernel
theorem dX10_isInRing_6 : decode cX10_isInRing 6 = .ok (.iconst 1, 1) := by decide +kernel
theorem dX10_isInRing_7 : decode cX10_isInRing 7 = .ok (.if_icmp .ne 27, 3) := by decide +kernel
theorem dX10_isInRing_10 : decode cX10_isInRing 10 = .ok (.aload_n 0, 1) := by decide +kernel
theorem dX10_isInRing_11 : decode cX10_isInRing 11 = .ok (.iload_n 1, 1) := by decide +kernel
theorem dX10_isInRing_12 : decode cX10_isInRing 12 = .ok (.iconst 1, 1) := by decide +kernel
theorem dX10_isInRing_13 : decode cX10_isInRing 13 = .ok (.invokevirtual 39, 3) := by decide +kernel
theorem dX10_isInRing_16 : decode cX10_isInRing 16 = .ok (.iconst 1, 1) := by decide +kernel
theorem dX10_isInRing_17 : decode cX10_isInRing 17 = .ok (.if_icmp .ne 17, 3) := by decide +kernel
theorem dX10_isInRing_20 : decode cX10_isInRing 20 = .ok (.aload_n 0, 1) := by decide +kernel
theorem dX10_isInRing_21 : decode cX10_isInRing 21 = .ok (.iload_n 1, 1) := by decide +kernel
theorem dX10_isInRing_22 : decode cX10_isInRing 22 = .ok (.iconst 2, 1) := by decide +kernel
theorem dX10_isInRing_23 : decode cX10_isInRing 23 = .ok (.invokevirtual 39, 3) := by decide +kernel
theorem dX10_isInRing_26 : decode cX10_isInRing 26 = .ok (.iconst 1, 1) := by decide +kernel
theorem dX10_isInRing_27 : decode cX10_isInRing 27 = .ok (.if_icmp .ne 7, 3) := by decide +kernel
theorem dX10_isInRing_30 : decode cX10_isInRing 30 = .ok (.iconst 1, 1) := by decide +kernel
theorem dX10_isInRing_31 : decode cX10_isInRing 31 = .ok (.goto 4, 3) := by decide +kernel
theorem dX10_isInRing_34 : decode cX10_isInRing 34 = .ok (.iconst 0, 1) := by decide +kernel
theorem dX10_isInRing_35 : decode cX10_isInRing 35 = .ok (.ireturn, 1) := by decide +kernel
theorem dX10_inMessage_0 : decode cX10_inMessage 0 = .ok (.sipush 242, 3) := by decide +kernel
theorem dX10_inMessage_3 : decode cX10_inMessage 3 = .ok (.iconst 5, 1) := by decide +kernel
theorem dX10_inMessage_4 : decode cX10_inMessage 4 = .ok (.iload_n 0, 1) := by decide +kernel
theorem dX10_inMessage_5 : decode cX10_inMessage 5 = .ok (.imul, 1) := by decide +kernel
theorem dX10_inMessage_6 : decode cX10_inMessage 6 = .ok (.iadd, 1) := by decide +kernel
theorem dX10_inMessage_7 : decode cX10_inMessage 7 = .ok (.iload_n 1, 1) := by decide +kernel
theorem dX10_inMessage_8 : decode cX10_inMessage 8 = .ok (.iadd, 1) := by decide +kernel
theorem dX10_inMessage_9 : decode cX10_inMessage 9 = .ok (.ireturn, 1) := by decide +kernel
theorem dX10_ofMessage_0 : decode cX10_ofMessage 0 = .ok (.aload_n 0, 1) := by decide +kernel
theorem dX10_ofMessage_1 : decode cX10_ofMessage 1 = .ok (.getfield 7, 3) := by decide +kernel
theorem dX10_ofMessage_4 : decode cX10_ofMessage 4 = .ok (.iload_n 1, 1) := by decide +kernel
theorem dX10_ofMessage_5 : decode cX10_ofMessage 5 = .ok (.iload_n 2, 1) := by decide +kernel
theorem dX10_ofMessage_6 : decode cX10_ofMessage 6 = .ok (.invokestatic 42, 3) := by decide +kernel
theorem dX10_ofMessage_9 : decode cX10_ofMessage 9 = .ok (.iaload, 1) := by decide +kernel
theorem dX10_ofMessage_10 : decode cX10_ofMessage 10 = .ok (.ireturn, 1) := by decide +kernel
theorem dX10_stations_0 : decode cX10_stations 0 = .ok (.iconst 0, 1) := by decide +kernel
theorem dX10_stations_1 : decode cX10_stations 1 = .ok (.istore_n 1, 1) := by decide +kernel
theorem dX10_stations_2 : decode cX10_stations 2 = .ok (.iconst 0, 1) := by decide +kernel
theorem dX10_stations_3 : decode cX10_stations 3 = .ok (.istore_n 2, 1) := by decide +kernel
theorem dX10_stations_4 : decode cX10_stations 4 = .ok (.iload_n 2, 1) := by decide +kernel
theorem dX10_stations_5 : decode cX10_stations 5 = .ok (.bipush 32, 2) := by decide +kernel
theorem dX10_stations_7 : decode cX10_stations 7 = .ok (.if_icmp .ge 18, 3) := by decide +kernel
theorem dX10_stations_10 : decode cX10_stations 10 = .ok (.iload_n 1, 1) := by decide +kernel
theorem dX10_stations_11 : decode cX10_stations 11 = .ok (.aload_n 0, 1) := by decide +kernel
theorem dX10_stations_12 : decode cX10_stations 12 = .ok (.iload_n 2, 1) := by decide +kernel
theorem dX10_stations_13 : decode cX10_stations 13 = .ok (.iconst 0, 1) := by decide +kernel
theorem dX10_stations_14 : decode cX10_stations 14 = .ok (.invokevirtual 39, 3) := by decide +kernel
theorem dX10_stations_17 : decode cX10_stations 17 = .ok (.iadd, 1) := by decide +kernel
theorem dX10_stations_18 : decode cX10_stations 18 = .ok (.istore_n 1, 1) := by decide +kernel
theorem dX10_stations_19 : decode cX10_stations 19 = .ok (.iinc 2 1, 3) := by decide +kernel
theorem dX10_stations_22 : decode cX10_stations 22 = .ok (.goto (-18), 3) := by decide +kernel
theorem dX10_stations_25 : decode cX10_stations 25 = .ok (.iload_n 1, 1) := by decide +kernel
theorem dX10_stations_26 : decode cX10_stations 26 = .ok (.ireturn, 1) := by decide +kernel
theorem dX10_adds_0 : decode cX10_adds 0 = .ok (.aload_n 0, 1) := by decide +kernel
theorem dX10_adds_1 : decode cX10_adds 1 = .ok (.getfield 7, 3) := by decide +kernel
theorem dX10_adds_4 : decode cX10_adds 4 = .ok (.iload_n 1, 1) := by decide +kernel
theorem dX10_adds_5 : decode cX10_adds 5 = .ok (.iconst 0, 1) := by decide +kernel
theorem dX10_adds_6 : decode cX10_adds 6 = .ok (.invokestatic 29, 3) := by decide +kernel
theorem dX10_adds_9 : decode cX10_adds 9 = .ok (.iconst 1, 1) := by decide +kernel
theorem dX10_adds_10 : decode cX10_adds 10 = .ok (.iastore, 1) := by decide +kernel
theorem dX10_adds_11 : decode cX10_adds 11 = .ok (.aload_n 0, 1) := by decide +kernel
theorem dX10_adds_12 : decode cX10_adds 12 = .ok (.getfield 7, 3) := by decide +kernel
theorem dX10_adds_15 : decode cX10_adds 15 = .ok (.iload_n 1, 1) := by decide +kernel
theorem dX10_adds_16 : decode cX10_adds 16 = .ok (.iconst 1, 1) := by decide +kernel
theorem dX10_adds_17 : decode cX10_adds 17 = .ok (.invokestatic 29, 3) := by decide +kernel
theorem dX10_adds_20 : decode cX10_adds 20 = .ok (.iconst 1, 1) := by decide +kernel
theorem dX10_adds_21 : decode cX10_adds 21 = .ok (.iastore, 1) := by decide +kernel
theorem dX10_adds_22 : decode cX10_adds 22 = .ok (.aload_n 0, 1) := by decide +kernel
theorem dX10_adds_23 : decode cX10_adds 23 = .ok (.getfield 7, 3) := by decide +kernel
theorem dX10_adds_26 : decode cX10_adds 26 = .ok (.iload_n 1, 1) := by decide +kernel
theorem dX10_adds_27 : decode cX10_adds 27 = .ok (.iconst 2, 1) := by decide +kernel
theorem dX10_adds_28 : decode cX10_adds 28 = .ok (.invokestatic 29, 3) := by decide +kernel
theorem dX10_adds_31 : decode cX10_adds 31 = .ok (.iconst 0, 1) := by decide +kernel
theorem dX10_adds_32 : decode cX10_adds 32 = .ok (.iastore, 1) := by decide +kernel
theorem dX10_adds_33 : decode cX10_adds 33 = .ok (.aload_n 0, 1) := by decide +kernel
theorem dX10_adds_34 : decode cX10_adds 34 = .ok (.getfield 7, 3) := by decide +kernel
theorem dX10_adds_37 : decode cX10_adds 37 = .ok (.iload_n 1, 1) := by decide +kernel
theorem dX10_adds_38 : decode cX10_adds 38 = .ok (.iconst 3, 1) := by decide +kernel
theorem dX10_adds_39 : decode cX10_adds 39 = .ok (.invokestatic 29, 3) := by decide +kernel
theorem dX10_adds_42 : decode cX10_adds 42 = .ok (.iload_n 1, 1) := by decide +kernel
theorem dX10_adds_43 : decode cX10_adds 43 = .ok (.iastore, 1) := by decide +kernel
theorem dX10_adds_44 : decode cX10_adds 44 = .ok (.aload_n 0, 1) := by decide +kernel
theorem dX10_adds_45 : decode cX10_adds 45 = .ok (.getfield 7, 3) := by decide +kernel
theorem dX10_adds_48 : decode cX10_adds 48 = .ok (.iload_n 1, 1) := by decide +kernel
theorem dX10_adds_49 : decode cX10_adds 49 = .ok (.iconst 4, 1) := by decide +kernel
theorem dX10_adds_50 : decode cX10_adds 50 = .ok (.invokestatic 29, 3) := by decide +kernel
theorem dX10_adds_53 : decode cX10_adds 53 = .ok (.iload_n 1, 1) := by decide +kernel
theorem dX10_adds_54 : decode cX10_adds 54 = .ok (.iastore, 1) := by decide +kernel
theorem dX10_adds_55 : decode cX10_adds 55 = .ok (.aload_n 0, 1) := by decide +kernel
theorem dX10_adds_56 : decode cX10_adds 56 = .ok (.getfield 7, 3) := by decide +kernel
theorem dX10_adds_59 : decode cX10_adds 59 = .ok (.iload_n 1, 1) := by decide +kernel
theorem dX10_adds_60 : decode cX10_adds 60 = .ok (.iconst 5, 1) := by decide +kernel
theorem dX10_adds_61 : decode cX10_adds 61 = .ok (.invokestatic 29, 3) := by decide +kernel
theorem dX10_adds_64 : decode cX10_adds 64 = .ok (.iconst 0, 1) := by decide +kernel
theorem dX10_adds_65 : decode cX10_adds 65 = .ok (.iastore, 1) := by decide +kernel
theorem dX10_adds_66 : decode cX10_adds 66 = .ok (.aload_n 0, 1) := by decide +kernel
theorem dX10_adds_67 : decode cX10_adds 67 = .ok (.getfield 7, 3) := by decide +kernel
theorem dX10_adds_70 : decode cX10_adds 70 = .ok (.iload_n 1, 1) := by decide +kernel
theorem dX10_adds_71 : decode cX10_adds 71 = .ok (.bipush 6, 2) := by decide +kernel
theorem dX10_adds_73 : decode cX10_adds 73 = .ok (.invokestatic 29, 3) := by decide +kernel
theorem dX10_adds_76 : decode cX10_adds 76 = .ok (.iconst (-1), 1) := by decide +kernel
theorem dX10_adds_77 : decode cX10_adds 77 = .ok (.iastore, 1) := by decide +kernel
theorem dX10_adds_78 : decode cX10_adds 78 = .ok (.return_, 1) := by decide +kernel
theorem dX10_addStation_0 : decode cX10_addStation 0 = .ok (.iload_n 1, 1) := by decide +kernel
theorem dX10_addStation_1 : decode cX10_addStation 1 = .ok (.i2l, 1) := by decide +kernel
theorem dX10_addStation_2 : decode cX10_addStation 2 = .ok (.lconst 0, 1) := by decide +kernel
theorem dX10_addStation_3 : decode cX10_addStation 3 = .ok (.ldc2_w 33, 3) := by decide +kernel
theorem dX10_addStation_6 : decode cX10_addStation 6 = .ok (.invokestatic 35, 3) := by decide +kernel
theorem dX10_addStation_9 : decode cX10_addStation 9 = .ok (.istore_n 2, 1) := by decide +kernel
theorem dX10_addStation_10 : decode cX10_addStation 10 = .ok (.aload_n 0, 1) := by decide +kernel
theorem dX10_addStation_11 : decode cX10_addStation 11 = .ok (.iload_n 2, 1) := by decide +kernel
theorem dX10_addStation_12 : decode cX10_addStation 12 = .ok (.iload_n 2, 1) := by decide +kernel
theorem dX10_addStation_13 : decode cX10_addStation 13 = .ok (.ifCond .eq 24, 3) := by decide +kernel
theorem dX10_addStation_16 : decode cX10_addStation 16 = .ok (.aload_n 0, 1) := by decide +kernel
theorem dX10_addStation_17 : decode cX10_addStation 17 = .ok (.iload_n 1, 1) := by decide +kernel
theorem dX10_addStation_18 : decode cX10_addStation 18 = .ok (.invokevirtual 45, 3) := by decide +kernel
theorem dX10_addStation_21 : decode cX10_addStation 21 = .ok (.ifCond .ne 16, 3) := by decide +kernel
theorem dX10_addStation_24 : decode cX10_addStation 24 = .ok (.aload_n 0, 1) := by decide +kernel
theorem dX10_addStation_25 : decode cX10_addStation 25 = .ok (.invokevirtual 49, 3) := by decide +kernel
theorem dX10_addStation_28 : decode cX10_addStation 28 = .ok (.bipush 8, 2) := by decide +kernel
theorem dX10_addStation_30 : decode cX10_addStation 30 = .ok (.if_icmp .ge 7, 3) := by decide +kernel
theorem dX10_addStation_33 : decode cX10_addStation 33 = .ok (.iconst 1, 1) := by decide +kernel
theorem dX10_addStation_34 : decode cX10_addStation 34 = .ok (.goto 4, 3) := by decide +kernel
theorem dX10_addStation_37 : decode cX10_addStation 37 = .ok (.iconst 0, 1) := by decide +kernel
theorem dX10_addStation_38 : decode cX10_addStation 38 = .ok (.iconst 1, 1) := by decide +kernel
theorem dX10_addStation_39 : decode cX10_addStation 39 = .ok (.invokevirtual 53, 3) := by decide +kernel
theorem dX10_addStation_42 : decode cX10_addStation 42 = .ok (.ifCond .ne 5, 3) := by decide +kernel
theorem dX10_addStation_45 : decode cX10_addStation 45 = .ok (.iconst 0, 1) := by decide +kernel
theorem dX10_addStation_46 : decode cX10_addStation 46 = .ok (.ireturn, 1) := by decide +kernel
theorem dX10_addStation_47 : decode cX10_addStation 47 = .ok (.aload_n 0, 1) := by decide +kernel
theorem dX10_addStation_48 : decode cX10_addStation 48 = .ok (.invokevirtual 57, 3) := by decide +kernel
theorem dX10_addStation_51 : decode cX10_addStation 51 = .ok (.aload_n 0, 1) := by decide +kernel
theorem dX10_addStation_52 : decode cX10_addStation 52 = .ok (.iload_n 1, 1) := by decide +kernel
theorem dX10_addStation_53 : decode cX10_addStation 53 = .ok (.invokevirtual 60, 3) := by decide +kernel
theorem dX10_addStation_56 : decode cX10_addStation 56 = .ok (.aload_n 0, 1) := by decide +kernel
theorem dX10_addStation_57 : decode cX10_addStation 57 = .ok (.invokevirtual 49, 3) := by decide +kernel
theorem dX10_addStation_60 : decode cX10_addStation 60 = .ok (.ireturn, 1) := by decide +kernel
theorem dX10_setOn_0 : decode cX10_setOn 0 = .ok (.aload_n 0, 1) := by decide +kernel
theorem dX10_setOn_1 : decode cX10_setOn 1 = .ok (.aload_n 0, 1) := by decide +kernel
theorem dX10_setOn_2 : decode cX10_setOn 2 = .ok (.iload_n 1, 1) := by decide +kernel
theorem dX10_setOn_3 : decode cX10_setOn 3 = .ok (.invokevirtual 45, 3) := by decide +kernel
theorem dX10_setOn_6 : decode cX10_setOn 6 = .ok (.iconst 1, 1) := by decide +kernel
theorem dX10_setOn_7 : decode cX10_setOn 7 = .ok (.iconst 1, 1) := by decide +kernel
theorem dX10_setOn_8 : decode cX10_setOn 8 = .ok (.invokevirtual 53, 3) := by decide +kernel
theorem dX10_setOn_11 : decode cX10_setOn 11 = .ok (.ifCond .ne 5, 3) := by decide +kernel
theorem dX10_setOn_14 : decode cX10_setOn 14 = .ok (.iconst 0, 1) := by decide +kernel
theorem dX10_setOn_15 : decode cX10_setOn 15 = .ok (.ireturn, 1) := by decide +kernel
theorem dX10_setOn_16 : decode cX10_setOn 16 = .ok (.aload_n 0, 1) := by decide +kernel
theorem dX10_setOn_17 : decode cX10_setOn 17 = .ok (.invokevirtual 57, 3) := by decide +kernel
theorem dX10_setOn_20 : decode cX10_setOn 20 = .ok (.aload_n 0, 1) := by decide +kernel
theorem dX10_setOn_21 : decode cX10_setOn 21 = .ok (.iload_n 1, 1) := by decide +kernel
theorem dX10_setOn_22 : decode cX10_setOn 22 = .ok (.iconst 1, 1) := by decide +kernel
theorem dX10_setOn_23 : decode cX10_setOn 23 = .ok (.invokevirtual 39, 3) := by decide +kernel
theorem dX10_setOn_26 : decode cX10_setOn 26 = .ok (.iconst 1, 1) := by decide +kernel
theorem dX10_setOn_27 : decode cX10_setOn 27 = .ok (.if_icmp .ne 7, 3) := by decide +kernel
theorem dX10_setOn_30 : decode cX10_setOn 30 = .ok (.iconst 1, 1) := by decide +kernel
theorem dX10_setOn_31 : decode cX10_setOn 31 = .ok (.goto 4, 3) := by decide +kernel
theorem dX10_setOn_34 : decode cX10_setOn 34 = .ok (.iconst 0, 1) := by decide +kernel
theorem dX10_setOn_35 : decode cX10_setOn 35 = .ok (.istore_n 3, 1) := by decide +kernel
theorem dX10_setOn_36 : decode cX10_setOn 36 = .ok (.iload_n 3, 1) := by decide +kernel
theorem dX10_setOn_37 : decode cX10_setOn 37 = .ok (.ifCond .eq 55, 3) := by decide +kernel
theorem dX10_setOn_40 : decode cX10_setOn 40 = .ok (.iload_n 2, 1) := by decide +kernel
theorem dX10_setOn_41 : decode cX10_setOn 41 = .ok (.ifCond .ne 51, 3) := by decide +kernel
theorem dX10_setOn_44 : decode cX10_setOn 44 = .ok (.aload_n 0, 1) := by decide +kernel
theorem dX10_setOn_45 : decode cX10_setOn 45 = .ok (.getfield 7, 3) := by decide +kernel
theorem dX10_setOn_48 : decode cX10_setOn 48 = .ok (.iload_n 1, 1) := by decide +kernel
theorem dX10_setOn_49 : decode cX10_setOn 49 = .ok (.iconst 1, 1) := by decide +kernel
theorem dX10_setOn_50 : decode cX10_setOn 50 = .ok (.invokestatic 29, 3) := by decide +kernel
theorem dX10_setOn_53 : decode cX10_setOn 53 = .ok (.iconst 0, 1) := by decide +kernel
theorem dX10_setOn_54 : decode cX10_setOn 54 = .ok (.iastore, 1) := by decide +kernel
theorem dX10_setOn_55 : decode cX10_setOn 55 = .ok (.aload_n 0, 1) := by decide +kernel
theorem dX10_setOn_56 : decode cX10_setOn 56 = .ok (.getfield 7, 3) := by decide +kernel
theorem dX10_setOn_59 : decode cX10_setOn 59 = .ok (.iload_n 1, 1) := by decide +kernel
theorem dX10_setOn_60 : decode cX10_setOn 60 = .ok (.iconst 2, 1) := by decide +kernel
theorem dX10_setOn_61 : decode cX10_setOn 61 = .ok (.invokestatic 29, 3) := by decide +kernel
theorem dX10_setOn_64 : decode cX10_setOn 64 = .ok (.iconst 0, 1) := by decide +kernel
theorem dX10_setOn_65 : decode cX10_setOn 65 = .ok (.iastore, 1) := by decide +kernel
theorem dX10_setOn_66 : decode cX10_setOn 66 = .ok (.aload_n 0, 1) := by decide +kernel
theorem dX10_setOn_67 : decode cX10_setOn 67 = .ok (.getfield 7, 3) := by decide +kernel
theorem dX10_setOn_70 : decode cX10_setOn 70 = .ok (.iconst 4, 1) := by decide +kernel
theorem dX10_setOn_71 : decode cX10_setOn 71 = .ok (.aload_n 0, 1) := by decide +kernel
theorem dX10_setOn_72 : decode cX10_setOn 72 = .ok (.getfield 7, 3) := by decide +kernel
theorem dX10_setOn_75 : decode cX10_setOn 75 = .ok (.iconst 4, 1) := by decide +kernel
theorem dX10_setOn_76 : decode cX10_setOn 76 = .ok (.iaload, 1) := by decide +kernel
theorem dX10_setOn_77 : decode cX10_setOn 77 = .ok (.iload_n 1, 1) := by decide +kernel
theorem dX10_setOn_78 : decode cX10_setOn 78 = .ok (.if_icmp .ne 7, 3) := by decide +kernel
theorem dX10_setOn_81 : decode cX10_setOn 81 = .ok (.iconst (-1), 1) := by decide +kernel
theorem dX10_setOn_82 : decode cX10_setOn 82 = .ok (.goto 9, 3) := by decide +kernel
theorem dX10_setOn_85 : decode cX10_setOn 85 = .ok (.aload_n 0, 1) := by decide +kernel
theorem dX10_setOn_86 : decode cX10_setOn 86 = .ok (.getfield 7, 3) := by decide +kernel
theorem dX10_setOn_89 : decode cX10_setOn 89 = .ok (.iconst 4, 1) := by decide +kernel
theorem dX10_setOn_90 : decode cX10_setOn 90 = .ok (.iaload, 1) := by decide +kernel
theorem dX10_setOn_91 : decode cX10_setOn 91 = .ok (.iastore, 1) := by decide +kernel
theorem dX10_setOn_92 : decode cX10_setOn 92 = .ok (.iload_n 3, 1) := by decide +kernel
theorem dX10_setOn_93 : decode cX10_setOn 93 = .ok (.ifCond .ne 18, 3) := by decide +kernel
theorem dX10_setOn_96 : decode cX10_setOn 96 = .ok (.iload_n 2, 1) := by decide +kernel
theorem dX10_setOn_97 : decode cX10_setOn 97 = .ok (.ifCond .eq 14, 3) := by decide +kernel
theorem dX10_setOn_100 : decode cX10_setOn 100 = .ok (.aload_n 0, 1) := by decide +kernel
theorem dX10_setOn_101 : decode cX10_setOn 101 = .ok (.getfield 7, 3) := by decide +kernel
theorem dX10_setOn_104 : decode cX10_setOn 104 = .ok (.iload_n 1, 1) := by decide +kernel
theorem dX10_setOn_105 : decode cX10_setOn 105 = .ok (.iconst 1, 1) := by decide +kernel
theorem dX10_setOn_106 : decode cX10_setOn 106 = .ok (.invokestatic 29, 3) := by decide +kernel
theorem dX10_setOn_109 : decode cX10_setOn 109 = .ok (.iconst 1, 1) := by decide +kernel
theorem dX10_setOn_110 : decode cX10_setOn 110 = .ok (.iastore, 1) := by decide +kernel
theorem dX10_setOn_111 : decode cX10_setOn 111 = .ok (.iload_n 3, 1) := by decide +kernel
theorem dX10_setOn_112 : decode cX10_setOn 112 = .ok (.ireturn, 1) := by decide +kernel
theorem dX10_setTimes_0 : decode cX10_setTimes 0 = .ok (.aload_n 0, 1) := by decide +kernel
theorem dX10_setTimes_1 : decode cX10_setTimes 1 = .ok (.iload_n 1, 1) := by decide +kernel
theorem dX10_setTimes_2 : decode cX10_setTimes 2 = .ok (.i2l, 1) := by decide +kernel
theorem dX10_setTimes_3 : decode cX10_setTimes 3 = .ok (.lconst 1, 1) := by decide +kernel
theorem dX10_setTimes_4 : decode cX10_setTimes 4 = .ok (.ldc2_w 64, 3) := by decide +kernel
theorem dX10_setTimes_7 : decode cX10_setTimes 7 = .ok (.invokestatic 35, 3) := by decide +kernel
theorem dX10_setTimes_10 : decode cX10_setTimes 10 = .ok (.ifCond .eq 31, 3) := by decide +kernel
theorem dX10_setTimes_13 : decode cX10_setTimes 13 = .ok (.iload_n 2, 1) := by decide +kernel
theorem dX10_setTimes_14 : decode cX10_setTimes 14 = .ok (.i2l, 1) := by decide +kernel
theorem dX10_setTimes_15 : decode cX10_setTimes 15 = .ok (.lconst 1, 1) := by decide +kernel
theorem dX10_setTimes_16 : decode cX10_setTimes 16 = .ok (.ldc2_w 66, 3) := by decide +kernel
theorem dX10_setTimes_19 : decode cX10_setTimes 19 = .ok (.invokestatic 35, 3) := by decide +kernel
theorem dX10_setTimes_22 : decode cX10_setTimes 22 = .ok (.ifCond .eq 19, 3) := by decide +kernel
theorem dX10_setTimes_25 : decode cX10_setTimes 25 = .ok (.iload_n 3, 1) := by decide +kernel
theorem dX10_setTimes_26 : decode cX10_setTimes 26 = .ok (.i2l, 1) := by decide +kernel
theorem dX10_setTimes_27 : decode cX10_setTimes 27 = .ok (.lconst 1, 1) := by decide +kernel
theorem dX10_setTimes_28 : decode cX10_setTimes 28 = .ok (.ldc2_w 66, 3) := by decide +kernel
theorem dX10_setTimes_31 : decode cX10_setTimes 31 = .ok (.invokestatic 35, 3) := by decide +kernel
theorem dX10_setTimes_34 : decode cX10_setTimes 34 = .ok (.ifCond .eq 7, 3) := by decide +kernel
theorem dX10_setTimes_37 : decode cX10_setTimes 37 = .ok (.iconst 1, 1) := by decide +kernel
theorem dX10_setTimes_38 : decode cX10_setTimes 38 = .ok (.goto 4, 3) := by decide +kernel
theorem dX10_setTimes_41 : decode cX10_setTimes 41 = .ok (.iconst 0, 1) := by decide +kernel
theorem dX10_setTimes_42 : decode cX10_setTimes 42 = .ok (.iconst 1, 1) := by decide +kernel
theorem dX10_setTimes_43 : decode cX10_setTimes 43 = .ok (.iconst 1, 1) := by decide +kernel
theorem dX10_setTimes_44 : decode cX10_setTimes 44 = .ok (.invokevirtual 53, 3) := by decide +kernel
theorem dX10_setTimes_47 : decode cX10_setTimes 47 = .ok (.ifCond .ne 5, 3) := by decide +kernel
theorem dX10_setTimes_50 : decode cX10_setTimes 50 = .ok (.iconst 0, 1) := by decide +kernel
theorem dX10_setTimes_51 : decode cX10_setTimes 51 = .ok (.ireturn, 1) := by decide +kernel
theorem dX10_setTimes_52 : decode cX10_setTimes 52 = .ok (.aload_n 0, 1) := by decide +kernel
theorem dX10_setTimes_53 : decode cX10_setTimes 53 = .ok (.invokevirtual 57, 3) := by decide +kernel
theorem dX10_setTimes_56 : decode cX10_setTimes 56 = .ok (.aload_n 0, 1) := by decide +kernel
theorem dX10_setTimes_57 : decode cX10_setTimes 57 = .ok (.getfield 7, 3) := by decide +kernel
theorem dX10_setTimes_60 : decode cX10_setTimes 60 = .ok (.iconst 0, 1) := by decide +kernel
theorem dX10_setTimes_61 : decode cX10_setTimes 61 = .ok (.iaload, 1) := by decide +kernel
theorem dX10_setTimes_62 : decode cX10_setTimes 62 = .ok (.istore 4, 2) := by decide +kernel
theorem dX10_setTimes_64 : decode cX10_setTimes 64 = .ok (.aload_n 0, 1) := by decide +kernel
theorem dX10_setTimes_65 : decode cX10_setTimes 65 = .ok (.getfield 7, 3) := by decide +kernel
theorem dX10_setTimes_68 : decode cX10_setTimes 68 = .ok (.iconst 0, 1) := by decide +kernel
theorem dX10_setTimes_69 : decode cX10_setTimes 69 = .ok (.iload_n 1, 1) := by decide +kernel
theorem dX10_setTimes_70 : decode cX10_setTimes 70 = .ok (.iastore, 1) := by decide +kernel
theorem dX10_setTimes_71 : decode cX10_setTimes 71 = .ok (.aload_n 0, 1) := by decide +kernel
theorem dX10_setTimes_72 : decode cX10_setTimes 72 = .ok (.getfield 7, 3) := by decide +kernel
theorem dX10_setTimes_75 : decode cX10_setTimes 75 = .ok (.iconst 1, 1) := by decide +kernel
theorem dX10_setTimes_76 : decode cX10_setTimes 76 = .ok (.iload_n 2, 1) := by decide +kernel
theorem dX10_setTimes_77 : decode cX10_setTimes 77 = .ok (.iastore, 1) := by decide +kernel
theorem dX10_setTimes_78 : decode cX10_setTimes 78 = .ok (.aload_n 0, 1) := by decide +kernel
theorem dX10_setTimes_79 : decode cX10_setTimes 79 = .ok (.getfield 7, 3) := by decide +kernel
theorem dX10_setTimes_82 : decode cX10_setTimes 82 = .ok (.iconst 2, 1) := by decide +kernel
theorem dX10_setTimes_83 : decode cX10_setTimes 83 = .ok (.iload_n 3, 1) := by decide +kernel
theorem dX10_setTimes_84 : decode cX10_setTimes 84 = .ok (.iastore, 1) := by decide +kernel
theorem dX10_setTimes_85 : decode cX10_setTimes 85 = .ok (.iload 4, 2) := by decide +kernel
theorem dX10_setTimes_87 : decode cX10_setTimes 87 = .ok (.ireturn, 1) := by decide +kernel
theorem dX10_gives_0 : decode cX10_gives 0 = .ok (.aload_n 0, 1) := by decide +kernel
theorem dX10_gives_1 : decode cX10_gives 1 = .ok (.getfield 7, 3) := by decide +kernel
theorem dX10_gives_4 : decode cX10_gives 4 = .ok (.iconst 5, 1) := by decide +kernel
theorem dX10_gives_5 : decode cX10_gives 5 = .ok (.iaload, 1) := by decide +kernel
theorem dX10_gives_6 : decode cX10_gives 6 = .ok (.istore 4, 2) := by decide +kernel
theorem dX10_gives_8 : decode cX10_gives 8 = .ok (.aload_n 0, 1) := by decide +kernel
theorem dX10_gives_9 : decode cX10_gives 9 = .ok (.getfield 7, 3) := by decide +kernel
theorem dX10_gives_12 : decode cX10_gives 12 = .ok (.iload 4, 2) := by decide +kernel
theorem dX10_gives_14 : decode cX10_gives 14 = .ok (.iconst 0, 1) := by decide +kernel
theorem dX10_gives_15 : decode cX10_gives 15 = .ok (.invokestatic 42, 3) := by decide +kernel
theorem dX10_gives_18 : decode cX10_gives 18 = .ok (.iload_n 2, 1) := by decide +kernel
theorem dX10_gives_19 : decode cX10_gives 19 = .ok (.iastore, 1) := by decide +kernel
theorem dX10_gives_20 : decode cX10_gives 20 = .ok (.aload_n 0, 1) := by decide +kernel
theorem dX10_gives_21 : decode cX10_gives 21 = .ok (.getfield 7, 3) := by decide +kernel
theorem dX10_gives_24 : decode cX10_gives 24 = .ok (.iload 4, 2) := by decide +kernel
theorem dX10_gives_26 : decode cX10_gives 26 = .ok (.iconst 1, 1) := by decide +kernel
theorem dX10_gives_27 : decode cX10_gives 27 = .ok (.invokestatic 42, 3) := by decide +kernel
theorem dX10_gives_30 : decode cX10_gives 30 = .ok (.iload_n 3, 1) := by decide +kernel
theorem dX10_gives_31 : decode cX10_gives 31 = .ok (.iastore, 1) := by decide +kernel
theorem dX10_gives_32 : decode cX10_gives 32 = .ok (.aload_n 0, 1) := by decide +kernel
theorem dX10_gives_33 : decode cX10_gives 33 = .ok (.getfield 7, 3) := by decide +kernel
theorem dX10_gives_36 : decode cX10_gives 36 = .ok (.iload 4, 2) := by decide +kernel
theorem dX10_gives_38 : decode cX10_gives 38 = .ok (.iconst 2, 1) := by decide +kernel
theorem dX10_gives_39 : decode cX10_gives 39 = .ok (.invokestatic 42, 3) := by decide +kernel
theorem dX10_gives_42 : decode cX10_gives 42 = .ok (.iload_n 1, 1) := by decide +kernel
theorem dX10_gives_43 : decode cX10_gives 43 = .ok (.iastore, 1) := by decide +kernel
theorem dX10_gives_44 : decode cX10_gives 44 = .ok (.aload_n 0, 1) := by decide +kernel
theorem dX10_gives_45 : decode cX10_gives 45 = .ok (.getfield 7, 3) := by decide +kernel
theorem dX10_gives_48 : decode cX10_gives 48 = .ok (.iload 4, 2) := by decide +kernel
theorem dX10_gives_50 : decode cX10_gives 50 = .ok (.iconst 3, 1) := by decide +kernel
theorem dX10_gives_51 : decode cX10_gives 51 = .ok (.invokestatic 42, 3) := by decide +kernel
theorem dX10_gives_54 : decode cX10_gives 54 = .ok (.aload_n 0, 1) := by decide +kernel
theorem dX10_gives_55 : decode cX10_gives 55 = .ok (.getfield 7, 3) := by decide +kernel
theorem dX10_gives_58 : decode cX10_gives 58 = .ok (.iconst 3, 1) := by decide +kernel
theorem dX10_gives_59 : decode cX10_gives 59 = .ok (.iaload, 1) := by decide +kernel
theorem dX10_gives_60 : decode cX10_gives 60 = .ok (.iastore, 1) := by decide +kernel
theorem dX10_gives_61 : decode cX10_gives 61 = .ok (.aload_n 0, 1) := by decide +kernel
theorem dX10_gives_62 : decode cX10_gives 62 = .ok (.getfield 7, 3) := by decide +kernel
theorem dX10_gives_65 : decode cX10_gives 65 = .ok (.iload 4, 2) := by decide +kernel
theorem dX10_gives_67 : decode cX10_gives 67 = .ok (.iconst 4, 1) := by decide +kernel
theorem dX10_gives_68 : decode cX10_gives 68 = .ok (.invokestatic 42, 3) := by decide +kernel
theorem dX10_gives_71 : decode cX10_gives 71 = .ok (.iconst (-1), 1) := by decide +kernel
theorem dX10_gives_72 : decode cX10_gives 72 = .ok (.iastore, 1) := by decide +kernel
theorem dX10_gives_73 : decode cX10_gives 73 = .ok (.aload_n 0, 1) := by decide +kernel
theorem dX10_gives_74 : decode cX10_gives 74 = .ok (.getfield 7, 3) := by decide +kernel
theorem dX10_gives_77 : decode cX10_gives 77 = .ok (.iconst 5, 1) := by decide +kernel
theorem dX10_gives_78 : decode cX10_gives 78 = .ok (.dup2, 1) := by decide +kernel
theorem dX10_gives_79 : decode cX10_gives 79 = .ok (.iaload, 1) := by decide +kernel
theorem dX10_gives_80 : decode cX10_gives 80 = .ok (.iconst 1, 1) := by decide +kernel
theorem dX10_gives_81 : decode cX10_gives 81 = .ok (.iadd, 1) := by decide +kernel
theorem dX10_gives_82 : decode cX10_gives 82 = .ok (.iastore, 1) := by decide +kernel
theorem dX10_gives_83 : decode cX10_gives 83 = .ok (.iload 4, 2) := by decide +kernel
theorem dX10_gives_85 : decode cX10_gives 85 = .ok (.ireturn, 1) := by decide +kernel
theorem dX10_give_0 : decode cX10_give 0 = .ok (.aload_n 0, 1) := by decide +kernel
theorem dX10_give_1 : decode cX10_give 1 = .ok (.aload_n 0, 1) := by decide +kernel
theorem dX10_give_2 : decode cX10_give 2 = .ok (.iload_n 1, 1) := by decide +kernel
theorem dX10_give_3 : decode cX10_give 3 = .ok (.invokevirtual 45, 3) := by decide +kernel
theorem dX10_give_6 : decode cX10_give 6 = .ok (.iload_n 2, 1) := by decide +kernel
theorem dX10_give_7 : decode cX10_give 7 = .ok (.i2l, 1) := by decide +kernel
theorem dX10_give_8 : decode cX10_give 8 = .ok (.lconst 1, 1) := by decide +kernel
theorem dX10_give_9 : decode cX10_give 9 = .ok (.ldc2_w 66, 3) := by decide +kernel
theorem dX10_give_12 : decode cX10_give 12 = .ok (.invokestatic 35, 3) := by decide +kernel
theorem dX10_give_15 : decode cX10_give 15 = .ok (.ifCond .eq 19, 3) := by decide +kernel
theorem dX10_give_18 : decode cX10_give 18 = .ok (.iload_n 3, 1) := by decide +kernel
theorem dX10_give_19 : decode cX10_give 19 = .ok (.i2l, 1) := by decide +kernel
theorem dX10_give_20 : decode cX10_give 20 = .ok (.lconst 0, 1) := by decide +kernel
theorem dX10_give_21 : decode cX10_give 21 = .ok (.ldc2_w 68, 3) := by decide +kernel
theorem dX10_give_24 : decode cX10_give 24 = .ok (.invokestatic 35, 3) := by decide +kernel
theorem dX10_give_27 : decode cX10_give 27 = .ok (.ifCond .eq 7, 3) := by decide +kernel
theorem dX10_give_30 : decode cX10_give 30 = .ok (.iconst 1, 1) := by decide +kernel
theorem dX10_give_31 : decode cX10_give 31 = .ok (.goto 4, 3) := by decide +kernel
theorem dX10_give_34 : decode cX10_give 34 = .ok (.iconst 0, 1) := by decide +kernel
theorem dX10_give_35 : decode cX10_give 35 = .ok (.aload_n 0, 1) := by decide +kernel
theorem dX10_give_36 : decode cX10_give 36 = .ok (.getfield 7, 3) := by decide +kernel
theorem dX10_give_39 : decode cX10_give 39 = .ok (.iconst 5, 1) := by decide +kernel
theorem dX10_give_40 : decode cX10_give 40 = .ok (.iaload, 1) := by decide +kernel
theorem dX10_give_41 : decode cX10_give 41 = .ok (.bipush 100, 2) := by decide +kernel
theorem dX10_give_43 : decode cX10_give 43 = .ok (.if_icmp .ge 7, 3) := by decide +kernel
theorem dX10_give_46 : decode cX10_give 46 = .ok (.iconst 1, 1) := by decide +kernel
theorem dX10_give_47 : decode cX10_give 47 = .ok (.goto 4, 3) := by decide +kernel
theorem dX10_give_50 : decode cX10_give 50 = .ok (.iconst 0, 1) := by decide +kernel
theorem dX10_give_51 : decode cX10_give 51 = .ok (.invokevirtual 53, 3) := by decide +kernel
theorem dX10_give_54 : decode cX10_give 54 = .ok (.ifCond .ne 5, 3) := by decide +kernel
theorem dX10_give_57 : decode cX10_give 57 = .ok (.iconst 0, 1) := by decide +kernel
theorem dX10_give_58 : decode cX10_give 58 = .ok (.ireturn, 1) := by decide +kernel
theorem dX10_give_59 : decode cX10_give 59 = .ok (.aload_n 0, 1) := by decide +kernel
theorem dX10_give_60 : decode cX10_give 60 = .ok (.invokevirtual 57, 3) := by decide +kernel
theorem dX10_give_63 : decode cX10_give 63 = .ok (.aload_n 0, 1) := by decide +kernel
theorem dX10_give_64 : decode cX10_give 64 = .ok (.iload_n 1, 1) := by decide +kernel
theorem dX10_give_65 : decode cX10_give 65 = .ok (.iload_n 2, 1) := by decide +kernel
theorem dX10_give_66 : decode cX10_give 66 = .ok (.iload_n 3, 1) := by decide +kernel
theorem dX10_give_67 : decode cX10_give 67 = .ok (.invokevirtual 70, 3) := by decide +kernel
theorem dX10_give_70 : decode cX10_give 70 = .ok (.ireturn, 1) := by decide +kernel
theorem dX10_addNoise_0 : decode cX10_addNoise 0 = .ok (.aload_n 0, 1) := by decide +kernel
theorem dX10_addNoise_1 : decode cX10_addNoise 1 = .ok (.iload_n 1, 1) := by decide +kernel
theorem dX10_addNoise_2 : decode cX10_addNoise 2 = .ok (.i2l, 1) := by decide +kernel
theorem dX10_addNoise_3 : decode cX10_addNoise 3 = .ok (.lconst 0, 1) := by decide +kernel
theorem dX10_addNoise_4 : decode cX10_addNoise 4 = .ok (.iload_n 2, 1) := by decide +kernel
theorem dX10_addNoise_5 : decode cX10_addNoise 5 = .ok (.i2l, 1) := by decide +kernel
theorem dX10_addNoise_6 : decode cX10_addNoise 6 = .ok (.invokestatic 35, 3) := by decide +kernel
theorem dX10_addNoise_9 : decode cX10_addNoise 9 = .ok (.ifCond .eq 20, 3) := by decide +kernel
theorem dX10_addNoise_12 : decode cX10_addNoise 12 = .ok (.iload_n 2, 1) := by decide +kernel
theorem dX10_addNoise_13 : decode cX10_addNoise 13 = .ok (.i2l, 1) := by decide +kernel
theorem dX10_addNoise_14 : decode cX10_addNoise 14 = .ok (.iload_n 1, 1) := by decide +kernel
theorem dX10_addNoise_15 : decode cX10_addNoise 15 = .ok (.i2l, 1) := by decide +kernel
theorem dX10_addNoise_16 : decode cX10_addNoise 16 = .ok (.ldc2_w 74, 3) := by decide +kernel
theorem dX10_addNoise_19 : decode cX10_addNoise 19 = .ok (.invokestatic 35, 3) := by decide +kernel
theorem dX10_addNoise_22 : decode cX10_addNoise 22 = .ok (.ifCond .eq 7, 3) := by decide +kernel
theorem dX10_addNoise_25 : decode cX10_addNoise 25 = .ok (.iconst 1, 1) := by decide +kernel
theorem dX10_addNoise_26 : decode cX10_addNoise 26 = .ok (.goto 4, 3) := by decide +kernel
theorem dX10_addNoise_29 : decode cX10_addNoise 29 = .ok (.iconst 0, 1) := by decide +kernel
theorem dX10_addNoise_30 : decode cX10_addNoise 30 = .ok (.aload_n 0, 1) := by decide +kernel
theorem dX10_addNoise_31 : decode cX10_addNoise 31 = .ok (.getfield 7, 3) := by decide +kernel
theorem dX10_addNoise_34 : decode cX10_addNoise 34 = .ok (.bipush 6, 2) := by decide +kernel
theorem dX10_addNoise_36 : decode cX10_addNoise 36 = .ok (.iaload, 1) := by decide +kernel
theorem dX10_addNoise_37 : decode cX10_addNoise 37 = .ok (.bipush 20, 2) := by decide +kernel
theorem dX10_addNoise_39 : decode cX10_addNoise 39 = .ok (.if_icmp .ge 7, 3) := by decide +kernel
theorem dX10_addNoise_42 : decode cX10_addNoise 42 = .ok (.iconst 1, 1) := by decide +kernel
theorem dX10_addNoise_43 : decode cX10_addNoise 43 = .ok (.goto 4, 3) := by decide +kernel
theorem dX10_addNoise_46 : decode cX10_addNoise 46 = .ok (.iconst 0, 1) := by decide +kernel
theorem dX10_addNoise_47 : decode cX10_addNoise 47 = .ok (.iconst 1, 1) := by decide +kernel
theorem dX10_addNoise_48 : decode cX10_addNoise 48 = .ok (.invokevirtual 53, 3) := by decide +kernel
theorem dX10_addNoise_51 : decode cX10_addNoise 51 = .ok (.ifCond .ne 5, 3) := by decide +kernel
theorem dX10_addNoise_54 : decode cX10_addNoise 54 = .ok (.iconst 0, 1) := by decide +kernel
theorem dX10_addNoise_55 : decode cX10_addNoise 55 = .ok (.ireturn, 1) := by decide +kernel
theorem dX10_addNoise_56 : decode cX10_addNoise 56 = .ok (.aload_n 0, 1) := by decide +kernel
theorem dX10_addNoise_57 : decode cX10_addNoise 57 = .ok (.invokevirtual 57, 3) := by decide +kernel
theorem dX10_addNoise_60 : decode cX10_addNoise 60 = .ok (.aload_n 0, 1) := by decide +kernel
theorem dX10_addNoise_61 : decode cX10_addNoise 61 = .ok (.getfield 7, 3) := by decide +kernel
theorem dX10_addNoise_64 : decode cX10_addNoise 64 = .ok (.sipush 742, 3) := by decide +kernel
theorem dX10_addNoise_67 : decode cX10_addNoise 67 = .ok (.iconst 2, 1) := by decide +kernel
theorem dX10_addNoise_68 : decode cX10_addNoise 68 = .ok (.aload_n 0, 1) := by decide +kernel
theorem dX10_addNoise_69 : decode cX10_addNoise 69 = .ok (.getfield 7, 3) := by decide +kernel
theorem dX10_addNoise_72 : decode cX10_addNoise 72 = .ok (.bipush 6, 2) := by decide +kernel
theorem dX10_addNoise_74 : decode cX10_addNoise 74 = .ok (.iaload, 1) := by decide +kernel
theorem dX10_addNoise_75 : decode cX10_addNoise 75 = .ok (.imul, 1) := by decide +kernel
theorem dX10_addNoise_76 : decode cX10_addNoise 76 = .ok (.iadd, 1) := by decide +kernel
theorem dX10_addNoise_77 : decode cX10_addNoise 77 = .ok (.iload_n 1, 1) := by decide +kernel
theorem dX10_addNoise_78 : decode cX10_addNoise 78 = .ok (.iastore, 1) := by decide +kernel
theorem dX10_addNoise_79 : decode cX10_addNoise 79 = .ok (.aload_n 0, 1) := by decide +kernel
theorem dX10_addNoise_80 : decode cX10_addNoise 80 = .ok (.getfield 7, 3) := by decide +kernel
theorem dX10_addNoise_83 : decode cX10_addNoise 83 = .ok (.sipush 742, 3) := by decide +kernel
theorem dX10_addNoise_86 : decode cX10_addNoise 86 = .ok (.iconst 2, 1) := by decide +kernel
theorem dX10_addNoise_87 : decode cX10_addNoise 87 = .ok (.aload_n 0, 1) := by decide +kernel
theorem dX10_addNoise_88 : decode cX10_addNoise 88 = .ok (.getfield 7, 3) := by decide +kernel
theorem dX10_addNoise_91 : decode cX10_addNoise 91 = .ok (.bipush 6, 2) := by decide +kernel
theorem dX10_addNoise_93 : decode cX10_addNoise 93 = .ok (.iaload, 1) := by decide +kernel
theorem dX10_addNoise_94 : decode cX10_addNoise 94 = .ok (.imul, 1) := by decide +kernel
theorem dX10_addNoise_95 : decode cX10_addNoise 95 = .ok (.iadd, 1) := by decide +kernel
theorem dX10_addNoise_96 : decode cX10_addNoise 96 = .ok (.iconst 1, 1) := by decide +kernel
theorem dX10_addNoise_97 : decode cX10_addNoise 97 = .ok (.iadd, 1) := by decide +kernel
theorem dX10_addNoise_98 : decode cX10_addNoise 98 = .ok (.iload_n 2, 1) := by decide +kernel
theorem dX10_addNoise_99 : decode cX10_addNoise 99 = .ok (.iastore, 1) := by decide +kernel
theorem dX10_addNoise_100 : decode cX10_addNoise 100 = .ok (.aload_n 0, 1) := by decide +kernel
theorem dX10_addNoise_101 : decode cX10_addNoise 101 = .ok (.getfield 7, 3) := by decide +kernel
theorem dX10_addNoise_104 : decode cX10_addNoise 104 = .ok (.bipush 6, 2) := by decide +kernel
theorem dX10_addNoise_106 : decode cX10_addNoise 106 = .ok (.dup2, 1) := by decide +kernel
theorem dX10_addNoise_107 : decode cX10_addNoise 107 = .ok (.iaload, 1) := by decide +kernel
theorem dX10_addNoise_108 : decode cX10_addNoise 108 = .ok (.iconst 1, 1) := by decide +kernel
theorem dX10_addNoise_109 : decode cX10_addNoise 109 = .ok (.iadd, 1) := by decide +kernel
theorem dX10_addNoise_110 : decode cX10_addNoise 110 = .ok (.iastore, 1) := by decide +kernel
theorem dX10_addNoise_111 : decode cX10_addNoise 111 = .ok (.aload_n 0, 1) := by decide +kernel
theorem dX10_addNoise_112 : decode cX10_addNoise 112 = .ok (.getfield 7, 3) := by decide +kernel
theorem dX10_addNoise_115 : decode cX10_addNoise 115 = .ok (.bipush 6, 2) := by decide +kernel
theorem dX10_addNoise_117 : decode cX10_addNoise 117 = .ok (.iaload, 1) := by decide +kernel
theorem dX10_addNoise_118 : decode cX10_addNoise 118 = .ok (.ireturn, 1) := by decide +kernel
theorem dX10_isLoud_0 : decode cX10_isLoud 0 = .ok (.iconst 0, 1) := by decide +kernel
theorem dX10_isLoud_1 : decode cX10_isLoud 1 = .ok (.istore_n 3, 1) := by decide +kernel
theorem dX10_isLoud_2 : decode cX10_isLoud 2 = .ok (.iconst 0, 1) := by decide +kernel
theorem dX10_isLoud_3 : decode cX10_isLoud 3 = .ok (.istore 4, 2) := by decide +kernel
theorem dX10_isLoud_5 : decode cX10_isLoud 5 = .ok (.iload 4, 2) := by decide +kernel
theorem dX10_isLoud_7 : decode cX10_isLoud 7 = .ok (.aload_n 0, 1) := by decide +kernel
theorem dX10_isLoud_8 : decode cX10_isLoud 8 = .ok (.getfield 7, 3) := by decide +kernel
theorem dX10_isLoud_11 : decode cX10_isLoud 11 = .ok (.bipush 6, 2) := by decide +kernel
theorem dX10_isLoud_13 : decode cX10_isLoud 13 = .ok (.iaload, 1) := by decide +kernel
theorem dX10_isLoud_14 : decode cX10_isLoud 14 = .ok (.if_icmp .ge 55, 3) := by decide +kernel
theorem dX10_isLoud_17 : decode cX10_isLoud 17 = .ok (.iload_n 3, 1) := by decide +kernel
theorem dX10_isLoud_18 : decode cX10_isLoud 18 = .ok (.ifCond .ne 39, 3) := by decide +kernel
theorem dX10_isLoud_21 : decode cX10_isLoud 21 = .ok (.aload_n 0, 1) := by decide +kernel
theorem dX10_isLoud_22 : decode cX10_isLoud 22 = .ok (.getfield 7, 3) := by decide +kernel
theorem dX10_isLoud_25 : decode cX10_isLoud 25 = .ok (.sipush 742, 3) := by decide +kernel
theorem dX10_isLoud_28 : decode cX10_isLoud 28 = .ok (.iconst 2, 1) := by decide +kernel
theorem dX10_isLoud_29 : decode cX10_isLoud 29 = .ok (.iload 4, 2) := by decide +kernel
theorem dX10_isLoud_31 : decode cX10_isLoud 31 = .ok (.imul, 1) := by decide +kernel
theorem dX10_isLoud_32 : decode cX10_isLoud 32 = .ok (.iadd, 1) := by decide +kernel
theorem dX10_isLoud_33 : decode cX10_isLoud 33 = .ok (.iaload, 1) := by decide +kernel
theorem dX10_isLoud_34 : decode cX10_isLoud 34 = .ok (.iload_n 2, 1) := by decide +kernel
theorem dX10_isLoud_35 : decode cX10_isLoud 35 = .ok (.if_icmp .gt 26, 3) := by decide +kernel
theorem dX10_isLoud_38 : decode cX10_isLoud 38 = .ok (.aload_n 0, 1) := by decide +kernel
theorem dX10_isLoud_39 : decode cX10_isLoud 39 = .ok (.getfield 7, 3) := by decide +kernel
theorem dX10_isLoud_42 : decode cX10_isLoud 42 = .ok (.sipush 742, 3) := by decide +kernel
theorem dX10_isLoud_45 : decode cX10_isLoud 45 = .ok (.iconst 2, 1) := by decide +kernel
theorem dX10_isLoud_46 : decode cX10_isLoud 46 = .ok (.iload 4, 2) := by decide +kernel
theorem dX10_isLoud_48 : decode cX10_isLoud 48 = .ok (.imul, 1) := by decide +kernel
theorem dX10_isLoud_49 : decode cX10_isLoud 49 = .ok (.iadd, 1) := by decide +kernel
theorem dX10_isLoud_50 : decode cX10_isLoud 50 = .ok (.iconst 1, 1) := by decide +kernel
theorem dX10_isLoud_51 : decode cX10_isLoud 51 = .ok (.iadd, 1) := by decide +kernel
theorem dX10_isLoud_52 : decode cX10_isLoud 52 = .ok (.iaload, 1) := by decide +kernel
theorem dX10_isLoud_53 : decode cX10_isLoud 53 = .ok (.iload_n 1, 1) := by decide +kernel
theorem dX10_isLoud_54 : decode cX10_isLoud 54 = .ok (.if_icmp .lt 7, 3) := by decide +kernel
theorem dX10_isLoud_57 : decode cX10_isLoud 57 = .ok (.iconst 1, 1) := by decide +kernel
theorem dX10_isLoud_58 : decode cX10_isLoud 58 = .ok (.goto 4, 3) := by decide +kernel
theorem dX10_isLoud_61 : decode cX10_isLoud 61 = .ok (.iconst 0, 1) := by decide +kernel
theorem dX10_isLoud_62 : decode cX10_isLoud 62 = .ok (.istore_n 3, 1) := by decide +kernel
theorem dX10_isLoud_63 : decode cX10_isLoud 63 = .ok (.iinc 4 1, 3) := by decide +kernel
theorem dX10_isLoud_66 : decode cX10_isLoud 66 = .ok (.goto (-61), 3) := by decide +kernel
theorem dX10_isLoud_69 : decode cX10_isLoud 69 = .ok (.iload_n 3, 1) := by decide +kernel
theorem dX10_isLoud_70 : decode cX10_isLoud 70 = .ok (.ireturn, 1) := by decide +kernel
theorem dX10_takes_0 : decode cX10_takes 0 = .ok (.aload_n 0, 1) := by decide +kernel
theorem dX10_takes_1 : decode cX10_takes 1 = .ok (.aload_n 0, 1) := by decide +kernel
theorem dX10_takes_2 : decode cX10_takes 2 = .ok (.getfield 7, 3) := by decide +kernel
theorem dX10_takes_5 : decode cX10_takes 5 = .ok (.iconst 3, 1) := by decide +kernel
theorem dX10_takes_6 : decode cX10_takes 6 = .ok (.iaload, 1) := by decide +kernel
theorem dX10_takes_7 : decode cX10_takes 7 = .ok (.aload_n 0, 1) := by decide +kernel
theorem dX10_takes_8 : decode cX10_takes 8 = .ok (.getfield 7, 3) := by decide +kernel
theorem dX10_takes_11 : decode cX10_takes 11 = .ok (.iconst 3, 1) := by decide +kernel
theorem dX10_takes_12 : decode cX10_takes 12 = .ok (.iaload, 1) := by decide +kernel
theorem dX10_takes_13 : decode cX10_takes 13 = .ok (.iload_n 1, 1) := by decide +kernel
theorem dX10_takes_14 : decode cX10_takes 14 = .ok (.iadd, 1) := by decide +kernel
theorem dX10_takes_15 : decode cX10_takes 15 = .ok (.iconst 1, 1) := by decide +kernel
theorem dX10_takes_16 : decode cX10_takes 16 = .ok (.isub, 1) := by decide +kernel
theorem dX10_takes_17 : decode cX10_takes 17 = .ok (.invokevirtual 76, 3) := by decide +kernel
theorem dX10_takes_20 : decode cX10_takes 20 = .ok (.istore_n 2, 1) := by decide +kernel
theorem dX10_takes_21 : decode cX10_takes 21 = .ok (.aload_n 0, 1) := by decide +kernel
theorem dX10_takes_22 : decode cX10_takes 22 = .ok (.getfield 7, 3) := by decide +kernel
theorem dX10_takes_25 : decode cX10_takes 25 = .ok (.iconst 3, 1) := by decide +kernel
theorem dX10_takes_26 : decode cX10_takes 26 = .ok (.dup2, 1) := by decide +kernel
theorem dX10_takes_27 : decode cX10_takes 27 = .ok (.iaload, 1) := by decide +kernel
theorem dX10_takes_28 : decode cX10_takes 28 = .ok (.iload_n 1, 1) := by decide +kernel
theorem dX10_takes_29 : decode cX10_takes 29 = .ok (.iadd, 1) := by decide +kernel
theorem dX10_takes_30 : decode cX10_takes 30 = .ok (.iastore, 1) := by decide +kernel
theorem dX10_takes_31 : decode cX10_takes 31 = .ok (.aload_n 0, 1) := by decide +kernel
theorem dX10_takes_32 : decode cX10_takes 32 = .ok (.getfield 7, 3) := by decide +kernel
theorem dX10_takes_35 : decode cX10_takes 35 = .ok (.bipush 11, 2) := by decide +kernel
theorem dX10_takes_37 : decode cX10_takes 37 = .ok (.dup2, 1) := by decide +kernel
theorem dX10_takes_38 : decode cX10_takes 38 = .ok (.iaload, 1) := by decide +kernel
theorem dX10_takes_39 : decode cX10_takes 39 = .ok (.iload_n 2, 1) := by decide +kernel
theorem dX10_takes_40 : decode cX10_takes 40 = .ok (.ifCond .eq 7, 3) := by decide +kernel
theorem dX10_takes_43 : decode cX10_takes 43 = .ok (.iconst 1, 1) := by decide +kernel
theorem dX10_takes_44 : decode cX10_takes 44 = .ok (.goto 4, 3) := by decide +kernel
theorem dX10_takes_47 : decode cX10_takes 47 = .ok (.iconst 0, 1) := by decide +kernel
theorem dX10_takes_48 : decode cX10_takes 48 = .ok (.iadd, 1) := by decide +kernel
theorem dX10_takes_49 : decode cX10_takes 49 = .ok (.iastore, 1) := by decide +kernel
theorem dX10_takes_50 : decode cX10_takes 50 = .ok (.iload_n 2, 1) := by decide +kernel
theorem dX10_takes_51 : decode cX10_takes 51 = .ok (.ireturn, 1) := by decide +kernel
theorem dX10_nextOf_0 : decode cX10_nextOf 0 = .ok (.iconst (-1), 1) := by decide +kernel
theorem dX10_nextOf_1 : decode cX10_nextOf 1 = .ok (.istore_n 3, 1) := by decide +kernel
theorem dX10_nextOf_2 : decode cX10_nextOf 2 = .ok (.iconst 0, 1) := by decide +kernel
theorem dX10_nextOf_3 : decode cX10_nextOf 3 = .ok (.istore 4, 2) := by decide +kernel
theorem dX10_nextOf_5 : decode cX10_nextOf 5 = .ok (.iload 4, 2) := by decide +kernel
theorem dX10_nextOf_7 : decode cX10_nextOf 7 = .ok (.aload_n 0, 1) := by decide +kernel
theorem dX10_nextOf_8 : decode cX10_nextOf 8 = .ok (.getfield 7, 3) := by decide +kernel
theorem dX10_nextOf_11 : decode cX10_nextOf 11 = .ok (.iconst 5, 1) := by decide +kernel
theorem dX10_nextOf_12 : decode cX10_nextOf 12 = .ok (.iaload, 1) := by decide +kernel
theorem dX10_nextOf_13 : decode cX10_nextOf 13 = .ok (.if_icmp .ge 126, 3) := by decide +kernel
theorem dX10_nextOf_16 : decode cX10_nextOf 16 = .ok (.aload_n 0, 1) := by decide +kernel
theorem dX10_nextOf_17 : decode cX10_nextOf 17 = .ok (.iload 4, 2) := by decide +kernel
theorem dX10_nextOf_19 : decode cX10_nextOf 19 = .ok (.iconst 2, 1) := by decide +kernel
theorem dX10_nextOf_20 : decode cX10_nextOf 20 = .ok (.invokevirtual 80, 3) := by decide +kernel
theorem dX10_nextOf_23 : decode cX10_nextOf 23 = .ok (.iload_n 1, 1) := by decide +kernel
theorem dX10_nextOf_24 : decode cX10_nextOf 24 = .ok (.if_icmp .ne 18, 3) := by decide +kernel
theorem dX10_nextOf_27 : decode cX10_nextOf 27 = .ok (.aload_n 0, 1) := by decide +kernel
theorem dX10_nextOf_28 : decode cX10_nextOf 28 = .ok (.iload 4, 2) := by decide +kernel
theorem dX10_nextOf_30 : decode cX10_nextOf 30 = .ok (.iconst 4, 1) := by decide +kernel
theorem dX10_nextOf_31 : decode cX10_nextOf 31 = .ok (.invokevirtual 80, 3) := by decide +kernel
theorem dX10_nextOf_34 : decode cX10_nextOf 34 = .ok (.iconst (-1), 1) := by decide +kernel
theorem dX10_nextOf_35 : decode cX10_nextOf 35 = .ok (.if_icmp .ne 7, 3) := by decide +kernel
theorem dX10_nextOf_38 : decode cX10_nextOf 38 = .ok (.iconst 1, 1) := by decide +kernel
theorem dX10_nextOf_39 : decode cX10_nextOf 39 = .ok (.goto 4, 3) := by decide +kernel
theorem dX10_nextOf_42 : decode cX10_nextOf 42 = .ok (.iconst 0, 1) := by decide +kernel
theorem dX10_nextOf_43 : decode cX10_nextOf 43 = .ok (.istore 5, 2) := by decide +kernel
theorem dX10_nextOf_45 : decode cX10_nextOf 45 = .ok (.iload_n 2, 1) := by decide +kernel
theorem dX10_nextOf_46 : decode cX10_nextOf 46 = .ok (.iconst (-1), 1) := by decide +kernel
theorem dX10_nextOf_47 : decode cX10_nextOf 47 = .ok (.if_icmp .eq 41, 3) := by decide +kernel
theorem dX10_nextOf_50 : decode cX10_nextOf 50 = .ok (.aload_n 0, 1) := by decide +kernel
theorem dX10_nextOf_51 : decode cX10_nextOf 51 = .ok (.iload 4, 2) := by decide +kernel
theorem dX10_nextOf_53 : decode cX10_nextOf 53 = .ok (.iconst 1, 1) := by decide +kernel
theorem dX10_nextOf_54 : decode cX10_nextOf 54 = .ok (.invokevirtual 80, 3) := by decide +kernel
theorem dX10_nextOf_57 : decode cX10_nextOf 57 = .ok (.aload_n 0, 1) := by decide +kernel
theorem dX10_nextOf_58 : decode cX10_nextOf 58 = .ok (.iload_n 2, 1) := by decide +kernel
theorem dX10_nextOf_59 : decode cX10_nextOf 59 = .ok (.iconst 1, 1) := by decide +kernel
theorem dX10_nextOf_60 : decode cX10_nextOf 60 = .ok (.invokevirtual 80, 3) := by decide +kernel
theorem dX10_nextOf_63 : decode cX10_nextOf 63 = .ok (.if_icmp .lt 25, 3) := by decide +kernel
theorem dX10_nextOf_66 : decode cX10_nextOf 66 = .ok (.aload_n 0, 1) := by decide +kernel
theorem dX10_nextOf_67 : decode cX10_nextOf 67 = .ok (.iload 4, 2) := by decide +kernel
theorem dX10_nextOf_69 : decode cX10_nextOf 69 = .ok (.iconst 1, 1) := by decide +kernel
theorem dX10_nextOf_70 : decode cX10_nextOf 70 = .ok (.invokevirtual 80, 3) := by decide +kernel
theorem dX10_nextOf_73 : decode cX10_nextOf 73 = .ok (.aload_n 0, 1) := by decide +kernel
theorem dX10_nextOf_74 : decode cX10_nextOf 74 = .ok (.iload_n 2, 1) := by decide +kernel
theorem dX10_nextOf_75 : decode cX10_nextOf 75 = .ok (.iconst 1, 1) := by decide +kernel
theorem dX10_nextOf_76 : decode cX10_nextOf 76 = .ok (.invokevirtual 80, 3) := by decide +kernel
theorem dX10_nextOf_79 : decode cX10_nextOf 79 = .ok (.if_icmp .ne 13, 3) := by decide +kernel
theorem dX10_nextOf_82 : decode cX10_nextOf 82 = .ok (.iload 4, 2) := by decide +kernel
theorem dX10_nextOf_84 : decode cX10_nextOf 84 = .ok (.iload_n 2, 1) := by decide +kernel
theorem dX10_nextOf_85 : decode cX10_nextOf 85 = .ok (.if_icmp .le 7, 3) := by decide +kernel
theorem dX10_nextOf_88 : decode cX10_nextOf 88 = .ok (.iconst 1, 1) := by decide +kernel
theorem dX10_nextOf_89 : decode cX10_nextOf 89 = .ok (.goto 4, 3) := by decide +kernel
theorem dX10_nextOf_92 : decode cX10_nextOf 92 = .ok (.iconst 0, 1) := by decide +kernel
theorem dX10_nextOf_93 : decode cX10_nextOf 93 = .ok (.istore 6, 2) := by decide +kernel
theorem dX10_nextOf_95 : decode cX10_nextOf 95 = .ok (.iload 5, 2) := by decide +kernel
theorem dX10_nextOf_97 : decode cX10_nextOf 97 = .ok (.ifCond .eq 34, 3) := by decide +kernel
theorem dX10_nextOf_100 : decode cX10_nextOf 100 = .ok (.iload 6, 2) := by decide +kernel
theorem dX10_nextOf_102 : decode cX10_nextOf 102 = .ok (.ifCond .eq 29, 3) := by decide +kernel
theorem dX10_nextOf_105 : decode cX10_nextOf 105 = .ok (.iload_n 3, 1) := by decide +kernel
theorem dX10_nextOf_106 : decode cX10_nextOf 106 = .ok (.iconst (-1), 1) := by decide +kernel
theorem dX10_nextOf_107 : decode cX10_nextOf 107 = .ok (.if_icmp .eq 19, 3) := by decide +kernel
theorem dX10_nextOf_110 : decode cX10_nextOf 110 = .ok (.aload_n 0, 1) := by decide +kernel
theorem dX10_nextOf_111 : decode cX10_nextOf 111 = .ok (.iload 4, 2) := by decide +kernel
theorem dX10_nextOf_113 : decode cX10_nextOf 113 = .ok (.iconst 1, 1) := by decide +kernel
theorem dX10_nextOf_114 : decode cX10_nextOf 114 = .ok (.invokevirtual 80, 3) := by decide +kernel
theorem dX10_nextOf_117 : decode cX10_nextOf 117 = .ok (.aload_n 0, 1) := by decide +kernel
theorem dX10_nextOf_118 : decode cX10_nextOf 118 = .ok (.iload_n 3, 1) := by decide +kernel
theorem dX10_nextOf_119 : decode cX10_nextOf 119 = .ok (.iconst 1, 1) := by decide +kernel
theorem dX10_nextOf_120 : decode cX10_nextOf 120 = .ok (.invokevirtual 80, 3) := by decide +kernel
theorem dX10_nextOf_123 : decode cX10_nextOf 123 = .ok (.if_icmp .le 8, 3) := by decide +kernel
theorem dX10_nextOf_126 : decode cX10_nextOf 126 = .ok (.iload 4, 2) := by decide +kernel
theorem dX10_nextOf_128 : decode cX10_nextOf 128 = .ok (.goto 4, 3) := by decide +kernel
theorem dX10_nextOf_131 : decode cX10_nextOf 131 = .ok (.iload_n 3, 1) := by decide +kernel
theorem dX10_nextOf_132 : decode cX10_nextOf 132 = .ok (.istore_n 3, 1) := by decide +kernel
theorem dX10_nextOf_133 : decode cX10_nextOf 133 = .ok (.iinc 4 1, 3) := by decide +kernel
theorem dX10_nextOf_136 : decode cX10_nextOf 136 = .ok (.goto (-131), 3) := by decide +kernel
theorem dX10_nextOf_139 : decode cX10_nextOf 139 = .ok (.iload_n 3, 1) := by decide +kernel
theorem dX10_nextOf_140 : decode cX10_nextOf 140 = .ok (.ireturn, 1) := by decide +kernel
theorem dX10_makesToken_0 : decode cX10_makesToken 0 = .ok (.iconst (-1), 1) := by decide +kernel
theorem dX10_makesToken_1 : decode cX10_makesToken 1 = .ok (.istore_n 1, 1) := by decide +kernel
theorem dX10_makesToken_2 : decode cX10_makesToken 2 = .ok (.bipush 31, 2) := by decide +kernel
theorem dX10_makesToken_4 : decode cX10_makesToken 4 = .ok (.istore_n 2, 1) := by decide +kernel
theorem dX10_makesToken_5 : decode cX10_makesToken 5 = .ok (.iload_n 2, 1) := by decide +kernel
theorem dX10_makesToken_6 : decode cX10_makesToken 6 = .ok (.ifCond .lt 35, 3) := by decide +kernel
theorem dX10_makesToken_9 : decode cX10_makesToken 9 = .ok (.aload_n 0, 1) := by decide +kernel
theorem dX10_makesToken_10 : decode cX10_makesToken 10 = .ok (.iload_n 2, 1) := by decide +kernel
theorem dX10_makesToken_11 : decode cX10_makesToken 11 = .ok (.iconst 0, 1) := by decide +kernel
theorem dX10_makesToken_12 : decode cX10_makesToken 12 = .ok (.invokevirtual 39, 3) := by decide +kernel
theorem dX10_makesToken_15 : decode cX10_makesToken 15 = .ok (.iconst 1, 1) := by decide +kernel
theorem dX10_makesToken_16 : decode cX10_makesToken 16 = .ok (.if_icmp .ne 17, 3) := by decide +kernel
theorem dX10_makesToken_19 : decode cX10_makesToken 19 = .ok (.aload_n 0, 1) := by decide +kernel
theorem dX10_makesToken_20 : decode cX10_makesToken 20 = .ok (.iload_n 2, 1) := by decide +kernel
theorem dX10_makesToken_21 : decode cX10_makesToken 21 = .ok (.iconst 1, 1) := by decide +kernel
theorem dX10_makesToken_22 : decode cX10_makesToken 22 = .ok (.invokevirtual 39, 3) := by decide +kernel
theorem dX10_makesToken_25 : decode cX10_makesToken 25 = .ok (.iconst 1, 1) := by decide +kernel
theorem dX10_makesToken_26 : decode cX10_makesToken 26 = .ok (.if_icmp .ne 7, 3) := by decide +kernel
theorem dX10_makesToken_29 : decode cX10_makesToken 29 = .ok (.iload_n 2, 1) := by decide +kernel
theorem dX10_makesToken_30 : decode cX10_makesToken 30 = .ok (.goto 4, 3) := by decide +kernel
theorem dX10_makesToken_33 : decode cX10_makesToken 33 = .ok (.iload_n 1, 1) := by decide +kernel
theorem dX10_makesToken_34 : decode cX10_makesToken 34 = .ok (.istore_n 1, 1) := by decide +kernel
theorem dX10_makesToken_35 : decode cX10_makesToken 35 = .ok (.iinc 2 (-1), 3) := by decide +kernel
theorem dX10_makesToken_38 : decode cX10_makesToken 38 = .ok (.goto (-33), 3) := by decide +kernel
theorem dX10_makesToken_41 : decode cX10_makesToken 41 = .ok (.bipush 31, 2) := by decide +kernel
theorem dX10_makesToken_43 : decode cX10_makesToken 43 = .ok (.istore_n 2, 1) := by decide +kernel
theorem dX10_makesToken_44 : decode cX10_makesToken 44 = .ok (.iload_n 2, 1) := by decide +kernel
theorem dX10_makesToken_45 : decode cX10_makesToken 45 = .ok (.ifCond .lt 23, 3) := by decide +kernel
theorem dX10_makesToken_48 : decode cX10_makesToken 48 = .ok (.aload_n 0, 1) := by decide +kernel
theorem dX10_makesToken_49 : decode cX10_makesToken 49 = .ok (.iload_n 2, 1) := by decide +kernel
theorem dX10_makesToken_50 : decode cX10_makesToken 50 = .ok (.invokevirtual 83, 3) := by decide +kernel
theorem dX10_makesToken_53 : decode cX10_makesToken 53 = .ok (.ifCond .eq 7, 3) := by decide +kernel
theorem dX10_makesToken_56 : decode cX10_makesToken 56 = .ok (.iload_n 2, 1) := by decide +kernel
theorem dX10_makesToken_57 : decode cX10_makesToken 57 = .ok (.goto 4, 3) := by decide +kernel
theorem dX10_makesToken_60 : decode cX10_makesToken 60 = .ok (.iload_n 1, 1) := by decide +kernel
theorem dX10_makesToken_61 : decode cX10_makesToken 61 = .ok (.istore_n 1, 1) := by decide +kernel
theorem dX10_makesToken_62 : decode cX10_makesToken 62 = .ok (.iinc 2 (-1), 3) := by decide +kernel
theorem dX10_makesToken_65 : decode cX10_makesToken 65 = .ok (.goto (-21), 3) := by decide +kernel
theorem dX10_makesToken_68 : decode cX10_makesToken 68 = .ok (.iload_n 1, 1) := by decide +kernel
theorem dX10_makesToken_69 : decode cX10_makesToken 69 = .ok (.iconst (-1), 1) := by decide +kernel
theorem dX10_makesToken_70 : decode cX10_makesToken 70 = .ok (.if_icmp .ne 5, 3) := by decide +kernel
theorem dX10_makesToken_73 : decode cX10_makesToken 73 = .ok (.iconst 0, 1) := by decide +kernel
theorem dX10_makesToken_74 : decode cX10_makesToken 74 = .ok (.ireturn, 1) := by decide +kernel
theorem dX10_makesToken_75 : decode cX10_makesToken 75 = .ok (.aload_n 0, 1) := by decide +kernel
theorem dX10_makesToken_76 : decode cX10_makesToken 76 = .ok (.getfield 7, 3) := by decide +kernel
theorem dX10_makesToken_79 : decode cX10_makesToken 79 = .ok (.iconst 3, 1) := by decide +kernel
theorem dX10_makesToken_80 : decode cX10_makesToken 80 = .ok (.dup2, 1) := by decide +kernel
theorem dX10_makesToken_81 : decode cX10_makesToken 81 = .ok (.iaload, 1) := by decide +kernel
theorem dX10_makesToken_82 : decode cX10_makesToken 82 = .ok (.aload_n 0, 1) := by decide +kernel
theorem dX10_makesToken_83 : decode cX10_makesToken 83 = .ok (.getfield 7, 3) := by decide +kernel
theorem dX10_makesToken_86 : decode cX10_makesToken 86 = .ok (.iconst 1, 1) := by decide +kernel
theorem dX10_makesToken_87 : decode cX10_makesToken 87 = .ok (.iaload, 1) := by decide +kernel
theorem dX10_makesToken_88 : decode cX10_makesToken 88 = .ok (.bipush 6, 2) := by decide +kernel
theorem dX10_makesToken_90 : decode cX10_makesToken 90 = .ok (.iconst 2, 1) := by decide +kernel
theorem dX10_makesToken_91 : decode cX10_makesToken 91 = .ok (.iload_n 1, 1) := by decide +kernel
theorem dX10_makesToken_92 : decode cX10_makesToken 92 = .ok (.imul, 1) := by decide +kernel
theorem dX10_makesToken_93 : decode cX10_makesToken 93 = .ok (.iadd, 1) := by decide +kernel
theorem dX10_makesToken_94 : decode cX10_makesToken 94 = .ok (.imul, 1) := by decide +kernel
theorem dX10_makesToken_95 : decode cX10_makesToken 95 = .ok (.iadd, 1) := by decide +kernel
theorem dX10_makesToken_96 : decode cX10_makesToken 96 = .ok (.iastore, 1) := by decide +kernel
theorem dX10_makesToken_97 : decode cX10_makesToken 97 = .ok (.aload_n 0, 1) := by decide +kernel
theorem dX10_makesToken_98 : decode cX10_makesToken 98 = .ok (.iload_n 1, 1) := by decide +kernel
theorem dX10_makesToken_99 : decode cX10_makesToken 99 = .ok (.invokevirtual 83, 3) := by decide +kernel
theorem dX10_makesToken_102 : decode cX10_makesToken 102 = .ok (.ifCond .ne 25, 3) := by decide +kernel
theorem dX10_makesToken_105 : decode cX10_makesToken 105 = .ok (.aload_n 0, 1) := by decide +kernel
theorem dX10_makesToken_106 : decode cX10_makesToken 106 = .ok (.getfield 7, 3) := by decide +kernel
theorem dX10_makesToken_109 : decode cX10_makesToken 109 = .ok (.iload_n 1, 1) := by decide +kernel
theorem dX10_makesToken_110 : decode cX10_makesToken 110 = .ok (.iconst 2, 1) := by decide +kernel
theorem dX10_makesToken_111 : decode cX10_makesToken 111 = .ok (.invokestatic 29, 3) := by decide +kernel
theorem dX10_makesToken_114 : decode cX10_makesToken 114 = .ok (.iconst 1, 1) := by decide +kernel
theorem dX10_makesToken_115 : decode cX10_makesToken 115 = .ok (.iastore, 1) := by decide +kernel
theorem dX10_makesToken_116 : decode cX10_makesToken 116 = .ok (.aload_n 0, 1) := by decide +kernel
theorem dX10_makesToken_117 : decode cX10_makesToken 117 = .ok (.getfield 7, 3) := by decide +kernel
theorem dX10_makesToken_120 : decode cX10_makesToken 120 = .ok (.iload_n 1, 1) := by decide +kernel
theorem dX10_makesToken_121 : decode cX10_makesToken 121 = .ok (.iconst 3, 1) := by decide +kernel
theorem dX10_makesToken_122 : decode cX10_makesToken 122 = .ok (.invokestatic 29, 3) := by decide +kernel
theorem dX10_makesToken_125 : decode cX10_makesToken 125 = .ok (.iload_n 1, 1) := by decide +kernel
theorem dX10_makesToken_126 : decode cX10_makesToken 126 = .ok (.iastore, 1) := by decide +kernel
theorem dX10_makesToken_127 : decode cX10_makesToken 127 = .ok (.aload_n 0, 1) := by decide +kernel
theorem dX10_makesToken_128 : decode cX10_makesToken 128 = .ok (.getfield 7, 3) := by decide +kernel
theorem dX10_makesToken_131 : decode cX10_makesToken 131 = .ok (.iconst 4, 1) := by decide +kernel
theorem dX10_makesToken_132 : decode cX10_makesToken 132 = .ok (.iload_n 1, 1) := by decide +kernel
theorem dX10_makesToken_133 : decode cX10_makesToken 133 = .ok (.iastore, 1) := by decide +kernel
theorem dX10_makesToken_134 : decode cX10_makesToken 134 = .ok (.aload_n 0, 1) := by decide +kernel
theorem dX10_makesToken_135 : decode cX10_makesToken 135 = .ok (.getfield 7, 3) := by decide +kernel
theorem dX10_makesToken_138 : decode cX10_makesToken 138 = .ok (.bipush 12, 2) := by decide +kernel
theorem dX10_makesToken_140 : decode cX10_makesToken 140 = .ok (.dup2, 1) := by decide +kernel
theorem dX10_makesToken_141 : decode cX10_makesToken 141 = .ok (.iaload, 1) := by decide +kernel
theorem dX10_makesToken_142 : decode cX10_makesToken 142 = .ok (.iconst 1, 1) := by decide +kernel
theorem dX10_makesToken_143 : decode cX10_makesToken 143 = .ok (.iadd, 1) := by decide +kernel
theorem dX10_makesToken_144 : decode cX10_makesToken 144 = .ok (.iastore, 1) := by decide +kernel
theorem dX10_makesToken_145 : decode cX10_makesToken 145 = .ok (.iconst 1, 1) := by decide +kernel
theorem dX10_makesToken_146 : decode cX10_makesToken 146 = .ok (.ireturn, 1) := by decide +kernel
theorem dX10_sends_0 : decode cX10_sends 0 = .ok (.aload_n 0, 1) := by decide +kernel
theorem dX10_sends_1 : decode cX10_sends 1 = .ok (.iload_n 1, 1) := by decide +kernel
theorem dX10_sends_2 : decode cX10_sends 2 = .ok (.iconst (-1), 1) := by decide +kernel
theorem dX10_sends_3 : decode cX10_sends 3 = .ok (.invokevirtual 86, 3) := by decide +kernel
theorem dX10_sends_6 : decode cX10_sends 6 = .ok (.istore_n 2, 1) := by decide +kernel
theorem dX10_sends_7 : decode cX10_sends 7 = .ok (.aload_n 0, 1) := by decide +kernel
theorem dX10_sends_8 : decode cX10_sends 8 = .ok (.getfield 7, 3) := by decide +kernel
theorem dX10_sends_11 : decode cX10_sends 11 = .ok (.iconst 3, 1) := by decide +kernel
theorem dX10_sends_12 : decode cX10_sends 12 = .ok (.iaload, 1) := by decide +kernel
theorem dX10_sends_13 : decode cX10_sends 13 = .ok (.istore_n 3, 1) := by decide +kernel
theorem dX10_sends_14 : decode cX10_sends 14 = .ok (.aload_n 0, 1) := by decide +kernel
theorem dX10_sends_15 : decode cX10_sends 15 = .ok (.aload_n 0, 1) := by decide +kernel
theorem dX10_sends_16 : decode cX10_sends 16 = .ok (.iload_n 2, 1) := by decide +kernel
theorem dX10_sends_17 : decode cX10_sends 17 = .ok (.iconst 0, 1) := by decide +kernel
theorem dX10_sends_18 : decode cX10_sends 18 = .ok (.invokevirtual 80, 3) := by decide +kernel
theorem dX10_sends_21 : decode cX10_sends 21 = .ok (.invokevirtual 89, 3) := by decide +kernel
theorem dX10_sends_24 : decode cX10_sends 24 = .ok (.ifCond .eq 5, 3) := by decide +kernel
theorem dX10_sends_27 : decode cX10_sends 27 = .ok (.iconst 1, 1) := by decide +kernel
theorem dX10_sends_28 : decode cX10_sends 28 = .ok (.ireturn, 1) := by decide +kernel
theorem dX10_sends_29 : decode cX10_sends 29 = .ok (.aload_n 0, 1) := by decide +kernel
theorem dX10_sends_30 : decode cX10_sends 30 = .ok (.getfield 7, 3) := by decide +kernel
theorem dX10_sends_33 : decode cX10_sends 33 = .ok (.iload_n 2, 1) := by decide +kernel
theorem dX10_sends_34 : decode cX10_sends 34 = .ok (.iconst 4, 1) := by decide +kernel
theorem dX10_sends_35 : decode cX10_sends 35 = .ok (.invokestatic 42, 3) := by decide +kernel
theorem dX10_sends_38 : decode cX10_sends 38 = .ok (.iload_n 3, 1) := by decide +kernel
theorem dX10_sends_39 : decode cX10_sends 39 = .ok (.aload_n 0, 1) := by decide +kernel
theorem dX10_sends_40 : decode cX10_sends 40 = .ok (.iload_n 2, 1) := by decide +kernel
theorem dX10_sends_41 : decode cX10_sends 41 = .ok (.iconst 3, 1) := by decide +kernel
theorem dX10_sends_42 : decode cX10_sends 42 = .ok (.invokevirtual 80, 3) := by decide +kernel
theorem dX10_sends_45 : decode cX10_sends 45 = .ok (.isub, 1) := by decide +kernel
theorem dX10_sends_46 : decode cX10_sends 46 = .ok (.iastore, 1) := by decide +kernel
theorem dX10_sends_47 : decode cX10_sends 47 = .ok (.aload_n 0, 1) := by decide +kernel
theorem dX10_sends_48 : decode cX10_sends 48 = .ok (.getfield 7, 3) := by decide +kernel
theorem dX10_sends_51 : decode cX10_sends 51 = .ok (.bipush 10, 2) := by decide +kernel
theorem dX10_sends_53 : decode cX10_sends 53 = .ok (.dup2, 1) := by decide +kernel
theorem dX10_sends_54 : decode cX10_sends 54 = .ok (.iaload, 1) := by decide +kernel
theorem dX10_sends_55 : decode cX10_sends 55 = .ok (.iconst 1, 1) := by decide +kernel
theorem dX10_sends_56 : decode cX10_sends 56 = .ok (.iadd, 1) := by decide +kernel
theorem dX10_sends_57 : decode cX10_sends 57 = .ok (.iastore, 1) := by decide +kernel
theorem dX10_sends_58 : decode cX10_sends 58 = .ok (.aload_n 0, 1) := by decide +kernel
theorem dX10_sends_59 : decode cX10_sends 59 = .ok (.getfield 7, 3) := by decide +kernel
theorem dX10_sends_62 : decode cX10_sends 62 = .ok (.bipush 15, 2) := by decide +kernel
theorem dX10_sends_64 : decode cX10_sends 64 = .ok (.dup2, 1) := by decide +kernel
theorem dX10_sends_65 : decode cX10_sends 65 = .ok (.iaload, 1) := by decide +kernel
theorem dX10_sends_66 : decode cX10_sends 66 = .ok (.aload_n 0, 1) := by decide +kernel
theorem dX10_sends_67 : decode cX10_sends 67 = .ok (.iload_n 2, 1) := by decide +kernel
theorem dX10_sends_68 : decode cX10_sends 68 = .ok (.iconst 0, 1) := by decide +kernel
theorem dX10_sends_69 : decode cX10_sends 69 = .ok (.invokevirtual 80, 3) := by decide +kernel
theorem dX10_sends_72 : decode cX10_sends 72 = .ok (.iadd, 1) := by decide +kernel
theorem dX10_sends_73 : decode cX10_sends 73 = .ok (.iastore, 1) := by decide +kernel
theorem dX10_sends_74 : decode cX10_sends 74 = .ok (.iconst 0, 1) := by decide +kernel
theorem dX10_sends_75 : decode cX10_sends 75 = .ok (.ireturn, 1) := by decide +kernel
theorem dX10_sendsAll_0 : decode cX10_sendsAll 0 = .ok (.aload_n 0, 1) := by decide +kernel
theorem dX10_sendsAll_1 : decode cX10_sendsAll 1 = .ok (.iload_n 1, 1) := by decide +kernel
theorem dX10_sendsAll_2 : decode cX10_sendsAll 2 = .ok (.iconst (-1), 1) := by decide +kernel
theorem dX10_sendsAll_3 : decode cX10_sendsAll 3 = .ok (.invokevirtual 86, 3) := by decide +kernel
theorem dX10_sendsAll_6 : decode cX10_sendsAll 6 = .ok (.istore 4, 2) := by decide +kernel
theorem dX10_sendsAll_8 : decode cX10_sendsAll 8 = .ok (.iload 4, 2) := by decide +kernel
theorem dX10_sendsAll_10 : decode cX10_sendsAll 10 = .ok (.iconst (-1), 1) := by decide +kernel
theorem dX10_sendsAll_11 : decode cX10_sendsAll 11 = .ok (.if_icmp .eq 26, 3) := by decide +kernel
theorem dX10_sendsAll_14 : decode cX10_sendsAll 14 = .ok (.aload_n 0, 1) := by decide +kernel
theorem dX10_sendsAll_15 : decode cX10_sendsAll 15 = .ok (.iload 4, 2) := by decide +kernel
theorem dX10_sendsAll_17 : decode cX10_sendsAll 17 = .ok (.iconst 1, 1) := by decide +kernel
theorem dX10_sendsAll_18 : decode cX10_sendsAll 18 = .ok (.invokevirtual 80, 3) := by decide +kernel
theorem dX10_sendsAll_21 : decode cX10_sendsAll 21 = .ok (.iconst 5, 1) := by decide +kernel
theorem dX10_sendsAll_22 : decode cX10_sendsAll 22 = .ok (.if_icmp .lt 15, 3) := by decide +kernel
theorem dX10_sendsAll_25 : decode cX10_sendsAll 25 = .ok (.aload_n 0, 1) := by decide +kernel
theorem dX10_sendsAll_26 : decode cX10_sendsAll 26 = .ok (.iload_n 1, 1) := by decide +kernel
theorem dX10_sendsAll_27 : decode cX10_sendsAll 27 = .ok (.invokevirtual 92, 3) := by decide +kernel
theorem dX10_sendsAll_30 : decode cX10_sendsAll 30 = .ok (.ifCond .eq 7, 3) := by decide +kernel
theorem dX10_sendsAll_33 : decode cX10_sendsAll 33 = .ok (.iconst 1, 1) := by decide +kernel
theorem dX10_sendsAll_34 : decode cX10_sendsAll 34 = .ok (.goto 4, 3) := by decide +kernel
theorem dX10_sendsAll_37 : decode cX10_sendsAll 37 = .ok (.iconst 0, 1) := by decide +kernel
theorem dX10_sendsAll_38 : decode cX10_sendsAll 38 = .ok (.istore 5, 2) := by decide +kernel
theorem dX10_sendsAll_40 : decode cX10_sendsAll 40 = .ok (.iload 5, 2) := by decide +kernel
theorem dX10_sendsAll_42 : decode cX10_sendsAll 42 = .ok (.ifCond .ne 35, 3) := by decide +kernel
theorem dX10_sendsAll_45 : decode cX10_sendsAll 45 = .ok (.aload_n 0, 1) := by decide +kernel
theorem dX10_sendsAll_46 : decode cX10_sendsAll 46 = .ok (.iload_n 1, 1) := by decide +kernel
theorem dX10_sendsAll_47 : decode cX10_sendsAll 47 = .ok (.iconst (-1), 1) := by decide +kernel
theorem dX10_sendsAll_48 : decode cX10_sendsAll 48 = .ok (.invokevirtual 86, 3) := by decide +kernel
theorem dX10_sendsAll_51 : decode cX10_sendsAll 51 = .ok (.iconst (-1), 1) := by decide +kernel
theorem dX10_sendsAll_52 : decode cX10_sendsAll 52 = .ok (.if_icmp .eq 25, 3) := by decide +kernel
theorem dX10_sendsAll_55 : decode cX10_sendsAll 55 = .ok (.aload_n 0, 1) := by decide +kernel
theorem dX10_sendsAll_56 : decode cX10_sendsAll 56 = .ok (.getfield 7, 3) := by decide +kernel
theorem dX10_sendsAll_59 : decode cX10_sendsAll 59 = .ok (.iconst 3, 1) := by decide +kernel
theorem dX10_sendsAll_60 : decode cX10_sendsAll 60 = .ok (.iaload, 1) := by decide +kernel
theorem dX10_sendsAll_61 : decode cX10_sendsAll 61 = .ok (.iload_n 2, 1) := by decide +kernel
theorem dX10_sendsAll_62 : decode cX10_sendsAll 62 = .ok (.isub, 1) := by decide +kernel
theorem dX10_sendsAll_63 : decode cX10_sendsAll 63 = .ok (.iload_n 3, 1) := by decide +kernel
theorem dX10_sendsAll_64 : decode cX10_sendsAll 64 = .ok (.if_icmp .ge 13, 3) := by decide +kernel
theorem dX10_sendsAll_67 : decode cX10_sendsAll 67 = .ok (.aload_n 0, 1) := by decide +kernel
theorem dX10_sendsAll_68 : decode cX10_sendsAll 68 = .ok (.iload_n 1, 1) := by decide +kernel
theorem dX10_sendsAll_69 : decode cX10_sendsAll 69 = .ok (.invokevirtual 92, 3) := by decide +kernel
theorem dX10_sendsAll_72 : decode cX10_sendsAll 72 = .ok (.istore 5, 2) := by decide +kernel
theorem dX10_sendsAll_74 : decode cX10_sendsAll 74 = .ok (.goto (-34), 3) := by decide +kernel
theorem dX10_sendsAll_77 : decode cX10_sendsAll 77 = .ok (.return_, 1) := by decide +kernel
