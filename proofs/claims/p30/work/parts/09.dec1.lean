theorem dX0_init_0 : decode cX0_init 0 = .ok (.aload_n 0, 1) := by decide +kernel
theorem dX0_init_1 : decode cX0_init 1 = .ok (.invokespecial 1, 3) := by decide +kernel
theorem dX0_init_4 : decode cX0_init 4 = .ok (.return_, 1) := by decide +kernel
theorem dX0_copyFrom_0 : decode cX0_copyFrom 0 = .ok (.aload_n 0, 1) := by decide +kernel
theorem dX0_copyFrom_1 : decode cX0_copyFrom 1 = .ok (.aload_n 1, 1) := by decide +kernel
theorem dX0_copyFrom_2 : decode cX0_copyFrom 2 = .ok (.getfield 7, 3) := by decide +kernel
theorem dX0_copyFrom_5 : decode cX0_copyFrom 5 = .ok (.putfield 7, 3) := by decide +kernel
theorem dX0_copyFrom_8 : decode cX0_copyFrom 8 = .ok (.aload_n 0, 1) := by decide +kernel
theorem dX0_copyFrom_9 : decode cX0_copyFrom 9 = .ok (.aload_n 1, 1) := by decide +kernel
theorem dX0_copyFrom_10 : decode cX0_copyFrom 10 = .ok (.getfield 13, 3) := by decide +kernel
theorem dX0_copyFrom_13 : decode cX0_copyFrom 13 = .ok (.putfield 13, 3) := by decide +kernel
theorem dX0_copyFrom_16 : decode cX0_copyFrom 16 = .ok (.aload_n 0, 1) := by decide +kernel
theorem dX0_copyFrom_17 : decode cX0_copyFrom 17 = .ok (.aload_n 1, 1) := by decide +kernel
theorem dX0_copyFrom_18 : decode cX0_copyFrom 18 = .ok (.getfield 16, 3) := by decide +kernel
theorem dX0_copyFrom_21 : decode cX0_copyFrom 21 = .ok (.putfield 16, 3) := by decide +kernel
theorem dX0_copyFrom_24 : decode cX0_copyFrom 24 = .ok (.aload_n 0, 1) := by decide +kernel
theorem dX0_copyFrom_25 : decode cX0_copyFrom 25 = .ok (.aload_n 1, 1) := by decide +kernel
theorem dX0_copyFrom_26 : decode cX0_copyFrom 26 = .ok (.getfield 19, 3) := by decide +kernel
theorem dX0_copyFrom_29 : decode cX0_copyFrom 29 = .ok (.putfield 19, 3) := by decide +kernel
theorem dX0_copyFrom_32 : decode cX0_copyFrom 32 = .ok (.aload_n 0, 1) := by decide +kernel
theorem dX0_copyFrom_33 : decode cX0_copyFrom 33 = .ok (.aload_n 1, 1) := by decide +kernel
theorem dX0_copyFrom_34 : decode cX0_copyFrom 34 = .ok (.getfield 22, 3) := by decide +kernel
theorem dX0_copyFrom_37 : decode cX0_copyFrom 37 = .ok (.putfield 22, 3) := by decide +kernel
theorem dX0_copyFrom_40 : decode cX0_copyFrom 40 = .ok (.aload_n 0, 1) := by decide +kernel
theorem dX0_copyFrom_41 : decode cX0_copyFrom 41 = .ok (.aload_n 1, 1) := by decide +kernel
theorem dX0_copyFrom_42 : decode cX0_copyFrom 42 = .ok (.getfield 25, 3) := by decide +kernel
theorem dX0_copyFrom_45 : decode cX0_copyFrom 45 = .ok (.putfield 25, 3) := by decide +kernel
theorem dX0_copyFrom_48 : decode cX0_copyFrom 48 = .ok (.aload_n 0, 1) := by decide +kernel
theorem dX0_copyFrom_49 : decode cX0_copyFrom 49 = .ok (.aload_n 1, 1) := by decide +kernel
theorem dX0_copyFrom_50 : decode cX0_copyFrom 50 = .ok (.getfield 28, 3) := by decide +kernel
theorem dX0_copyFrom_53 : decode cX0_copyFrom 53 = .ok (.putfield 28, 3) := by decide +kernel
theorem dX0_copyFrom_56 : decode cX0_copyFrom 56 = .ok (.aload_n 0, 1) := by decide +kernel
theorem dX0_copyFrom_57 : decode cX0_copyFrom 57 = .ok (.aload_n 1, 1) := by decide +kernel
theorem dX0_copyFrom_58 : decode cX0_copyFrom 58 = .ok (.getfield 31, 3) := by decide +kernel
theorem dX0_copyFrom_61 : decode cX0_copyFrom 61 = .ok (.putfield 31, 3) := by decide +kernel
theorem dX0_copyFrom_64 : decode cX0_copyFrom 64 = .ok (.aload_n 0, 1) := by decide +kernel
theorem dX0_copyFrom_65 : decode cX0_copyFrom 65 = .ok (.aload_n 1, 1) := by decide +kernel
theorem dX0_copyFrom_66 : decode cX0_copyFrom 66 = .ok (.getfield 34, 3) := by decide +kernel
theorem dX0_copyFrom_69 : decode cX0_copyFrom 69 = .ok (.putfield 34, 3) := by decide +kernel
theorem dX0_copyFrom_72 : decode cX0_copyFrom 72 = .ok (.aload_n 0, 1) := by decide +kernel
theorem dX0_copyFrom_73 : decode cX0_copyFrom 73 = .ok (.aload_n 1, 1) := by decide +kernel
theorem dX0_copyFrom_74 : decode cX0_copyFrom 74 = .ok (.getfield 37, 3) := by decide +kernel
theorem dX0_copyFrom_77 : decode cX0_copyFrom 77 = .ok (.putfield 37, 3) := by decide +kernel
theorem dX0_copyFrom_80 : decode cX0_copyFrom 80 = .ok (.return_, 1) := by decide +kernel
theorem dX0_addSent_0 : decode cX0_addSent 0 = .ok (.aload_n 0, 1) := by decide +kernel
theorem dX0_addSent_1 : decode cX0_addSent 1 = .ok (.dup, 1) := by decide +kernel
theorem dX0_addSent_2 : decode cX0_addSent 2 = .ok (.getfield 13, 3) := by decide +kernel
theorem dX0_addSent_5 : decode cX0_addSent 5 = .ok (.iconst 1, 1) := by decide +kernel
theorem dX0_addSent_6 : decode cX0_addSent 6 = .ok (.iadd, 1) := by decide +kernel
theorem dX0_addSent_7 : decode cX0_addSent 7 = .ok (.putfield 13, 3) := by decide +kernel
theorem dX0_addSent_10 : decode cX0_addSent 10 = .ok (.aload_n 0, 1) := by decide +kernel
theorem dX0_addSent_11 : decode cX0_addSent 11 = .ok (.dup, 1) := by decide +kernel
theorem dX0_addSent_12 : decode cX0_addSent 12 = .ok (.getfield 28, 3) := by decide +kernel
theorem dX0_addSent_15 : decode cX0_addSent 15 = .ok (.iload_n 1, 1) := by decide +kernel
theorem dX0_addSent_16 : decode cX0_addSent 16 = .ok (.iadd, 1) := by decide +kernel
theorem dX0_addSent_17 : decode cX0_addSent 17 = .ok (.putfield 28, 3) := by decide +kernel
theorem dX0_addSent_20 : decode cX0_addSent 20 = .ok (.aload_n 0, 1) := by decide +kernel
theorem dX0_addSent_21 : decode cX0_addSent 21 = .ok (.dup, 1) := by decide +kernel
theorem dX0_addSent_22 : decode cX0_addSent 22 = .ok (.getfield 37, 3) := by decide +kernel
theorem dX0_addSent_25 : decode cX0_addSent 25 = .ok (.iload_n 2, 1) := by decide +kernel
theorem dX0_addSent_26 : decode cX0_addSent 26 = .ok (.i2l, 1) := by decide +kernel
theorem dX0_addSent_27 : decode cX0_addSent 27 = .ok (.ladd, 1) := by decide +kernel
theorem dX0_addSent_28 : decode cX0_addSent 28 = .ok (.putfield 37, 3) := by decide +kernel
theorem dX0_addSent_31 : decode cX0_addSent 31 = .ok (.aload_n 0, 1) := by decide +kernel
theorem dX0_addSent_32 : decode cX0_addSent 32 = .ok (.aload_n 0, 1) := by decide +kernel
theorem dX0_addSent_33 : decode cX0_addSent 33 = .ok (.getfield 34, 3) := by decide +kernel
theorem dX0_addSent_36 : decode cX0_addSent 36 = .ok (.iload_n 2, 1) := by decide +kernel
theorem dX0_addSent_37 : decode cX0_addSent 37 = .ok (.invokestatic 41, 3) := by decide +kernel
theorem dX0_addSent_40 : decode cX0_addSent 40 = .ok (.putfield 34, 3) := by decide +kernel
theorem dX0_addSent_43 : decode cX0_addSent 43 = .ok (.return_, 1) := by decide +kernel
theorem dX0_value_0 : decode cX0_value 0 = .ok (.iload_n 1, 1) := by decide +kernel
theorem dX0_value_1 : decode cX0_value 1 = .ok (.tableswitch 69 0 5 #[39, 44, 49, 54, 59, 64], 39) := by decide +kernel
theorem dX0_value_40 : decode cX0_value 40 = .ok (.aload_n 0, 1) := by decide +kernel
theorem dX0_value_41 : decode cX0_value 41 = .ok (.getfield 7, 3) := by decide +kernel
theorem dX0_value_44 : decode cX0_value 44 = .ok (.ireturn, 1) := by decide +kernel
theorem dX0_value_45 : decode cX0_value 45 = .ok (.aload_n 0, 1) := by decide +kernel
theorem dX0_value_46 : decode cX0_value 46 = .ok (.getfield 13, 3) := by decide +kernel
theorem dX0_value_49 : decode cX0_value 49 = .ok (.ireturn, 1) := by decide +kernel
theorem dX0_value_50 : decode cX0_value 50 = .ok (.aload_n 0, 1) := by decide +kernel
theorem dX0_value_51 : decode cX0_value 51 = .ok (.getfield 16, 3) := by decide +kernel
theorem dX0_value_54 : decode cX0_value 54 = .ok (.ireturn, 1) := by decide +kernel
theorem dX0_value_55 : decode cX0_value 55 = .ok (.aload_n 0, 1) := by decide +kernel
theorem dX0_value_56 : decode cX0_value 56 = .ok (.getfield 19, 3) := by decide +kernel
theorem dX0_value_59 : decode cX0_value 59 = .ok (.ireturn, 1) := by decide +kernel
theorem dX0_value_60 : decode cX0_value 60 = .ok (.aload_n 0, 1) := by decide +kernel
theorem dX0_value_61 : decode cX0_value 61 = .ok (.getfield 22, 3) := by decide +kernel
theorem dX0_value_64 : decode cX0_value 64 = .ok (.ireturn, 1) := by decide +kernel
theorem dX0_value_65 : decode cX0_value 65 = .ok (.aload_n 0, 1) := by decide +kernel
theorem dX0_value_66 : decode cX0_value 66 = .ok (.getfield 25, 3) := by decide +kernel
theorem dX0_value_69 : decode cX0_value 69 = .ok (.ireturn, 1) := by decide +kernel
theorem dX0_value_70 : decode cX0_value 70 = .ok (.aload_n 0, 1) := by decide +kernel
theorem dX0_value_71 : decode cX0_value 71 = .ok (.getfield 28, 3) := by decide +kernel
theorem dX0_value_74 : decode cX0_value 74 = .ok (.ireturn, 1) := by decide +kernel
theorem dX1_init_0 : decode cX1_init 0 = .ok (.aload_n 0, 1) := by decide +kernel
theorem dX1_init_1 : decode cX1_init 1 = .ok (.invokespecial 3, 3) := by decide +kernel
theorem dX1_init_4 : decode cX1_init 4 = .ok (.aload_n 0, 1) := by decide +kernel
theorem dX1_init_5 : decode cX1_init 5 = .ok (.iconst 4, 1) := by decide +kernel
theorem dX1_init_6 : decode cX1_init 6 = .ok (.anewarray 9, 3) := by decide +kernel
theorem dX1_init_9 : decode cX1_init 9 = .ok (.putfield 11, 3) := by decide +kernel
theorem dX1_init_12 : decode cX1_init 12 = .ok (.iconst 0, 1) := by decide +kernel
theorem dX1_init_13 : decode cX1_init 13 = .ok (.istore_n 1, 1) := by decide +kernel
theorem dX1_init_14 : decode cX1_init 14 = .ok (.iload_n 1, 1) := by decide +kernel
theorem dX1_init_15 : decode cX1_init 15 = .ok (.aload_n 0, 1) := by decide +kernel
theorem dX1_init_16 : decode cX1_init 16 = .ok (.getfield 11, 3) := by decide +kernel
theorem dX1_init_19 : decode cX1_init 19 = .ok (.arraylength, 1) := by decide +kernel
theorem dX1_init_20 : decode cX1_init 20 = .ok (.if_icmp .ge 22, 3) := by decide +kernel
theorem dX1_init_23 : decode cX1_init 23 = .ok (.aload_n 0, 1) := by decide +kernel
theorem dX1_init_24 : decode cX1_init 24 = .ok (.getfield 11, 3) := by decide +kernel
theorem dX1_init_27 : decode cX1_init 27 = .ok (.iload_n 1, 1) := by decide +kernel
theorem dX1_init_28 : decode cX1_init 28 = .ok (.new 9, 3) := by decide +kernel
theorem dX1_init_31 : decode cX1_init 31 = .ok (.dup, 1) := by decide +kernel
theorem dX1_init_32 : decode cX1_init 32 = .ok (.invokespecial 17, 3) := by decide +kernel
theorem dX1_init_35 : decode cX1_init 35 = .ok (.aastore, 1) := by decide +kernel
theorem dX1_init_36 : decode cX1_init 36 = .ok (.iinc 1 1, 3) := by decide +kernel
theorem dX1_init_39 : decode cX1_init 39 = .ok (.goto (-25), 3) := by decide +kernel
theorem dX1_init_42 : decode cX1_init 42 = .ok (.return_, 1) := by decide +kernel
theorem dX1_save_0 : decode cX1_save 0 = .ok (.aload_n 0, 1) := by decide +kernel
theorem dX1_save_1 : decode cX1_save 1 = .ok (.getfield 18, 3) := by decide +kernel
theorem dX1_save_4 : decode cX1_save 4 = .ok (.aload_n 0, 1) := by decide +kernel
theorem dX1_save_5 : decode cX1_save 5 = .ok (.getfield 11, 3) := by decide +kernel
theorem dX1_save_8 : decode cX1_save 8 = .ok (.arraylength, 1) := by decide +kernel
theorem dX1_save_9 : decode cX1_save 9 = .ok (.if_icmp .lt 7, 3) := by decide +kernel
theorem dX1_save_12 : decode cX1_save 12 = .ok (.aload_n 0, 1) := by decide +kernel
theorem dX1_save_13 : decode cX1_save 13 = .ok (.invokevirtual 22, 3) := by decide +kernel
theorem dX1_save_16 : decode cX1_save 16 = .ok (.aload_n 0, 1) := by decide +kernel
theorem dX1_save_17 : decode cX1_save 17 = .ok (.aload_n 0, 1) := by decide +kernel
theorem dX1_save_18 : decode cX1_save 18 = .ok (.getfield 18, 3) := by decide +kernel
theorem dX1_save_21 : decode cX1_save 21 = .ok (.invokevirtual 25, 3) := by decide +kernel
theorem dX1_save_24 : decode cX1_save 24 = .ok (.astore_n 2, 1) := by decide +kernel
theorem dX1_save_25 : decode cX1_save 25 = .ok (.aload_n 2, 1) := by decide +kernel
theorem dX1_save_26 : decode cX1_save 26 = .ok (.ifnull 18, 3) := by decide +kernel
theorem dX1_save_29 : decode cX1_save 29 = .ok (.aload_n 2, 1) := by decide +kernel
theorem dX1_save_30 : decode cX1_save 30 = .ok (.aload_n 1, 1) := by decide +kernel
theorem dX1_save_31 : decode cX1_save 31 = .ok (.invokevirtual 29, 3) := by decide +kernel
theorem dX1_save_34 : decode cX1_save 34 = .ok (.aload_n 0, 1) := by decide +kernel
theorem dX1_save_35 : decode cX1_save 35 = .ok (.dup, 1) := by decide +kernel
theorem dX1_save_36 : decode cX1_save 36 = .ok (.getfield 18, 3) := by decide +kernel
theorem dX1_save_39 : decode cX1_save 39 = .ok (.iconst 1, 1) := by decide +kernel
theorem dX1_save_40 : decode cX1_save 40 = .ok (.iadd, 1) := by decide +kernel
theorem dX1_save_41 : decode cX1_save 41 = .ok (.putfield 18, 3) := by decide +kernel
theorem dX1_save_44 : decode cX1_save 44 = .ok (.return_, 1) := by decide +kernel
theorem dX1_dropOldest_0 : decode cX1_dropOldest 0 = .ok (.aload_n 0, 1) := by decide +kernel
theorem dX1_dropOldest_1 : decode cX1_dropOldest 1 = .ok (.iconst 0, 1) := by decide +kernel
theorem dX1_dropOldest_2 : decode cX1_dropOldest 2 = .ok (.invokevirtual 25, 3) := by decide +kernel
theorem dX1_dropOldest_5 : decode cX1_dropOldest 5 = .ok (.astore_n 1, 1) := by decide +kernel
theorem dX1_dropOldest_6 : decode cX1_dropOldest 6 = .ok (.iconst 0, 1) := by decide +kernel
theorem dX1_dropOldest_7 : decode cX1_dropOldest 7 = .ok (.istore_n 2, 1) := by decide +kernel
theorem dX1_dropOldest_8 : decode cX1_dropOldest 8 = .ok (.iload_n 2, 1) := by decide +kernel
theorem dX1_dropOldest_9 : decode cX1_dropOldest 9 = .ok (.iconst 1, 1) := by decide +kernel
theorem dX1_dropOldest_10 : decode cX1_dropOldest 10 = .ok (.iadd, 1) := by decide +kernel
theorem dX1_dropOldest_11 : decode cX1_dropOldest 11 = .ok (.aload_n 0, 1) := by decide +kernel
theorem dX1_dropOldest_12 : decode cX1_dropOldest 12 = .ok (.getfield 11, 3) := by decide +kernel
theorem dX1_dropOldest_15 : decode cX1_dropOldest 15 = .ok (.arraylength, 1) := by decide +kernel
theorem dX1_dropOldest_16 : decode cX1_dropOldest 16 = .ok (.if_icmp .ge 23, 3) := by decide +kernel
theorem dX1_dropOldest_19 : decode cX1_dropOldest 19 = .ok (.aload_n 0, 1) := by decide +kernel
theorem dX1_dropOldest_20 : decode cX1_dropOldest 20 = .ok (.getfield 11, 3) := by decide +kernel
theorem dX1_dropOldest_23 : decode cX1_dropOldest 23 = .ok (.iload_n 2, 1) := by decide +kernel
theorem dX1_dropOldest_24 : decode cX1_dropOldest 24 = .ok (.aload_n 0, 1) := by decide +kernel
theorem dX1_dropOldest_25 : decode cX1_dropOldest 25 = .ok (.getfield 11, 3) := by decide +kernel
theorem dX1_dropOldest_28 : decode cX1_dropOldest 28 = .ok (.iload_n 2, 1) := by decide +kernel
theorem dX1_dropOldest_29 : decode cX1_dropOldest 29 = .ok (.iconst 1, 1) := by decide +kernel
theorem dX1_dropOldest_30 : decode cX1_dropOldest 30 = .ok (.iadd, 1) := by decide +kernel
theorem dX1_dropOldest_31 : decode cX1_dropOldest 31 = .ok (.aaload, 1) := by decide +kernel
theorem dX1_dropOldest_32 : decode cX1_dropOldest 32 = .ok (.aastore, 1) := by decide +kernel
theorem dX1_dropOldest_33 : decode cX1_dropOldest 33 = .ok (.iinc 2 1, 3) := by decide +kernel
theorem dX1_dropOldest_36 : decode cX1_dropOldest 36 = .ok (.goto (-28), 3) := by decide +kernel
theorem dX1_dropOldest_39 : decode cX1_dropOldest 39 = .ok (.iload_n 2, 1) := by decide +kernel
theorem dX1_dropOldest_40 : decode cX1_dropOldest 40 = .ok (.aload_n 0, 1) := by decide +kernel
theorem dX1_dropOldest_41 : decode cX1_dropOldest 41 = .ok (.getfield 11, 3) := by decide +kernel
theorem dX1_dropOldest_44 : decode cX1_dropOldest 44 = .ok (.arraylength, 1) := by decide +kernel
theorem dX1_dropOldest_45 : decode cX1_dropOldest 45 = .ok (.if_icmp .ge 15, 3) := by decide +kernel
theorem dX1_dropOldest_48 : decode cX1_dropOldest 48 = .ok (.aload_n 0, 1) := by decide +kernel
theorem dX1_dropOldest_49 : decode cX1_dropOldest 49 = .ok (.getfield 11, 3) := by decide +kernel
theorem dX1_dropOldest_52 : decode cX1_dropOldest 52 = .ok (.iload_n 2, 1) := by decide +kernel
theorem dX1_dropOldest_53 : decode cX1_dropOldest 53 = .ok (.aload_n 1, 1) := by decide +kernel
theorem dX1_dropOldest_54 : decode cX1_dropOldest 54 = .ok (.aastore, 1) := by decide +kernel
theorem dX1_dropOldest_55 : decode cX1_dropOldest 55 = .ok (.aload_n 0, 1) := by decide +kernel
theorem dX1_dropOldest_56 : decode cX1_dropOldest 56 = .ok (.iload_n 2, 1) := by decide +kernel
theorem dX1_dropOldest_57 : decode cX1_dropOldest 57 = .ok (.putfield 18, 3) := by decide +kernel
theorem dX1_dropOldest_60 : decode cX1_dropOldest 60 = .ok (.return_, 1) := by decide +kernel
theorem dX1_restore_0 : decode cX1_restore 0 = .ok (.aload_n 0, 1) := by decide +kernel
theorem dX1_restore_1 : decode cX1_restore 1 = .ok (.aload_n 0, 1) := by decide +kernel
theorem dX1_restore_2 : decode cX1_restore 2 = .ok (.getfield 18, 3) := by decide +kernel
theorem dX1_restore_5 : decode cX1_restore 5 = .ok (.iconst 1, 1) := by decide +kernel
theorem dX1_restore_6 : decode cX1_restore 6 = .ok (.isub, 1) := by decide +kernel
theorem dX1_restore_7 : decode cX1_restore 7 = .ok (.invokevirtual 25, 3) := by decide +kernel
theorem dX1_restore_10 : decode cX1_restore 10 = .ok (.astore_n 2, 1) := by decide +kernel
theorem dX1_restore_11 : decode cX1_restore 11 = .ok (.aload_n 2, 1) := by decide +kernel
theorem dX1_restore_12 : decode cX1_restore 12 = .ok (.ifnull 18, 3) := by decide +kernel
theorem dX1_restore_15 : decode cX1_restore 15 = .ok (.aload_n 1, 1) := by decide +kernel
theorem dX1_restore_16 : decode cX1_restore 16 = .ok (.aload_n 2, 1) := by decide +kernel
theorem dX1_restore_17 : decode cX1_restore 17 = .ok (.invokevirtual 29, 3) := by decide +kernel
theorem dX1_restore_20 : decode cX1_restore 20 = .ok (.aload_n 0, 1) := by decide +kernel
theorem dX1_restore_21 : decode cX1_restore 21 = .ok (.dup, 1) := by decide +kernel
theorem dX1_restore_22 : decode cX1_restore 22 = .ok (.getfield 18, 3) := by decide +kernel
theorem dX1_restore_25 : decode cX1_restore 25 = .ok (.iconst 1, 1) := by decide +kernel
theorem dX1_restore_26 : decode cX1_restore 26 = .ok (.isub, 1) := by decide +kernel
theorem dX1_restore_27 : decode cX1_restore 27 = .ok (.putfield 18, 3) := by decide +kernel
theorem dX1_restore_30 : decode cX1_restore 30 = .ok (.return_, 1) := by decide +kernel
theorem dX1_stateAt_0 : decode cX1_stateAt 0 = .ok (.iload_n 1, 1) := by decide +kernel
theorem dX1_stateAt_1 : decode cX1_stateAt 1 = .ok (.ifCond .lt 21, 3) := by decide +kernel
theorem dX1_stateAt_4 : decode cX1_stateAt 4 = .ok (.iload_n 1, 1) := by decide +kernel
theorem dX1_stateAt_5 : decode cX1_stateAt 5 = .ok (.aload_n 0, 1) := by decide +kernel
theorem dX1_stateAt_6 : decode cX1_stateAt 6 = .ok (.getfield 11, 3) := by decide +kernel
theorem dX1_stateAt_9 : decode cX1_stateAt 9 = .ok (.arraylength, 1) := by decide +kernel
theorem dX1_stateAt_10 : decode cX1_stateAt 10 = .ok (.if_icmp .ge 12, 3) := by decide +kernel
theorem dX1_stateAt_13 : decode cX1_stateAt 13 = .ok (.aload_n 0, 1) := by decide +kernel
theorem dX1_stateAt_14 : decode cX1_stateAt 14 = .ok (.getfield 11, 3) := by decide +kernel
theorem dX1_stateAt_17 : decode cX1_stateAt 17 = .ok (.iload_n 1, 1) := by decide +kernel
theorem dX1_stateAt_18 : decode cX1_stateAt 18 = .ok (.aaload, 1) := by decide +kernel
theorem dX1_stateAt_19 : decode cX1_stateAt 19 = .ok (.goto 4, 3) := by decide +kernel
theorem dX1_stateAt_22 : decode cX1_stateAt 22 = .ok (.aconst_null, 1) := by decide +kernel
theorem dX1_stateAt_23 : decode cX1_stateAt 23 = .ok (.areturn, 1) := by decide +kernel
theorem dX2_init_0 : decode cX2_init 0 = .ok (.aload_n 0, 1) := by decide +kernel
theorem dX2_init_1 : decode cX2_init 1 = .ok (.invokespecial 3, 3) := by decide +kernel
theorem dX2_init_4 : decode cX2_init 4 = .ok (.aload_n 0, 1) := by decide +kernel
theorem dX2_init_5 : decode cX2_init 5 = .ok (.bipush 8, 2) := by decide +kernel
theorem dX2_init_7 : decode cX2_init 7 = .ok (.anewarray 9, 3) := by decide +kernel
theorem dX2_init_10 : decode cX2_init 10 = .ok (.putfield 11, 3) := by decide +kernel
theorem dX2_init_13 : decode cX2_init 13 = .ok (.aload_n 0, 1) := by decide +kernel
theorem dX2_init_14 : decode cX2_init 14 = .ok (.new 17, 3) := by decide +kernel
theorem dX2_init_17 : decode cX2_init 17 = .ok (.dup, 1) := by decide +kernel
theorem dX2_init_18 : decode cX2_init 18 = .ok (.invokespecial 19, 3) := by decide +kernel
theorem dX2_init_21 : decode cX2_init 21 = .ok (.putfield 20, 3) := by decide +kernel
theorem dX2_init_24 : decode cX2_init 24 = .ok (.aload_n 0, 1) := by decide +kernel
theorem dX2_init_25 : decode cX2_init 25 = .ok (.new 24, 3) := by decide +kernel
theorem dX2_init_28 : decode cX2_init 28 = .ok (.dup, 1) := by decide +kernel
theorem dX2_init_29 : decode cX2_init 29 = .ok (.invokespecial 26, 3) := by decide +kernel
theorem dX2_init_32 : decode cX2_init 32 = .ok (.putfield 27, 3) := by decide +kernel
theorem dX2_init_35 : decode cX2_init 35 = .ok (.aload_n 0, 1) := by decide +kernel
theorem dX2_init_36 : decode cX2_init 36 = .ok (.new 31, 3) := by decide +kernel
theorem dX2_init_39 : decode cX2_init 39 = .ok (.dup, 1) := by decide +kernel
theorem dX2_init_40 : decode cX2_init 40 = .ok (.invokespecial 33, 3) := by decide +kernel
theorem dX2_init_43 : decode cX2_init 43 = .ok (.putfield 34, 3) := by decide +kernel
theorem dX2_init_46 : decode cX2_init 46 = .ok (.aload_n 0, 1) := by decide +kernel
theorem dX2_init_47 : decode cX2_init 47 = .ok (.new 38, 3) := by decide +kernel
theorem dX2_init_50 : decode cX2_init 50 = .ok (.dup, 1) := by decide +kernel
theorem dX2_init_51 : decode cX2_init 51 = .ok (.bipush 40, 2) := by decide +kernel
theorem dX2_init_53 : decode cX2_init 53 = .ok (.iconst 4, 1) := by decide +kernel
theorem dX2_init_54 : decode cX2_init 54 = .ok (.invokespecial 40, 3) := by decide +kernel
theorem dX2_init_57 : decode cX2_init 57 = .ok (.putfield 43, 3) := by decide +kernel
theorem dX2_init_60 : decode cX2_init 60 = .ok (.aload_n 0, 1) := by decide +kernel
theorem dX2_init_61 : decode cX2_init 61 = .ok (.bipush 60, 2) := by decide +kernel
theorem dX2_init_63 : decode cX2_init 63 = .ok (.putfield 47, 3) := by decide +kernel
theorem dX2_init_66 : decode cX2_init 66 = .ok (.aload_n 0, 1) := by decide +kernel
theorem dX2_init_67 : decode cX2_init 67 = .ok (.iconst 4, 1) := by decide +kernel
theorem dX2_init_68 : decode cX2_init 68 = .ok (.putfield 51, 3) := by decide +kernel
theorem dX2_init_71 : decode cX2_init 71 = .ok (.aload_n 0, 1) := by decide +kernel
theorem dX2_init_72 : decode cX2_init 72 = .ok (.iconst 3, 1) := by decide +kernel
theorem dX2_init_73 : decode cX2_init 73 = .ok (.putfield 54, 3) := by decide +kernel
theorem dX2_init_76 : decode cX2_init 76 = .ok (.aload_n 0, 1) := by decide +kernel
theorem dX2_init_77 : decode cX2_init 77 = .ok (.iconst (-1), 1) := by decide +kernel
theorem dX2_init_78 : decode cX2_init 78 = .ok (.putfield 57, 3) := by decide +kernel
theorem dX2_init_81 : decode cX2_init 81 = .ok (.iconst 0, 1) := by decide +kernel
theorem dX2_init_82 : decode cX2_init 82 = .ok (.istore_n 1, 1) := by decide +kernel
theorem dX2_init_83 : decode cX2_init 83 = .ok (.iload_n 1, 1) := by decide +kernel
theorem dX2_init_84 : decode cX2_init 84 = .ok (.aload_n 0, 1) := by decide +kernel
theorem dX2_init_85 : decode cX2_init 85 = .ok (.getfield 11, 3) := by decide +kernel
theorem dX2_init_88 : decode cX2_init 88 = .ok (.arraylength, 1) := by decide +kernel
theorem dX2_init_89 : decode cX2_init 89 = .ok (.if_icmp .ge 22, 3) := by decide +kernel
theorem dX2_init_92 : decode cX2_init 92 = .ok (.aload_n 0, 1) := by decide +kernel
theorem dX2_init_93 : decode cX2_init 93 = .ok (.getfield 11, 3) := by decide +kernel
theorem dX2_init_96 : decode cX2_init 96 = .ok (.iload_n 1, 1) := by decide +kernel
theorem dX2_init_97 : decode cX2_init 97 = .ok (.new 9, 3) := by decide +kernel
theorem dX2_init_100 : decode cX2_init 100 = .ok (.dup, 1) := by decide +kernel
theorem dX2_init_101 : decode cX2_init 101 = .ok (.invokespecial 60, 3) := by decide +kernel
theorem dX2_init_104 : decode cX2_init 104 = .ok (.aastore, 1) := by decide +kernel
theorem dX2_init_105 : decode cX2_init 105 = .ok (.iinc 1 1, 3) := by decide +kernel
theorem dX2_init_108 : decode cX2_init 108 = .ok (.goto (-25), 3) := by decide +kernel
theorem dX2_init_111 : decode cX2_init 111 = .ok (.return_, 1) := by decide +kernel
theorem dX2_takeTimes_0 : decode cX2_takeTimes 0 = .ok (.aload_n 0, 1) := by decide +kernel
theorem dX2_takeTimes_1 : decode cX2_takeTimes 1 = .ok (.aload_n 1, 1) := by decide +kernel
theorem dX2_takeTimes_2 : decode cX2_takeTimes 2 = .ok (.getfield 47, 3) := by decide +kernel
theorem dX2_takeTimes_5 : decode cX2_takeTimes 5 = .ok (.putfield 47, 3) := by decide +kernel
theorem dX2_takeTimes_8 : decode cX2_takeTimes 8 = .ok (.aload_n 0, 1) := by decide +kernel
theorem dX2_takeTimes_9 : decode cX2_takeTimes 9 = .ok (.aload_n 1, 1) := by decide +kernel
theorem dX2_takeTimes_10 : decode cX2_takeTimes 10 = .ok (.getfield 51, 3) := by decide +kernel
theorem dX2_takeTimes_13 : decode cX2_takeTimes 13 = .ok (.putfield 51, 3) := by decide +kernel
theorem dX2_takeTimes_16 : decode cX2_takeTimes 16 = .ok (.aload_n 0, 1) := by decide +kernel
theorem dX2_takeTimes_17 : decode cX2_takeTimes 17 = .ok (.aload_n 1, 1) := by decide +kernel
theorem dX2_takeTimes_18 : decode cX2_takeTimes 18 = .ok (.getfield 54, 3) := by decide +kernel
theorem dX2_takeTimes_21 : decode cX2_takeTimes 21 = .ok (.putfield 54, 3) := by decide +kernel
theorem dX2_takeTimes_24 : decode cX2_takeTimes 24 = .ok (.return_, 1) := by decide +kernel
theorem dX2_copyFrom_0 : decode cX2_copyFrom 0 = .ok (.aload_n 0, 1) := by decide +kernel
theorem dX2_copyFrom_1 : decode cX2_copyFrom 1 = .ok (.aload_n 1, 1) := by decide +kernel
theorem dX2_copyFrom_2 : decode cX2_copyFrom 2 = .ok (.invokevirtual 72, 3) := by decide +kernel
theorem dX2_copyFrom_5 : decode cX2_copyFrom 5 = .ok (.aload_n 0, 1) := by decide +kernel
theorem dX2_copyFrom_6 : decode cX2_copyFrom 6 = .ok (.aload_n 1, 1) := by decide +kernel
theorem dX2_copyFrom_7 : decode cX2_copyFrom 7 = .ok (.getfield 69, 3) := by decide +kernel
theorem dX2_copyFrom_10 : decode cX2_copyFrom 10 = .ok (.putfield 69, 3) := by decide +kernel
theorem dX2_copyFrom_13 : decode cX2_copyFrom 13 = .ok (.aload_n 0, 1) := by decide +kernel
theorem dX2_copyFrom_14 : decode cX2_copyFrom 14 = .ok (.aload_n 1, 1) := by decide +kernel
theorem dX2_copyFrom_15 : decode cX2_copyFrom 15 = .ok (.getfield 57, 3) := by decide +kernel
theorem dX2_copyFrom_18 : decode cX2_copyFrom 18 = .ok (.putfield 57, 3) := by decide +kernel
theorem dX2_copyFrom_21 : decode cX2_copyFrom 21 = .ok (.aload_n 0, 1) := by decide +kernel
theorem dX2_copyFrom_22 : decode cX2_copyFrom 22 = .ok (.getfield 20, 3) := by decide +kernel
theorem dX2_copyFrom_25 : decode cX2_copyFrom 25 = .ok (.aload_n 1, 1) := by decide +kernel
theorem dX2_copyFrom_26 : decode cX2_copyFrom 26 = .ok (.getfield 20, 3) := by decide +kernel
theorem dX2_copyFrom_29 : decode cX2_copyFrom 29 = .ok (.invokevirtual 76, 3) := by decide +kernel
theorem dX2_copyFrom_32 : decode cX2_copyFrom 32 = .ok (.aload_n 0, 1) := by decide +kernel
theorem dX2_copyFrom_33 : decode cX2_copyFrom 33 = .ok (.getfield 27, 3) := by decide +kernel
theorem dX2_copyFrom_36 : decode cX2_copyFrom 36 = .ok (.aload_n 1, 1) := by decide +kernel
theorem dX2_copyFrom_37 : decode cX2_copyFrom 37 = .ok (.getfield 27, 3) := by decide +kernel
theorem dX2_copyFrom_40 : decode cX2_copyFrom 40 = .ok (.invokevirtual 80, 3) := by decide +kernel
theorem dX2_copyFrom_43 : decode cX2_copyFrom 43 = .ok (.aload_n 0, 1) := by decide +kernel
theorem dX2_copyFrom_44 : decode cX2_copyFrom 44 = .ok (.getfield 34, 3) := by decide +kernel
theorem dX2_copyFrom_47 : decode cX2_copyFrom 47 = .ok (.aload_n 1, 1) := by decide +kernel
theorem dX2_copyFrom_48 : decode cX2_copyFrom 48 = .ok (.getfield 34, 3) := by decide +kernel
theorem dX2_copyFrom_51 : decode cX2_copyFrom 51 = .ok (.invokevirtual 83, 3) := by decide +kernel
theorem dX2_copyFrom_54 : decode cX2_copyFrom 54 = .ok (.aload_n 0, 1) := by decide +kernel
theorem dX2_copyFrom_55 : decode cX2_copyFrom 55 = .ok (.getfield 43, 3) := by decide +kernel
theorem dX2_copyFrom_58 : decode cX2_copyFrom 58 = .ok (.aload_n 1, 1) := by decide +kernel
theorem dX2_copyFrom_59 : decode cX2_copyFrom 59 = .ok (.getfield 43, 3) := by decide +kernel
theorem dX2_copyFrom_62 : decode cX2_copyFrom 62 = .ok (.aload_n 1, 1) := by decide +kernel
theorem dX2_copyFrom_63 : decode cX2_copyFrom 63 = .ok (.invokevirtual 86, 3) := by decide +kernel
theorem dX2_copyFrom_66 : decode cX2_copyFrom 66 = .ok (.invokevirtual 90, 3) := by decide +kernel
theorem dX2_copyFrom_69 : decode cX2_copyFrom 69 = .ok (.aload_n 0, 1) := by decide +kernel
theorem dX2_copyFrom_70 : decode cX2_copyFrom 70 = .ok (.aload_n 1, 1) := by decide +kernel
theorem dX2_copyFrom_71 : decode cX2_copyFrom 71 = .ok (.invokevirtual 93, 3) := by decide +kernel
theorem dX2_copyFrom_74 : decode cX2_copyFrom 74 = .ok (.return_, 1) := by decide +kernel
theorem dX2_copyStations_0 : decode cX2_copyStations 0 = .ok (.aload_n 0, 1) := by decide +kernel
theorem dX2_copyStations_1 : decode cX2_copyStations 1 = .ok (.aload_n 1, 1) := by decide +kernel
theorem dX2_copyStations_2 : decode cX2_copyStations 2 = .ok (.getfield 61, 3) := by decide +kernel
theorem dX2_copyStations_5 : decode cX2_copyStations 5 = .ok (.putfield 61, 3) := by decide +kernel
theorem dX2_copyStations_8 : decode cX2_copyStations 8 = .ok (.iconst 0, 1) := by decide +kernel
theorem dX2_copyStations_9 : decode cX2_copyStations 9 = .ok (.istore_n 2, 1) := by decide +kernel
theorem dX2_copyStations_10 : decode cX2_copyStations 10 = .ok (.iload_n 2, 1) := by decide +kernel
theorem dX2_copyStations_11 : decode cX2_copyStations 11 = .ok (.aload_n 0, 1) := by decide +kernel
theorem dX2_copyStations_12 : decode cX2_copyStations 12 = .ok (.getfield 61, 3) := by decide +kernel
theorem dX2_copyStations_15 : decode cX2_copyStations 15 = .ok (.if_icmp .ge 37, 3) := by decide +kernel
theorem dX2_copyStations_18 : decode cX2_copyStations 18 = .ok (.aload_n 1, 1) := by decide +kernel
theorem dX2_copyStations_19 : decode cX2_copyStations 19 = .ok (.iload_n 2, 1) := by decide +kernel
theorem dX2_copyStations_20 : decode cX2_copyStations 20 = .ok (.invokevirtual 96, 3) := by decide +kernel
theorem dX2_copyStations_23 : decode cX2_copyStations 23 = .ok (.astore_n 3, 1) := by decide +kernel
theorem dX2_copyStations_24 : decode cX2_copyStations 24 = .ok (.aload_n 0, 1) := by decide +kernel
theorem dX2_copyStations_25 : decode cX2_copyStations 25 = .ok (.iload_n 2, 1) := by decide +kernel
theorem dX2_copyStations_26 : decode cX2_copyStations 26 = .ok (.invokevirtual 96, 3) := by decide +kernel
theorem dX2_copyStations_29 : decode cX2_copyStations 29 = .ok (.astore 4, 2) := by decide +kernel
theorem dX2_copyStations_31 : decode cX2_copyStations 31 = .ok (.aload_n 3, 1) := by decide +kernel
theorem dX2_copyStations_32 : decode cX2_copyStations 32 = .ok (.ifnull 14, 3) := by decide +kernel
theorem dX2_copyStations_35 : decode cX2_copyStations 35 = .ok (.aload 4, 2) := by decide +kernel
theorem dX2_copyStations_37 : decode cX2_copyStations 37 = .ok (.ifnull 9, 3) := by decide +kernel
theorem dX2_copyStations_40 : decode cX2_copyStations 40 = .ok (.aload 4, 2) := by decide +kernel
theorem dX2_copyStations_42 : decode cX2_copyStations 42 = .ok (.aload_n 3, 1) := by decide +kernel
theorem dX2_copyStations_43 : decode cX2_copyStations 43 = .ok (.invokevirtual 100, 3) := by decide +kernel
theorem dX2_copyStations_46 : decode cX2_copyStations 46 = .ok (.iinc 2 1, 3) := by decide +kernel
theorem dX2_copyStations_49 : decode cX2_copyStations 49 = .ok (.goto (-39), 3) := by decide +kernel
theorem dX2_copyStations_52 : decode cX2_copyStations 52 = .ok (.return_, 1) := by decide +kernel
theorem dX2_isFull_0 : decode cX2_isFull 0 = .ok (.aload_n 0, 1) := by decide +kernel
theorem dX2_isFull_1 : decode cX2_isFull 1 = .ok (.getfield 61, 3) := by decide +kernel
theorem dX2_isFull_4 : decode cX2_isFull 4 = .ok (.bipush 8, 2) := by decide +kernel
theorem dX2_isFull_6 : decode cX2_isFull 6 = .ok (.if_icmp .lt 7, 3) := by decide +kernel
theorem dX2_isFull_9 : decode cX2_isFull 9 = .ok (.iconst 1, 1) := by decide +kernel
theorem dX2_isFull_10 : decode cX2_isFull 10 = .ok (.goto 4, 3) := by decide +kernel
theorem dX2_isFull_13 : decode cX2_isFull 13 = .ok (.iconst 0, 1) := by decide +kernel
theorem dX2_isFull_14 : decode cX2_isFull 14 = .ok (.ireturn, 1) := by decide +kernel
theorem dX2_isTooLate_0 : decode cX2_isTooLate 0 = .ok (.aload_n 0, 1) := by decide +kernel
theorem dX2_isTooLate_1 : decode cX2_isTooLate 1 = .ok (.getfield 69, 3) := by decide +kernel
theorem dX2_isTooLate_4 : decode cX2_isTooLate 4 = .ok (.ldc 103, 2) := by decide +kernel
theorem dX2_isTooLate_6 : decode cX2_isTooLate 6 = .ok (.if_icmp .le 7, 3) := by decide +kernel
theorem dX2_isTooLate_9 : decode cX2_isTooLate 9 = .ok (.iconst 1, 1) := by decide +kernel
theorem dX2_isTooLate_10 : decode cX2_isTooLate 10 = .ok (.goto 4, 3) := by decide +kernel
theorem dX2_isTooLate_13 : decode cX2_isTooLate 13 = .ok (.iconst 0, 1) := by decide +kernel
theorem dX2_isTooLate_14 : decode cX2_isTooLate 14 = .ok (.ireturn, 1) := by decide +kernel
theorem dX2_stationIn_0 : decode cX2_stationIn 0 = .ok (.iload_n 1, 1) := by decide +kernel
theorem dX2_stationIn_1 : decode cX2_stationIn 1 = .ok (.ifCond .lt 29, 3) := by decide +kernel
theorem dX2_stationIn_4 : decode cX2_stationIn 4 = .ok (.iload_n 1, 1) := by decide +kernel
theorem dX2_stationIn_5 : decode cX2_stationIn 5 = .ok (.aload_n 0, 1) := by decide +kernel
theorem dX2_stationIn_6 : decode cX2_stationIn 6 = .ok (.getfield 61, 3) := by decide +kernel
theorem dX2_stationIn_9 : decode cX2_stationIn 9 = .ok (.if_icmp .ge 21, 3) := by decide +kernel
theorem dX2_stationIn_12 : decode cX2_stationIn 12 = .ok (.iload_n 1, 1) := by decide +kernel
theorem dX2_stationIn_13 : decode cX2_stationIn 13 = .ok (.aload_n 0, 1) := by decide +kernel
theorem dX2_stationIn_14 : decode cX2_stationIn 14 = .ok (.getfield 11, 3) := by decide +kernel
theorem dX2_stationIn_17 : decode cX2_stationIn 17 = .ok (.arraylength, 1) := by decide +kernel
theorem dX2_stationIn_18 : decode cX2_stationIn 18 = .ok (.if_icmp .ge 12, 3) := by decide +kernel
theorem dX2_stationIn_21 : decode cX2_stationIn 21 = .ok (.aload_n 0, 1) := by decide +kernel
theorem dX2_stationIn_22 : decode cX2_stationIn 22 = .ok (.getfield 11, 3) := by decide +kernel
theorem dX2_stationIn_25 : decode cX2_stationIn 25 = .ok (.iload_n 1, 1) := by decide +kernel
theorem dX2_stationIn_26 : decode cX2_stationIn 26 = .ok (.aaload, 1) := by decide +kernel
theorem dX2_stationIn_27 : decode cX2_stationIn 27 = .ok (.goto 4, 3) := by decide +kernel
theorem dX2_stationIn_30 : decode cX2_stationIn 30 = .ok (.aconst_null, 1) := by decide +kernel
theorem dX2_stationIn_31 : decode cX2_stationIn 31 = .ok (.areturn, 1) := by decide +kernel
theorem dX2_stationWith_0 : decode cX2_stationWith 0 = .ok (.iconst 0, 1) := by decide +kernel
theorem dX2_stationWith_1 : decode cX2_stationWith 1 = .ok (.istore_n 2, 1) := by decide +kernel
theorem dX2_stationWith_2 : decode cX2_stationWith 2 = .ok (.iload_n 2, 1) := by decide +kernel
theorem dX2_stationWith_3 : decode cX2_stationWith 3 = .ok (.aload_n 0, 1) := by decide +kernel
theorem dX2_stationWith_4 : decode cX2_stationWith 4 = .ok (.getfield 61, 3) := by decide +kernel
theorem dX2_stationWith_7 : decode cX2_stationWith 7 = .ok (.if_icmp .ge 39, 3) := by decide +kernel
theorem dX2_stationWith_10 : decode cX2_stationWith 10 = .ok (.iload_n 2, 1) := by decide +kernel
theorem dX2_stationWith_11 : decode cX2_stationWith 11 = .ok (.aload_n 0, 1) := by decide +kernel
theorem dX2_stationWith_12 : decode cX2_stationWith 12 = .ok (.getfield 11, 3) := by decide +kernel
theorem dX2_stationWith_15 : decode cX2_stationWith 15 = .ok (.arraylength, 1) := by decide +kernel
theorem dX2_stationWith_16 : decode cX2_stationWith 16 = .ok (.if_icmp .ge 30, 3) := by decide +kernel
theorem dX2_stationWith_19 : decode cX2_stationWith 19 = .ok (.aload_n 0, 1) := by decide +kernel
theorem dX2_stationWith_20 : decode cX2_stationWith 20 = .ok (.getfield 11, 3) := by decide +kernel
theorem dX2_stationWith_23 : decode cX2_stationWith 23 = .ok (.iload_n 2, 1) := by decide +kernel
theorem dX2_stationWith_24 : decode cX2_stationWith 24 = .ok (.aaload, 1) := by decide +kernel
theorem dX2_stationWith_25 : decode cX2_stationWith 25 = .ok (.astore_n 3, 1) := by decide +kernel
theorem dX2_stationWith_26 : decode cX2_stationWith 26 = .ok (.aload_n 3, 1) := by decide +kernel
theorem dX2_stationWith_27 : decode cX2_stationWith 27 = .ok (.ifnull 13, 3) := by decide +kernel
theorem dX2_stationWith_30 : decode cX2_stationWith 30 = .ok (.aload_n 3, 1) := by decide +kernel
theorem dX2_stationWith_31 : decode cX2_stationWith 31 = .ok (.getfield 104, 3) := by decide +kernel
theorem dX2_stationWith_34 : decode cX2_stationWith 34 = .ok (.iload_n 1, 1) := by decide +kernel
theorem dX2_stationWith_35 : decode cX2_stationWith 35 = .ok (.if_icmp .ne 5, 3) := by decide +kernel
theorem dX2_stationWith_38 : decode cX2_stationWith 38 = .ok (.aload_n 3, 1) := by decide +kernel
theorem dX2_stationWith_39 : decode cX2_stationWith 39 = .ok (.areturn, 1) := by decide +kernel
theorem dX2_stationWith_40 : decode cX2_stationWith 40 = .ok (.iinc 2 1, 3) := by decide +kernel
theorem dX2_stationWith_43 : decode cX2_stationWith 43 = .ok (.goto (-41), 3) := by decide +kernel
theorem dX2_stationWith_46 : decode cX2_stationWith 46 = .ok (.aconst_null, 1) := by decide +kernel
theorem dX2_stationWith_47 : decode cX2_stationWith 47 = .ok (.areturn, 1) := by decide +kernel
theorem dX2_placeStation_0 : decode cX2_placeStation 0 = .ok (.aload_n 0, 1) := by decide +kernel
theorem dX2_placeStation_1 : decode cX2_placeStation 1 = .ok (.getfield 61, 3) := by decide +kernel
theorem dX2_placeStation_4 : decode cX2_placeStation 4 = .ok (.istore_n 2, 1) := by decide +kernel
theorem dX2_placeStation_5 : decode cX2_placeStation 5 = .ok (.iload_n 2, 1) := by decide +kernel
theorem dX2_placeStation_6 : decode cX2_placeStation 6 = .ok (.ifCond .lt 12, 3) := by decide +kernel
theorem dX2_placeStation_9 : decode cX2_placeStation 9 = .ok (.iload_n 2, 1) := by decide +kernel
theorem dX2_placeStation_10 : decode cX2_placeStation 10 = .ok (.aload_n 0, 1) := by decide +kernel
theorem dX2_placeStation_11 : decode cX2_placeStation 11 = .ok (.getfield 11, 3) := by decide +kernel
theorem dX2_placeStation_14 : decode cX2_placeStation 14 = .ok (.arraylength, 1) := by decide +kernel
theorem dX2_placeStation_15 : decode cX2_placeStation 15 = .ok (.if_icmp .lt 5, 3) := by decide +kernel
theorem dX2_placeStation_18 : decode cX2_placeStation 18 = .ok (.aconst_null, 1) := by decide +kernel
theorem dX2_placeStation_19 : decode cX2_placeStation 19 = .ok (.areturn, 1) := by decide +kernel
theorem dX2_placeStation_20 : decode cX2_placeStation 20 = .ok (.aload_n 0, 1) := by decide +kernel
theorem dX2_placeStation_21 : decode cX2_placeStation 21 = .ok (.getfield 11, 3) := by decide +kernel
theorem dX2_placeStation_24 : decode cX2_placeStation 24 = .ok (.iload_n 2, 1) := by decide +kernel
theorem dX2_placeStation_25 : decode cX2_placeStation 25 = .ok (.aaload, 1) := by decide +kernel
theorem dX2_placeStation_26 : decode cX2_placeStation 26 = .ok (.astore_n 3, 1) := by decide +kernel
theorem dX2_placeStation_27 : decode cX2_placeStation 27 = .ok (.aload_n 3, 1) := by decide +kernel
theorem dX2_placeStation_28 : decode cX2_placeStation 28 = .ok (.ifnonnull 5, 3) := by decide +kernel
theorem dX2_placeStation_31 : decode cX2_placeStation 31 = .ok (.aconst_null, 1) := by decide +kernel
theorem dX2_placeStation_32 : decode cX2_placeStation 32 = .ok (.areturn, 1) := by decide +kernel
theorem dX2_placeStation_33 : decode cX2_placeStation 33 = .ok (.aload_n 3, 1) := by decide +kernel
theorem dX2_placeStation_34 : decode cX2_placeStation 34 = .ok (.iload_n 1, 1) := by decide +kernel
theorem dX2_placeStation_35 : decode cX2_placeStation 35 = .ok (.invokevirtual 107, 3) := by decide +kernel
theorem dX2_placeStation_38 : decode cX2_placeStation 38 = .ok (.iload_n 2, 1) := by decide +kernel
theorem dX2_placeStation_39 : decode cX2_placeStation 39 = .ok (.ifCond .le 62, 3) := by decide +kernel
theorem dX2_placeStation_42 : decode cX2_placeStation 42 = .ok (.iload_n 2, 1) := by decide +kernel
theorem dX2_placeStation_43 : decode cX2_placeStation 43 = .ok (.aload_n 0, 1) := by decide +kernel
theorem dX2_placeStation_44 : decode cX2_placeStation 44 = .ok (.getfield 11, 3) := by decide +kernel
theorem dX2_placeStation_47 : decode cX2_placeStation 47 = .ok (.arraylength, 1) := by decide +kernel
theorem dX2_placeStation_48 : decode cX2_placeStation 48 = .ok (.if_icmp .ge 53, 3) := by decide +kernel
theorem dX2_placeStation_51 : decode cX2_placeStation 51 = .ok (.aload_n 0, 1) := by decide +kernel
theorem dX2_placeStation_52 : decode cX2_placeStation 52 = .ok (.getfield 11, 3) := by decide +kernel
theorem dX2_placeStation_55 : decode cX2_placeStation 55 = .ok (.iload_n 2, 1) := by decide +kernel
theorem dX2_placeStation_56 : decode cX2_placeStation 56 = .ok (.iconst 1, 1) := by decide +kernel
theorem dX2_placeStation_57 : decode cX2_placeStation 57 = .ok (.isub, 1) := by decide +kernel
theorem dX2_placeStation_58 : decode cX2_placeStation 58 = .ok (.aaload, 1) := by decide +kernel
theorem dX2_placeStation_59 : decode cX2_placeStation 59 = .ok (.astore 4, 2) := by decide +kernel
theorem dX2_placeStation_61 : decode cX2_placeStation 61 = .ok (.aload 4, 2) := by decide +kernel
theorem dX2_placeStation_63 : decode cX2_placeStation 63 = .ok (.ifnull 38, 3) := by decide +kernel
theorem dX2_placeStation_66 : decode cX2_placeStation 66 = .ok (.aload 4, 2) := by decide +kernel
theorem dX2_placeStation_68 : decode cX2_placeStation 68 = .ok (.getfield 104, 3) := by decide +kernel
theorem dX2_placeStation_71 : decode cX2_placeStation 71 = .ok (.iload_n 1, 1) := by decide +kernel
theorem dX2_placeStation_72 : decode cX2_placeStation 72 = .ok (.if_icmp .ge 6, 3) := by decide +kernel
theorem dX2_placeStation_75 : decode cX2_placeStation 75 = .ok (.goto 26, 3) := by decide +kernel
theorem dX2_placeStation_78 : decode cX2_placeStation 78 = .ok (.aload_n 0, 1) := by decide +kernel
theorem dX2_placeStation_79 : decode cX2_placeStation 79 = .ok (.getfield 11, 3) := by decide +kernel
theorem dX2_placeStation_82 : decode cX2_placeStation 82 = .ok (.iload_n 2, 1) := by decide +kernel
theorem dX2_placeStation_83 : decode cX2_placeStation 83 = .ok (.aload 4, 2) := by decide +kernel
theorem dX2_placeStation_85 : decode cX2_placeStation 85 = .ok (.aastore, 1) := by decide +kernel
theorem dX2_placeStation_86 : decode cX2_placeStation 86 = .ok (.aload_n 0, 1) := by decide +kernel
theorem dX2_placeStation_87 : decode cX2_placeStation 87 = .ok (.getfield 11, 3) := by decide +kernel
theorem dX2_placeStation_90 : decode cX2_placeStation 90 = .ok (.iload_n 2, 1) := by decide +kernel
theorem dX2_placeStation_91 : decode cX2_placeStation 91 = .ok (.iconst 1, 1) := by decide +kernel
theorem dX2_placeStation_92 : decode cX2_placeStation 92 = .ok (.isub, 1) := by decide +kernel
theorem dX2_placeStation_93 : decode cX2_placeStation 93 = .ok (.aload_n 3, 1) := by decide +kernel
theorem dX2_placeStation_94 : decode cX2_placeStation 94 = .ok (.aastore, 1) := by decide +kernel
theorem dX2_placeStation_95 : decode cX2_placeStation 95 = .ok (.iinc 2 (-1), 3) := by decide +kernel
theorem dX2_placeStation_98 : decode cX2_placeStation 98 = .ok (.goto (-60), 3) := by decide +kernel
theorem dX2_placeStation_101 : decode cX2_placeStation 101 = .ok (.aload_n 0, 1) := by decide +kernel
theorem dX2_placeStation_102 : decode cX2_placeStation 102 = .ok (.dup, 1) := by decide +kernel
theorem dX2_placeStation_103 : decode cX2_placeStation 103 = .ok (.getfield 61, 3) := by decide +kernel
theorem dX2_placeStation_106 : decode cX2_placeStation 106 = .ok (.iconst 1, 1) := by decide +kernel
theorem dX2_placeStation_107 : decode cX2_placeStation 107 = .ok (.iadd, 1) := by decide +kernel
theorem dX2_placeStation_108 : decode cX2_placeStation 108 = .ok (.putfield 61, 3) := by decide +kernel
theorem dX2_placeStation_111 : decode cX2_placeStation 111 = .ok (.aload_n 3, 1) := by decide +kernel
theorem dX2_placeStation_112 : decode cX2_placeStation 112 = .ok (.areturn, 1) := by decide +kernel
theorem dX2_switchStation_0 : decode cX2_switchStation 0 = .ok (.aload_n 1, 1) := by decide +kernel
theorem dX2_switchStation_1 : decode cX2_switchStation 1 = .ok (.iload_n 2, 1) := by decide +kernel
theorem dX2_switchStation_2 : decode cX2_switchStation 2 = .ok (.putfield 111, 3) := by decide +kernel
theorem dX2_switchStation_5 : decode cX2_switchStation 5 = .ok (.iload_n 2, 1) := by decide +kernel
theorem dX2_switchStation_6 : decode cX2_switchStation 6 = .ok (.ifCond .eq 4, 3) := by decide +kernel
theorem dX2_switchStation_9 : decode cX2_switchStation 9 = .ok (.return_, 1) := by decide +kernel
theorem dX2_switchStation_10 : decode cX2_switchStation 10 = .ok (.aload_n 1, 1) := by decide +kernel
theorem dX2_switchStation_11 : decode cX2_switchStation 11 = .ok (.iconst 0, 1) := by decide +kernel
theorem dX2_switchStation_12 : decode cX2_switchStation 12 = .ok (.putfield 115, 3) := by decide +kernel
theorem dX2_switchStation_15 : decode cX2_switchStation 15 = .ok (.aload_n 0, 1) := by decide +kernel
theorem dX2_switchStation_16 : decode cX2_switchStation 16 = .ok (.getfield 57, 3) := by decide +kernel
theorem dX2_switchStation_19 : decode cX2_switchStation 19 = .ok (.aload_n 1, 1) := by decide +kernel
theorem dX2_switchStation_20 : decode cX2_switchStation 20 = .ok (.getfield 104, 3) := by decide +kernel
theorem dX2_switchStation_23 : decode cX2_switchStation 23 = .ok (.if_icmp .ne 8, 3) := by decide +kernel
theorem dX2_switchStation_26 : decode cX2_switchStation 26 = .ok (.aload_n 0, 1) := by decide +kernel
theorem dX2_switchStation_27 : decode cX2_switchStation 27 = .ok (.iconst (-1), 1) := by decide +kernel
theorem dX2_switchStation_28 : decode cX2_switchStation 28 = .ok (.putfield 57, 3) := by decide +kernel
theorem dX2_switchStation_31 : decode cX2_switchStation 31 = .ok (.return_, 1) := by decide +kernel
theorem dX2_ringSize_0 : decode cX2_ringSize 0 = .ok (.iconst 0, 1) := by decide +kernel
theorem dX2_ringSize_1 : decode cX2_ringSize 1 = .ok (.istore_n 1, 1) := by decide +kernel
theorem dX2_ringSize_2 : decode cX2_ringSize 2 = .ok (.iconst 0, 1) := by decide +kernel
theorem dX2_ringSize_3 : decode cX2_ringSize 3 = .ok (.istore_n 2, 1) := by decide +kernel
theorem dX2_ringSize_4 : decode cX2_ringSize 4 = .ok (.iload_n 2, 1) := by decide +kernel
theorem dX2_ringSize_5 : decode cX2_ringSize 5 = .ok (.aload_n 0, 1) := by decide +kernel
theorem dX2_ringSize_6 : decode cX2_ringSize 6 = .ok (.getfield 61, 3) := by decide +kernel
theorem dX2_ringSize_9 : decode cX2_ringSize 9 = .ok (.if_icmp .ge 29, 3) := by decide +kernel
theorem dX2_ringSize_12 : decode cX2_ringSize 12 = .ok (.aload_n 0, 1) := by decide +kernel
theorem dX2_ringSize_13 : decode cX2_ringSize 13 = .ok (.iload_n 2, 1) := by decide +kernel
theorem dX2_ringSize_14 : decode cX2_ringSize 14 = .ok (.invokevirtual 96, 3) := by decide +kernel
theorem dX2_ringSize_17 : decode cX2_ringSize 17 = .ok (.astore_n 3, 1) := by decide +kernel
theorem dX2_ringSize_18 : decode cX2_ringSize 18 = .ok (.aload_n 3, 1) := by decide +kernel
theorem dX2_ringSize_19 : decode cX2_ringSize 19 = .ok (.ifnull 13, 3) := by decide +kernel
theorem dX2_ringSize_22 : decode cX2_ringSize 22 = .ok (.aload_n 3, 1) := by decide +kernel
theorem dX2_ringSize_23 : decode cX2_ringSize 23 = .ok (.getfield 115, 3) := by decide +kernel
theorem dX2_ringSize_26 : decode cX2_ringSize 26 = .ok (.ifCond .eq 6, 3) := by decide +kernel
theorem dX2_ringSize_29 : decode cX2_ringSize 29 = .ok (.iinc 1 1, 3) := by decide +kernel
theorem dX2_ringSize_32 : decode cX2_ringSize 32 = .ok (.iinc 2 1, 3) := by decide +kernel
theorem dX2_ringSize_35 : decode cX2_ringSize 35 = .ok (.goto (-31), 3) := by decide +kernel
theorem dX2_ringSize_38 : decode cX2_ringSize 38 = .ok (.iload_n 1, 1) := by decide +kernel
theorem dX2_ringSize_39 : decode cX2_ringSize 39 = .ok (.ireturn, 1) := by decide +kernel
theorem dX2_isComplete_0 : decode cX2_isComplete 0 = .ok (.iconst 0, 1) := by decide +kernel
theorem dX2_isComplete_1 : decode cX2_isComplete 1 = .ok (.istore_n 1, 1) := by decide +kernel
theorem dX2_isComplete_2 : decode cX2_isComplete 2 = .ok (.iload_n 1, 1) := by decide +kernel
theorem dX2_isComplete_3 : decode cX2_isComplete 3 = .ok (.aload_n 0, 1) := by decide +kernel
theorem dX2_isComplete_4 : decode cX2_isComplete 4 = .ok (.getfield 61, 3) := by decide +kernel
theorem dX2_isComplete_7 : decode cX2_isComplete 7 = .ok (.if_icmp .ge 35, 3) := by decide +kernel
theorem dX2_isComplete_10 : decode cX2_isComplete 10 = .ok (.aload_n 0, 1) := by decide +kernel
theorem dX2_isComplete_11 : decode cX2_isComplete 11 = .ok (.iload_n 1, 1) := by decide +kernel
theorem dX2_isComplete_12 : decode cX2_isComplete 12 = .ok (.invokevirtual 96, 3) := by decide +kernel
theorem dX2_isComplete_15 : decode cX2_isComplete 15 = .ok (.astore_n 2, 1) := by decide +kernel
theorem dX2_isComplete_16 : decode cX2_isComplete 16 = .ok (.aload_n 2, 1) := by decide +kernel
theorem dX2_isComplete_17 : decode cX2_isComplete 17 = .ok (.ifnull 19, 3) := by decide +kernel
theorem dX2_isComplete_20 : decode cX2_isComplete 20 = .ok (.aload_n 2, 1) := by decide +kernel
theorem dX2_isComplete_21 : decode cX2_isComplete 21 = .ok (.getfield 111, 3) := by decide +kernel
theorem dX2_isComplete_24 : decode cX2_isComplete 24 = .ok (.ifCond .eq 12, 3) := by decide +kernel
theorem dX2_isComplete_27 : decode cX2_isComplete 27 = .ok (.aload_n 2, 1) := by decide +kernel
theorem dX2_isComplete_28 : decode cX2_isComplete 28 = .ok (.getfield 115, 3) := by decide +kernel
theorem dX2_isComplete_31 : decode cX2_isComplete 31 = .ok (.ifCond .ne 5, 3) := by decide +kernel
theorem dX2_isComplete_34 : decode cX2_isComplete 34 = .ok (.iconst 0, 1) := by decide +kernel
theorem dX2_isComplete_35 : decode cX2_isComplete 35 = .ok (.ireturn, 1) := by decide +kernel
theorem dX2_isComplete_36 : decode cX2_isComplete 36 = .ok (.iinc 1 1, 3) := by decide +kernel
theorem dX2_isComplete_39 : decode cX2_isComplete 39 = .ok (.goto (-37), 3) := by decide +kernel
theorem dX2_isComplete_42 : decode cX2_isComplete 42 = .ok (.iconst 1, 1) := by decide +kernel
theorem dX2_isComplete_43 : decode cX2_isComplete 43 = .ok (.ireturn, 1) := by decide +kernel
theorem dX2_isWaitedAt_0 : decode cX2_isWaitedAt 0 = .ok (.iconst 0, 1) := by decide +kernel
theorem dX2_isWaitedAt_1 : decode cX2_isWaitedAt 1 = .ok (.istore_n 1, 1) := by decide +kernel
theorem dX2_isWaitedAt_2 : decode cX2_isWaitedAt 2 = .ok (.iload_n 1, 1) := by decide +kernel
theorem dX2_isWaitedAt_3 : decode cX2_isWaitedAt 3 = .ok (.aload_n 0, 1) := by decide +kernel
theorem dX2_isWaitedAt_4 : decode cX2_isWaitedAt 4 = .ok (.getfield 61, 3) := by decide +kernel
theorem dX2_isWaitedAt_7 : decode cX2_isWaitedAt 7 = .ok (.if_icmp .ge 35, 3) := by decide +kernel
theorem dX2_isWaitedAt_10 : decode cX2_isWaitedAt 10 = .ok (.aload_n 0, 1) := by decide +kernel
theorem dX2_isWaitedAt_11 : decode cX2_isWaitedAt 11 = .ok (.iload_n 1, 1) := by decide +kernel
theorem dX2_isWaitedAt_12 : decode cX2_isWaitedAt 12 = .ok (.invokevirtual 96, 3) := by decide +kernel
theorem dX2_isWaitedAt_15 : decode cX2_isWaitedAt 15 = .ok (.astore_n 2, 1) := by decide +kernel
theorem dX2_isWaitedAt_16 : decode cX2_isWaitedAt 16 = .ok (.aload_n 2, 1) := by decide +kernel
theorem dX2_isWaitedAt_17 : decode cX2_isWaitedAt 17 = .ok (.ifnull 19, 3) := by decide +kernel
theorem dX2_isWaitedAt_20 : decode cX2_isWaitedAt 20 = .ok (.aload_n 2, 1) := by decide +kernel
theorem dX2_isWaitedAt_21 : decode cX2_isWaitedAt 21 = .ok (.getfield 111, 3) := by decide +kernel
theorem dX2_isWaitedAt_24 : decode cX2_isWaitedAt 24 = .ok (.ifCond .eq 12, 3) := by decide +kernel
theorem dX2_isWaitedAt_27 : decode cX2_isWaitedAt 27 = .ok (.aload_n 2, 1) := by decide +kernel
theorem dX2_isWaitedAt_28 : decode cX2_isWaitedAt 28 = .ok (.getfield 118, 3) := by decide +kernel
theorem dX2_isWaitedAt_31 : decode cX2_isWaitedAt 31 = .ok (.ifCond .le 5, 3) := by decide +kernel
theorem dX2_isWaitedAt_34 : decode cX2_isWaitedAt 34 = .ok (.iconst 1, 1) := by decide +kernel
theorem dX2_isWaitedAt_35 : decode cX2_isWaitedAt 35 = .ok (.ireturn, 1) := by decide +kernel
theorem dX2_isWaitedAt_36 : decode cX2_isWaitedAt 36 = .ok (.iinc 1 1, 3) := by decide +kernel
theorem dX2_isWaitedAt_39 : decode cX2_isWaitedAt 39 = .ok (.goto (-37), 3) := by decide +kernel
theorem dX2_isWaitedAt_42 : decode cX2_isWaitedAt 42 = .ok (.iconst 0, 1) := by decide +kernel
theorem dX2_isWaitedAt_43 : decode cX2_isWaitedAt 43 = .ok (.ireturn, 1) := by decide +kernel
theorem dX2_transmit_0 : decode cX2_transmit 0 = .ok (.aload_n 0, 1) := by decide +kernel
theorem dX2_transmit_1 : decode cX2_transmit 1 = .ok (.getfield 27, 3) := by decide +kernel
theorem dX2_transmit_4 : decode cX2_transmit 4 = .ok (.aload_n 0, 1) := by decide +kernel
theorem dX2_transmit_5 : decode cX2_transmit 5 = .ok (.getfield 69, 3) := by decide +kernel
theorem dX2_transmit_8 : decode cX2_transmit 8 = .ok (.aload_n 0, 1) := by decide +kernel
theorem dX2_transmit_9 : decode cX2_transmit 9 = .ok (.getfield 69, 3) := by decide +kernel
theorem dX2_transmit_12 : decode cX2_transmit 12 = .ok (.iload_n 1, 1) := by decide +kernel
theorem dX2_transmit_13 : decode cX2_transmit 13 = .ok (.iadd, 1) := by decide +kernel
theorem dX2_transmit_14 : decode cX2_transmit 14 = .ok (.iconst 1, 1) := by decide +kernel
theorem dX2_transmit_15 : decode cX2_transmit 15 = .ok (.isub, 1) := by decide +kernel
theorem dX2_transmit_16 : decode cX2_transmit 16 = .ok (.invokevirtual 121, 3) := by decide +kernel
theorem dX2_transmit_19 : decode cX2_transmit 19 = .ok (.istore_n 2, 1) := by decide +kernel
theorem dX2_transmit_20 : decode cX2_transmit 20 = .ok (.aload_n 0, 1) := by decide +kernel
theorem dX2_transmit_21 : decode cX2_transmit 21 = .ok (.dup, 1) := by decide +kernel
theorem dX2_transmit_22 : decode cX2_transmit 22 = .ok (.getfield 69, 3) := by decide +kernel
theorem dX2_transmit_25 : decode cX2_transmit 25 = .ok (.iload_n 1, 1) := by decide +kernel
theorem dX2_transmit_26 : decode cX2_transmit 26 = .ok (.iadd, 1) := by decide +kernel
theorem dX2_transmit_27 : decode cX2_transmit 27 = .ok (.putfield 69, 3) := by decide +kernel
theorem dX2_transmit_30 : decode cX2_transmit 30 = .ok (.iload_n 2, 1) := by decide +kernel
theorem dX2_transmit_31 : decode cX2_transmit 31 = .ok (.ifCond .eq 16, 3) := by decide +kernel
theorem dX2_transmit_34 : decode cX2_transmit 34 = .ok (.aload_n 0, 1) := by decide +kernel
theorem dX2_transmit_35 : decode cX2_transmit 35 = .ok (.getfield 34, 3) := by decide +kernel
theorem dX2_transmit_38 : decode cX2_transmit 38 = .ok (.dup, 1) := by decide +kernel
theorem dX2_transmit_39 : decode cX2_transmit 39 = .ok (.getfield 125, 3) := by decide +kernel
theorem dX2_transmit_42 : decode cX2_transmit 42 = .ok (.iconst 1, 1) := by decide +kernel
theorem dX2_transmit_43 : decode cX2_transmit 43 = .ok (.iadd, 1) := by decide +kernel
theorem dX2_transmit_44 : decode cX2_transmit 44 = .ok (.putfield 125, 3) := by decide +kernel
theorem dX2_transmit_47 : decode cX2_transmit 47 = .ok (.iload_n 2, 1) := by decide +kernel
theorem dX2_transmit_48 : decode cX2_transmit 48 = .ok (.ifCond .ne 7, 3) := by decide +kernel
theorem dX2_transmit_51 : decode cX2_transmit 51 = .ok (.iconst 1, 1) := by decide +kernel
theorem dX2_transmit_52 : decode cX2_transmit 52 = .ok (.goto 4, 3) := by decide +kernel
theorem dX2_transmit_55 : decode cX2_transmit 55 = .ok (.iconst 0, 1) := by decide +kernel
theorem dX2_transmit_56 : decode cX2_transmit 56 = .ok (.ireturn, 1) := by decide +kernel
theorem dX2_logVisit_0 : decode cX2_logVisit 0 = .ok (.aload_n 0, 1) := by decide +kernel
theorem dX2_logVisit_1 : decode cX2_logVisit 1 = .ok (.getfield 34, 3) := by decide +kernel
theorem dX2_logVisit_4 : decode cX2_logVisit 4 = .ok (.getfield 128, 3) := by decide +kernel
theorem dX2_logVisit_7 : decode cX2_logVisit 7 = .ok (.iconst 1, 1) := by decide +kernel
theorem dX2_logVisit_8 : decode cX2_logVisit 8 = .ok (.isub, 1) := by decide +kernel
theorem dX2_logVisit_9 : decode cX2_logVisit 9 = .ok (.bipush 40, 2) := by decide +kernel
theorem dX2_logVisit_11 : decode cX2_logVisit 11 = .ok (.irem, 1) := by decide +kernel
theorem dX2_logVisit_12 : decode cX2_logVisit 12 = .ok (.istore 5, 2) := by decide +kernel
theorem dX2_logVisit_14 : decode cX2_logVisit 14 = .ok (.aload_n 0, 1) := by decide +kernel
theorem dX2_logVisit_15 : decode cX2_logVisit 15 = .ok (.getfield 43, 3) := by decide +kernel
theorem dX2_logVisit_18 : decode cX2_logVisit 18 = .ok (.iload 5, 2) := by decide +kernel
theorem dX2_logVisit_20 : decode cX2_logVisit 20 = .ok (.iconst 0, 1) := by decide +kernel
theorem dX2_logVisit_21 : decode cX2_logVisit 21 = .ok (.iload_n 1, 1) := by decide +kernel
theorem dX2_logVisit_22 : decode cX2_logVisit 22 = .ok (.invokevirtual 131, 3) := by decide +kernel
theorem dX2_logVisit_25 : decode cX2_logVisit 25 = .ok (.aload_n 0, 1) := by decide +kernel
theorem dX2_logVisit_26 : decode cX2_logVisit 26 = .ok (.getfield 43, 3) := by decide +kernel
theorem dX2_logVisit_29 : decode cX2_logVisit 29 = .ok (.iload 5, 2) := by decide +kernel
theorem dX2_logVisit_31 : decode cX2_logVisit 31 = .ok (.iconst 1, 1) := by decide +kernel
theorem dX2_logVisit_32 : decode cX2_logVisit 32 = .ok (.iload_n 2, 1) := by decide +kernel
theorem dX2_logVisit_33 : decode cX2_logVisit 33 = .ok (.invokevirtual 131, 3) := by decide +kernel
theorem dX2_logVisit_36 : decode cX2_logVisit 36 = .ok (.aload_n 0, 1) := by decide +kernel
theorem dX2_logVisit_37 : decode cX2_logVisit 37 = .ok (.getfield 43, 3) := by decide +kernel
theorem dX2_logVisit_40 : decode cX2_logVisit 40 = .ok (.iload 5, 2) := by decide +kernel
theorem dX2_logVisit_42 : decode cX2_logVisit 42 = .ok (.iconst 2, 1) := by decide +kernel
theorem dX2_logVisit_43 : decode cX2_logVisit 43 = .ok (.iload_n 3, 1) := by decide +kernel
theorem dX2_logVisit_44 : decode cX2_logVisit 44 = .ok (.invokevirtual 131, 3) := by decide +kernel
theorem dX2_logVisit_47 : decode cX2_logVisit 47 = .ok (.aload_n 0, 1) := by decide +kernel
theorem dX2_logVisit_48 : decode cX2_logVisit 48 = .ok (.getfield 43, 3) := by decide +kernel
theorem dX2_logVisit_51 : decode cX2_logVisit 51 = .ok (.iload 5, 2) := by decide +kernel
theorem dX2_logVisit_53 : decode cX2_logVisit 53 = .ok (.iconst 3, 1) := by decide +kernel
theorem dX2_logVisit_54 : decode cX2_logVisit 54 = .ok (.iload 4, 2) := by decide +kernel
theorem dX2_logVisit_56 : decode cX2_logVisit 56 = .ok (.invokevirtual 131, 3) := by decide +kernel
theorem dX2_logVisit_59 : decode cX2_logVisit 59 = .ok (.return_, 1) := by decide +kernel
theorem dX2_logLength_0 : decode cX2_logLength 0 = .ok (.aload_n 0, 1) := by decide +kernel
theorem dX2_logLength_1 : decode cX2_logLength 1 = .ok (.getfield 34, 3) := by decide +kernel
theorem dX2_logLength_4 : decode cX2_logLength 4 = .ok (.getfield 128, 3) := by decide +kernel
theorem dX2_logLength_7 : decode cX2_logLength 7 = .ok (.bipush 40, 2) := by decide +kernel
theorem dX2_logLength_9 : decode cX2_logLength 9 = .ok (.invokestatic 135, 3) := by decide +kernel
theorem dX2_logLength_12 : decode cX2_logLength 12 = .ok (.ireturn, 1) := by decide +kernel
theorem dX2_logValue_0 : decode cX2_logValue 0 = .ok (.aload_n 0, 1) := by decide +kernel
theorem dX2_logValue_1 : decode cX2_logValue 1 = .ok (.getfield 34, 3) := by decide +kernel
theorem dX2_logValue_4 : decode cX2_logValue 4 = .ok (.getfield 128, 3) := by decide +kernel
theorem dX2_logValue_7 : decode cX2_logValue 7 = .ok (.aload_n 0, 1) := by decide +kernel
theorem dX2_logValue_8 : decode cX2_logValue 8 = .ok (.invokevirtual 86, 3) := by decide +kernel
theorem dX2_logValue_11 : decode cX2_logValue 11 = .ok (.isub, 1) := by decide +kernel
theorem dX2_logValue_12 : decode cX2_logValue 12 = .ok (.istore_n 3, 1) := by decide +kernel
theorem dX2_logValue_13 : decode cX2_logValue 13 = .ok (.aload_n 0, 1) := by decide +kernel
theorem dX2_logValue_14 : decode cX2_logValue 14 = .ok (.getfield 43, 3) := by decide +kernel
theorem dX2_logValue_17 : decode cX2_logValue 17 = .ok (.iload_n 3, 1) := by decide +kernel
theorem dX2_logValue_18 : decode cX2_logValue 18 = .ok (.iload_n 1, 1) := by decide +kernel
theorem dX2_logValue_19 : decode cX2_logValue 19 = .ok (.iadd, 1) := by decide +kernel
theorem dX2_logValue_20 : decode cX2_logValue 20 = .ok (.bipush 40, 2) := by decide +kernel
theorem dX2_logValue_22 : decode cX2_logValue 22 = .ok (.irem, 1) := by decide +kernel
theorem dX2_logValue_23 : decode cX2_logValue 23 = .ok (.iload_n 2, 1) := by decide +kernel
theorem dX2_logValue_24 : decode cX2_logValue 24 = .ok (.invokevirtual 141, 3) := by decide +kernel
theorem dX2_logValue_27 : decode cX2_logValue 27 = .ok (.ireturn, 1) := by decide +kernel
theorem dX2_settingValue_0 : decode cX2_settingValue 0 = .ok (.iload_n 1, 1) := by decide +kernel
theorem dX2_settingValue_1 : decode cX2_settingValue 1 = .ok (.tableswitch 90 0 7 #[47, 52, 57, 62, 67, 72, 80, 85], 47) := by decide +kernel
theorem dX2_settingValue_48 : decode cX2_settingValue 48 = .ok (.aload_n 0, 1) := by decide +kernel
theorem dX2_settingValue_49 : decode cX2_settingValue 49 = .ok (.getfield 47, 3) := by decide +kernel
theorem dX2_settingValue_52 : decode cX2_settingValue 52 = .ok (.ireturn, 1) := by decide +kernel
theorem dX2_settingValue_53 : decode cX2_settingValue 53 = .ok (.aload_n 0, 1) := by decide +kernel
theorem dX2_settingValue_54 : decode cX2_settingValue 54 = .ok (.getfield 51, 3) := by decide +kernel
theorem dX2_settingValue_57 : decode cX2_settingValue 57 = .ok (.ireturn, 1) := by decide +kernel
theorem dX2_settingValue_58 : decode cX2_settingValue 58 = .ok (.aload_n 0, 1) := by decide +kernel
theorem dX2_settingValue_59 : decode cX2_settingValue 59 = .ok (.getfield 54, 3) := by decide +kernel
theorem dX2_settingValue_62 : decode cX2_settingValue 62 = .ok (.ireturn, 1) := by decide +kernel
theorem dX2_settingValue_63 : decode cX2_settingValue 63 = .ok (.aload_n 0, 1) := by decide +kernel
theorem dX2_settingValue_64 : decode cX2_settingValue 64 = .ok (.getfield 61, 3) := by decide +kernel
theorem dX2_settingValue_67 : decode cX2_settingValue 67 = .ok (.ireturn, 1) := by decide +kernel
theorem dX2_settingValue_68 : decode cX2_settingValue 68 = .ok (.aload_n 0, 1) := by decide +kernel
theorem dX2_settingValue_69 : decode cX2_settingValue 69 = .ok (.invokevirtual 144, 3) := by decide +kernel
theorem dX2_settingValue_72 : decode cX2_settingValue 72 = .ok (.ireturn, 1) := by decide +kernel
theorem dX2_settingValue_73 : decode cX2_settingValue 73 = .ok (.aload_n 0, 1) := by decide +kernel
theorem dX2_settingValue_74 : decode cX2_settingValue 74 = .ok (.getfield 27, 3) := by decide +kernel
theorem dX2_settingValue_77 : decode cX2_settingValue 77 = .ok (.getfield 147, 3) := by decide +kernel
theorem dX2_settingValue_80 : decode cX2_settingValue 80 = .ok (.ireturn, 1) := by decide +kernel
theorem dX2_settingValue_81 : decode cX2_settingValue 81 = .ok (.aload_n 0, 1) := by decide +kernel
theorem dX2_settingValue_82 : decode cX2_settingValue 82 = .ok (.getfield 69, 3) := by decide +kernel
theorem dX2_settingValue_85 : decode cX2_settingValue 85 = .ok (.ireturn, 1) := by decide +kernel
theorem dX2_settingValue_86 : decode cX2_settingValue 86 = .ok (.aload_n 0, 1) := by decide +kernel
theorem dX2_settingValue_87 : decode cX2_settingValue 87 = .ok (.getfield 57, 3) := by decide +kernel
theorem dX2_settingValue_90 : decode cX2_settingValue 90 = .ok (.ireturn, 1) := by decide +kernel
theorem dX2_settingValue_91 : decode cX2_settingValue 91 = .ok (.aload_n 0, 1) := by decide +kernel
theorem dX2_settingValue_92 : decode cX2_settingValue 92 = .ok (.getfield 20, 3) := by decide +kernel
theorem dX2_settingValue_95 : decode cX2_settingValue 95 = .ok (.invokevirtual 150, 3) := by decide +kernel
theorem dX2_settingValue_98 : decode cX2_settingValue 98 = .ok (.ireturn, 1) := by decide +kernel
theorem dX2_hashed_0 : decode cX2_hashed 0 = .ok (.lload_n 1, 1) := by decide +kernel
theorem dX2_hashed_1 : decode cX2_hashed 1 = .ok (.lstore_n 3, 1) := by decide +kernel
theorem dX2_hashed_2 : decode cX2_hashed 2 = .ok (.iconst 0, 1) := by decide +kernel
theorem dX2_hashed_3 : decode cX2_hashed 3 = .ok (.istore 5, 2) := by decide +kernel
theorem dX2_hashed_5 : decode cX2_hashed 5 = .ok (.iload 5, 2) := by decide +kernel
theorem dX2_hashed_7 : decode cX2_hashed 7 = .ok (.bipush 8, 2) := by decide +kernel
theorem dX2_hashed_9 : decode cX2_hashed 9 = .ok (.if_icmp .gt 21, 3) := by decide +kernel
theorem dX2_hashed_12 : decode cX2_hashed 12 = .ok (.lload_n 3, 1) := by decide +kernel
theorem dX2_hashed_13 : decode cX2_hashed 13 = .ok (.aload_n 0, 1) := by decide +kernel
theorem dX2_hashed_14 : decode cX2_hashed 14 = .ok (.iload 5, 2) := by decide +kernel
theorem dX2_hashed_16 : decode cX2_hashed 16 = .ok (.invokevirtual 152, 3) := by decide +kernel
theorem dX2_hashed_19 : decode cX2_hashed 19 = .ok (.i2l, 1) := by decide +kernel
theorem dX2_hashed_20 : decode cX2_hashed 20 = .ok (.invokestatic 156, 3) := by decide +kernel
theorem dX2_hashed_23 : decode cX2_hashed 23 = .ok (.lstore_n 3, 1) := by decide +kernel
theorem dX2_hashed_24 : decode cX2_hashed 24 = .ok (.iinc 5 1, 3) := by decide +kernel
theorem dX2_hashed_27 : decode cX2_hashed 27 = .ok (.goto (-22), 3) := by decide +kernel
theorem dX2_hashed_30 : decode cX2_hashed 30 = .ok (.iconst 0, 1) := by decide +kernel
theorem dX2_hashed_31 : decode cX2_hashed 31 = .ok (.istore 5, 2) := by decide +kernel
theorem dX2_hashed_33 : decode cX2_hashed 33 = .ok (.iload 5, 2) := by decide +kernel
theorem dX2_hashed_35 : decode cX2_hashed 35 = .ok (.aload_n 0, 1) := by decide +kernel
theorem dX2_hashed_36 : decode cX2_hashed 36 = .ok (.getfield 61, 3) := by decide +kernel
theorem dX2_hashed_39 : decode cX2_hashed 39 = .ok (.if_icmp .ge 21, 3) := by decide +kernel
theorem dX2_hashed_42 : decode cX2_hashed 42 = .ok (.aload_n 0, 1) := by decide +kernel
theorem dX2_hashed_43 : decode cX2_hashed 43 = .ok (.lload_n 3, 1) := by decide +kernel
theorem dX2_hashed_44 : decode cX2_hashed 44 = .ok (.aload_n 0, 1) := by decide +kernel
theorem dX2_hashed_45 : decode cX2_hashed 45 = .ok (.iload 5, 2) := by decide +kernel
theorem dX2_hashed_47 : decode cX2_hashed 47 = .ok (.invokevirtual 96, 3) := by decide +kernel
theorem dX2_hashed_50 : decode cX2_hashed 50 = .ok (.invokevirtual 160, 3) := by decide +kernel
theorem dX2_hashed_53 : decode cX2_hashed 53 = .ok (.lstore_n 3, 1) := by decide +kernel
theorem dX2_hashed_54 : decode cX2_hashed 54 = .ok (.iinc 5 1, 3) := by decide +kernel
theorem dX2_hashed_57 : decode cX2_hashed 57 = .ok (.goto (-24), 3) := by decide +kernel
theorem dX2_hashed_60 : decode cX2_hashed 60 = .ok (.iconst 0, 1) := by decide +kernel
theorem dX2_hashed_61 : decode cX2_hashed 61 = .ok (.istore 5, 2) := by decide +kernel
theorem dX2_hashed_63 : decode cX2_hashed 63 = .ok (.iload 5, 2) := by decide +kernel
theorem dX2_hashed_65 : decode cX2_hashed 65 = .ok (.aload_n 0, 1) := by decide +kernel
theorem dX2_hashed_66 : decode cX2_hashed 66 = .ok (.getfield 20, 3) := by decide +kernel
theorem dX2_hashed_69 : decode cX2_hashed 69 = .ok (.invokevirtual 150, 3) := by decide +kernel
theorem dX2_hashed_72 : decode cX2_hashed 72 = .ok (.if_icmp .ge 41, 3) := by decide +kernel
theorem dX2_hashed_75 : decode cX2_hashed 75 = .ok (.iconst 0, 1) := by decide +kernel
theorem dX2_hashed_76 : decode cX2_hashed 76 = .ok (.istore 6, 2) := by decide +kernel
theorem dX2_hashed_78 : decode cX2_hashed 78 = .ok (.iload 6, 2) := by decide +kernel
theorem dX2_hashed_80 : decode cX2_hashed 80 = .ok (.iconst 4, 1) := by decide +kernel
theorem dX2_hashed_81 : decode cX2_hashed 81 = .ok (.if_icmp .gt 26, 3) := by decide +kernel
theorem dX2_hashed_84 : decode cX2_hashed 84 = .ok (.lload_n 3, 1) := by decide +kernel
theorem dX2_hashed_85 : decode cX2_hashed 85 = .ok (.aload_n 0, 1) := by decide +kernel
theorem dX2_hashed_86 : decode cX2_hashed 86 = .ok (.getfield 20, 3) := by decide +kernel
theorem dX2_hashed_89 : decode cX2_hashed 89 = .ok (.iload 5, 2) := by decide +kernel
theorem dX2_hashed_91 : decode cX2_hashed 91 = .ok (.iload 6, 2) := by decide +kernel
theorem dX2_hashed_93 : decode cX2_hashed 93 = .ok (.invokevirtual 164, 3) := by decide +kernel
theorem dX2_hashed_96 : decode cX2_hashed 96 = .ok (.i2l, 1) := by decide +kernel
theorem dX2_hashed_97 : decode cX2_hashed 97 = .ok (.invokestatic 156, 3) := by decide +kernel
theorem dX2_hashed_100 : decode cX2_hashed 100 = .ok (.lstore_n 3, 1) := by decide +kernel
theorem dX2_hashed_101 : decode cX2_hashed 101 = .ok (.iinc 6 1, 3) := by decide +kernel
theorem dX2_hashed_104 : decode cX2_hashed 104 = .ok (.goto (-26), 3) := by decide +kernel
theorem dX2_hashed_107 : decode cX2_hashed 107 = .ok (.iinc 5 1, 3) := by decide +kernel
theorem dX2_hashed_110 : decode cX2_hashed 110 = .ok (.goto (-47), 3) := by decide +kernel
theorem dX2_hashed_113 : decode cX2_hashed 113 = .ok (.iconst 0, 1) := by decide +kernel
theorem dX2_hashed_114 : decode cX2_hashed 114 = .ok (.istore 5, 2) := by decide +kernel
theorem dX2_hashed_116 : decode cX2_hashed 116 = .ok (.iload 5, 2) := by decide +kernel
theorem dX2_hashed_118 : decode cX2_hashed 118 = .ok (.bipush 6, 2) := by decide +kernel
theorem dX2_hashed_120 : decode cX2_hashed 120 = .ok (.if_icmp .gt 24, 3) := by decide +kernel
theorem dX2_hashed_123 : decode cX2_hashed 123 = .ok (.lload_n 3, 1) := by decide +kernel
theorem dX2_hashed_124 : decode cX2_hashed 124 = .ok (.aload_n 0, 1) := by decide +kernel
theorem dX2_hashed_125 : decode cX2_hashed 125 = .ok (.getfield 34, 3) := by decide +kernel
theorem dX2_hashed_128 : decode cX2_hashed 128 = .ok (.iload 5, 2) := by decide +kernel
theorem dX2_hashed_130 : decode cX2_hashed 130 = .ok (.invokevirtual 167, 3) := by decide +kernel
theorem dX2_hashed_133 : decode cX2_hashed 133 = .ok (.i2l, 1) := by decide +kernel
theorem dX2_hashed_134 : decode cX2_hashed 134 = .ok (.invokestatic 156, 3) := by decide +kernel
theorem dX2_hashed_137 : decode cX2_hashed 137 = .ok (.lstore_n 3, 1) := by decide +kernel
theorem dX2_hashed_138 : decode cX2_hashed 138 = .ok (.iinc 5 1, 3) := by decide +kernel
theorem dX2_hashed_141 : decode cX2_hashed 141 = .ok (.goto (-25), 3) := by decide +kernel
theorem dX2_hashed_144 : decode cX2_hashed 144 = .ok (.lload_n 3, 1) := by decide +kernel
theorem dX2_hashed_145 : decode cX2_hashed 145 = .ok (.aload_n 0, 1) := by decide +kernel
theorem dX2_hashed_146 : decode cX2_hashed 146 = .ok (.getfield 34, 3) := by decide +kernel
theorem dX2_hashed_149 : decode cX2_hashed 149 = .ok (.getfield 169, 3) := by decide +kernel
theorem dX2_hashed_152 : decode cX2_hashed 152 = .ok (.i2l, 1) := by decide +kernel
theorem dX2_hashed_153 : decode cX2_hashed 153 = .ok (.invokestatic 156, 3) := by decide +kernel
theorem dX2_hashed_156 : decode cX2_hashed 156 = .ok (.lstore_n 3, 1) := by decide +kernel
theorem dX2_hashed_157 : decode cX2_hashed 157 = .ok (.aload_n 0, 1) := by decide +kernel
theorem dX2_hashed_158 : decode cX2_hashed 158 = .ok (.lload_n 3, 1) := by decide +kernel
theorem dX2_hashed_159 : decode cX2_hashed 159 = .ok (.invokevirtual 172, 3) := by decide +kernel
theorem dX2_hashed_162 : decode cX2_hashed 162 = .ok (.lreturn, 1) := by decide +kernel
theorem dX2_withStation_0 : decode cX2_withStation 0 = .ok (.aload_n 3, 1) := by decide +kernel
theorem dX2_withStation_1 : decode cX2_withStation 1 = .ok (.ifnonnull 5, 3) := by decide +kernel
theorem dX2_withStation_4 : decode cX2_withStation 4 = .ok (.lload_n 1, 1) := by decide +kernel
theorem dX2_withStation_5 : decode cX2_withStation 5 = .ok (.lreturn, 1) := by decide +kernel
theorem dX2_withStation_6 : decode cX2_withStation 6 = .ok (.lload_n 1, 1) := by decide +kernel
theorem dX2_withStation_7 : decode cX2_withStation 7 = .ok (.aload_n 3, 1) := by decide +kernel
theorem dX2_withStation_8 : decode cX2_withStation 8 = .ok (.getfield 104, 3) := by decide +kernel
theorem dX2_withStation_11 : decode cX2_withStation 11 = .ok (.i2l, 1) := by decide +kernel
theorem dX2_withStation_12 : decode cX2_withStation 12 = .ok (.invokestatic 156, 3) := by decide +kernel
theorem dX2_withStation_15 : decode cX2_withStation 15 = .ok (.lstore 4, 2) := by decide +kernel
theorem dX2_withStation_17 : decode cX2_withStation 17 = .ok (.iconst 0, 1) := by decide +kernel
theorem dX2_withStation_18 : decode cX2_withStation 18 = .ok (.istore 6, 2) := by decide +kernel
theorem dX2_withStation_20 : decode cX2_withStation 20 = .ok (.iload 6, 2) := by decide +kernel
theorem dX2_withStation_22 : decode cX2_withStation 22 = .ok (.bipush 6, 2) := by decide +kernel
theorem dX2_withStation_24 : decode cX2_withStation 24 = .ok (.if_icmp .gt 23, 3) := by decide +kernel
theorem dX2_withStation_27 : decode cX2_withStation 27 = .ok (.lload 4, 2) := by decide +kernel
theorem dX2_withStation_29 : decode cX2_withStation 29 = .ok (.aload_n 3, 1) := by decide +kernel
theorem dX2_withStation_30 : decode cX2_withStation 30 = .ok (.iload 6, 2) := by decide +kernel
theorem dX2_withStation_32 : decode cX2_withStation 32 = .ok (.invokevirtual 176, 3) := by decide +kernel
theorem dX2_withStation_35 : decode cX2_withStation 35 = .ok (.i2l, 1) := by decide +kernel
theorem dX2_withStation_36 : decode cX2_withStation 36 = .ok (.invokestatic 156, 3) := by decide +kernel
theorem dX2_withStation_39 : decode cX2_withStation 39 = .ok (.lstore 4, 2) := by decide +kernel
theorem dX2_withStation_41 : decode cX2_withStation 41 = .ok (.iinc 6 1, 3) := by decide +kernel
theorem dX2_withStation_44 : decode cX2_withStation 44 = .ok (.goto (-24), 3) := by decide +kernel
theorem dX2_withStation_47 : decode cX2_withStation 47 = .ok (.aload_n 3, 1) := by decide +kernel
theorem dX2_withStation_48 : decode cX2_withStation 48 = .ok (.getfield 177, 3) := by decide +kernel
theorem dX2_withStation_51 : decode cX2_withStation 51 = .ok (.istore 6, 2) := by decide +kernel
theorem dX2_withStation_53 : decode cX2_withStation 53 = .ok (.iconst 0, 1) := by decide +kernel
theorem dX2_withStation_54 : decode cX2_withStation 54 = .ok (.istore 7, 2) := by decide +kernel
theorem dX2_withStation_56 : decode cX2_withStation 56 = .ok (.iload 7, 2) := by decide +kernel
theorem dX2_withStation_58 : decode cX2_withStation 58 = .ok (.aload_n 3, 1) := by decide +kernel
theorem dX2_withStation_59 : decode cX2_withStation 59 = .ok (.getfield 118, 3) := by decide +kernel
theorem dX2_withStation_62 : decode cX2_withStation 62 = .ok (.if_icmp .ge 30, 3) := by decide +kernel
theorem dX2_withStation_65 : decode cX2_withStation 65 = .ok (.lload 4, 2) := by decide +kernel
theorem dX2_withStation_67 : decode cX2_withStation 67 = .ok (.iload 6, 2) := by decide +kernel
theorem dX2_withStation_69 : decode cX2_withStation 69 = .ok (.i2l, 1) := by decide +kernel
theorem dX2_withStation_70 : decode cX2_withStation 70 = .ok (.invokestatic 156, 3) := by decide +kernel
theorem dX2_withStation_73 : decode cX2_withStation 73 = .ok (.lstore 4, 2) := by decide +kernel
theorem dX2_withStation_75 : decode cX2_withStation 75 = .ok (.aload_n 0, 1) := by decide +kernel
theorem dX2_withStation_76 : decode cX2_withStation 76 = .ok (.getfield 20, 3) := by decide +kernel
theorem dX2_withStation_79 : decode cX2_withStation 79 = .ok (.iload 6, 2) := by decide +kernel
theorem dX2_withStation_81 : decode cX2_withStation 81 = .ok (.invokevirtual 180, 3) := by decide +kernel
theorem dX2_withStation_84 : decode cX2_withStation 84 = .ok (.istore 6, 2) := by decide +kernel
theorem dX2_withStation_86 : decode cX2_withStation 86 = .ok (.iinc 7 1, 3) := by decide +kernel
theorem dX2_withStation_89 : decode cX2_withStation 89 = .ok (.goto (-33), 3) := by decide +kernel
theorem dX2_withStation_92 : decode cX2_withStation 92 = .ok (.lload 4, 2) := by decide +kernel
theorem dX2_withStation_94 : decode cX2_withStation 94 = .ok (.lreturn, 1) := by decide +kernel
theorem dX2_withLog_0 : decode cX2_withLog 0 = .ok (.aload_n 0, 1) := by decide +kernel
theorem dX2_withLog_1 : decode cX2_withLog 1 = .ok (.invokevirtual 86, 3) := by decide +kernel
theorem dX2_withLog_4 : decode cX2_withLog 4 = .ok (.istore_n 3, 1) := by decide +kernel
theorem dX2_withLog_5 : decode cX2_withLog 5 = .ok (.lload_n 1, 1) := by decide +kernel
theorem dX2_withLog_6 : decode cX2_withLog 6 = .ok (.iload_n 3, 1) := by decide +kernel
theorem dX2_withLog_7 : decode cX2_withLog 7 = .ok (.i2l, 1) := by decide +kernel
theorem dX2_withLog_8 : decode cX2_withLog 8 = .ok (.invokestatic 156, 3) := by decide +kernel
theorem dX2_withLog_11 : decode cX2_withLog 11 = .ok (.lstore 4, 2) := by decide +kernel
