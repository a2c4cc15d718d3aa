theorem dX0_init_0 : decode cX0_init 0 = .ok (.aload_n 0, 1) := by decide +kernel
theorem dX0_init_1 : decode cX0_init 1 = .ok (.invokespecial 1, 3) := by decide +kernel
theorem dX0_init_4 : decode cX0_init 4 = .ok (.return_, 1) := by decide +kernel
theorem dX0_clear_0 : decode cX0_clear 0 = .ok (.aload_n 0, 1) := by decide +kernel
theorem dX0_clear_1 : decode cX0_clear 1 = .ok (.iconst 0, 1) := by decide +kernel
theorem dX0_clear_2 : decode cX0_clear 2 = .ok (.putfield 7, 3) := by decide +kernel
theorem dX0_clear_5 : decode cX0_clear 5 = .ok (.aload_n 0, 1) := by decide +kernel
theorem dX0_clear_6 : decode cX0_clear 6 = .ok (.iconst 0, 1) := by decide +kernel
theorem dX0_clear_7 : decode cX0_clear 7 = .ok (.putfield 13, 3) := by decide +kernel
theorem dX0_clear_10 : decode cX0_clear 10 = .ok (.aload_n 0, 1) := by decide +kernel
theorem dX0_clear_11 : decode cX0_clear 11 = .ok (.iconst 0, 1) := by decide +kernel
theorem dX0_clear_12 : decode cX0_clear 12 = .ok (.putfield 16, 3) := by decide +kernel
theorem dX0_clear_15 : decode cX0_clear 15 = .ok (.aload_n 0, 1) := by decide +kernel
theorem dX0_clear_16 : decode cX0_clear 16 = .ok (.iconst 0, 1) := by decide +kernel
theorem dX0_clear_17 : decode cX0_clear 17 = .ok (.putfield 19, 3) := by decide +kernel
theorem dX0_clear_20 : decode cX0_clear 20 = .ok (.aload_n 0, 1) := by decide +kernel
theorem dX0_clear_21 : decode cX0_clear 21 = .ok (.iconst 0, 1) := by decide +kernel
theorem dX0_clear_22 : decode cX0_clear 22 = .ok (.putfield 22, 3) := by decide +kernel
theorem dX0_clear_25 : decode cX0_clear 25 = .ok (.aload_n 0, 1) := by decide +kernel
theorem dX0_clear_26 : decode cX0_clear 26 = .ok (.iconst 0, 1) := by decide +kernel
theorem dX0_clear_27 : decode cX0_clear 27 = .ok (.putfield 25, 3) := by decide +kernel
theorem dX0_clear_30 : decode cX0_clear 30 = .ok (.aload_n 0, 1) := by decide +kernel
theorem dX0_clear_31 : decode cX0_clear 31 = .ok (.iconst 0, 1) := by decide +kernel
theorem dX0_clear_32 : decode cX0_clear 32 = .ok (.putfield 28, 3) := by decide +kernel
theorem dX0_clear_35 : decode cX0_clear 35 = .ok (.aload_n 0, 1) := by decide +kernel
theorem dX0_clear_36 : decode cX0_clear 36 = .ok (.iconst 0, 1) := by decide +kernel
theorem dX0_clear_37 : decode cX0_clear 37 = .ok (.putfield 31, 3) := by decide +kernel
theorem dX0_clear_40 : decode cX0_clear 40 = .ok (.aload_n 0, 1) := by decide +kernel
theorem dX0_clear_41 : decode cX0_clear 41 = .ok (.iconst 0, 1) := by decide +kernel
theorem dX0_clear_42 : decode cX0_clear 42 = .ok (.putfield 34, 3) := by decide +kernel
theorem dX0_clear_45 : decode cX0_clear 45 = .ok (.aload_n 0, 1) := by decide +kernel
theorem dX0_clear_46 : decode cX0_clear 46 = .ok (.lconst 0, 1) := by decide +kernel
theorem dX0_clear_47 : decode cX0_clear 47 = .ok (.putfield 37, 3) := by decide +kernel
theorem dX0_clear_50 : decode cX0_clear 50 = .ok (.return_, 1) := by decide +kernel
theorem dX0_copyFrom_0 : decode cX0_copyFrom 0 = .ok (.aload_n 0, 1) := by decide +kernel
theorem dX0_copyFrom_1 : decode cX0_copyFrom 1 = .ok (.aload_n 1, 1) := by decide +kernel
theorem dX0_copyFrom_2 : decode cX0_copyFrom 2 = .ok (.getfield 7, 3) := by decide +kernel
theorem dX0_copyFrom_5 : decode cX0_copyFrom 5 = .ok (.putfield 7, 3) := by decide +kernel
theorem dX0_copyFrom_8 : decode cX0_copyFrom 8 = .ok (.aload_n 0, 1) := by decide +kernel
theorem dX0_copyFrom_9 : decode cX0_copyFrom 9 = .ok (.aload_n 1, 1) := by decide +kernel
theorem dX0_copyFrom_10 : decode cX0_copyFrom 10 = .ok (.getfield 13, 3) := by decide +kernel
theorem dX0_copyFrom_13 : decode cX0_copyFrom 13 = .ok (.putfield 13, 3) := by decide +kernel
theorem dX0_copyFrom_16 : decode cX0_copyFrom 16 = .ok (.aload_n 0, 1) := by decide +kernel
theorem dX0_copyFrom_17 : decode cX0_copyFrom 17 = .ok (.aload_n 1, 1) := by decide +kernel
theorem dX0_copyFrom_18 : decode cX0_copyFrom 18 = .ok (.getfield 16, 3) := by decide +kernel
theorem dX0_copyFrom_21 : decode cX0_copyFrom 21 = .ok (.putfield 16, 3) := by decide +kernel
theorem dX0_copyFrom_24 : decode cX0_copyFrom 24 = .ok (.aload_n 0, 1) := by decide +kernel
theorem dX0_copyFrom_25 : decode cX0_copyFrom 25 = .ok (.aload_n 1, 1) := by decide +kernel
theorem dX0_copyFrom_26 : decode cX0_copyFrom 26 = .ok (.getfield 19, 3) := by decide +kernel
theorem dX0_copyFrom_29 : decode cX0_copyFrom 29 = .ok (.putfield 19, 3) := by decide +kernel
theorem dX0_copyFrom_32 : decode cX0_copyFrom 32 = .ok (.aload_n 0, 1) := by decide +kernel
theorem dX0_copyFrom_33 : decode cX0_copyFrom 33 = .ok (.aload_n 1, 1) := by decide +kernel
theorem dX0_copyFrom_34 : decode cX0_copyFrom 34 = .ok (.getfield 22, 3) := by decide +kernel
theorem dX0_copyFrom_37 : decode cX0_copyFrom 37 = .ok (.putfield 22, 3) := by decide +kernel
theorem dX0_copyFrom_40 : decode cX0_copyFrom 40 = .ok (.aload_n 0, 1) := by decide +kernel
theorem dX0_copyFrom_41 : decode cX0_copyFrom 41 = .ok (.aload_n 1, 1) := by decide +kernel
theorem dX0_copyFrom_42 : decode cX0_copyFrom 42 = .ok (.getfield 25, 3) := by decide +kernel
theorem dX0_copyFrom_45 : decode cX0_copyFrom 45 = .ok (.putfield 25, 3) := by decide +kernel
theorem dX0_copyFrom_48 : decode cX0_copyFrom 48 = .ok (.aload_n 0, 1) := by decide +kernel
theorem dX0_copyFrom_49 : decode cX0_copyFrom 49 = .ok (.aload_n 1, 1) := by decide +kernel
theorem dX0_copyFrom_50 : decode cX0_copyFrom 50 = .ok (.getfield 28, 3) := by decide +kernel
theorem dX0_copyFrom_53 : decode cX0_copyFrom 53 = .ok (.putfield 28, 3) := by decide +kernel
theorem dX0_copyFrom_56 : decode cX0_copyFrom 56 = .ok (.aload_n 0, 1) := by decide +kernel
theorem dX0_copyFrom_57 : decode cX0_copyFrom 57 = .ok (.aload_n 1, 1) := by decide +kernel
theorem dX0_copyFrom_58 : decode cX0_copyFrom 58 = .ok (.getfield 31, 3) := by decide +kernel
theorem dX0_copyFrom_61 : decode cX0_copyFrom 61 = .ok (.putfield 31, 3) := by decide +kernel
theorem dX0_copyFrom_64 : decode cX0_copyFrom 64 = .ok (.aload_n 0, 1) := by decide +kernel
theorem dX0_copyFrom_65 : decode cX0_copyFrom 65 = .ok (.aload_n 1, 1) := by decide +kernel
theorem dX0_copyFrom_66 : decode cX0_copyFrom 66 = .ok (.getfield 34, 3) := by decide +kernel
theorem dX0_copyFrom_69 : decode cX0_copyFrom 69 = .ok (.putfield 34, 3) := by decide +kernel
theorem dX0_copyFrom_72 : decode cX0_copyFrom 72 = .ok (.aload_n 0, 1) := by decide +kernel
theorem dX0_copyFrom_73 : decode cX0_copyFrom 73 = .ok (.aload_n 1, 1) := by decide +kernel
theorem dX0_copyFrom_74 : decode cX0_copyFrom 74 = .ok (.getfield 37, 3) := by decide +kernel
theorem dX0_copyFrom_77 : decode cX0_copyFrom 77 = .ok (.putfield 37, 3) := by decide +kernel
theorem dX0_copyFrom_80 : decode cX0_copyFrom 80 = .ok (.return_, 1) := by decide +kernel
theorem dX0_addSent_0 : decode cX0_addSent 0 = .ok (.aload_n 0, 1) := by decide +kernel
theorem dX0_addSent_1 : decode cX0_addSent 1 = .ok (.dup, 1) := by decide +kernel
theorem dX0_addSent_2 : decode cX0_addSent 2 = .ok (.getfield 13, 3) := by decide +kernel
theorem dX0_addSent_5 : decode cX0_addSent 5 = .ok (.iconst 1, 1) := by decide +kernel
theorem dX0_addSent_6 : decode cX0_addSent 6 = .ok (.iadd, 1) := by decide +kernel
theorem dX0_addSent_7 : decode cX0_addSent 7 = .ok (.putfield 13, 3) := by decide +kernel
theorem dX0_addSent_10 : decode cX0_addSent 10 = .ok (.aload_n 0, 1) := by decide +kernel
theorem dX0_addSent_11 : decode cX0_addSent 11 = .ok (.dup, 1) := by decide +kernel
theorem dX0_addSent_12 : decode cX0_addSent 12 = .ok (.getfield 28, 3) := by decide +kernel
theorem dX0_addSent_15 : decode cX0_addSent 15 = .ok (.iload_n 1, 1) := by decide +kernel
theorem dX0_addSent_16 : decode cX0_addSent 16 = .ok (.iadd, 1) := by decide +kernel
theorem dX0_addSent_17 : decode cX0_addSent 17 = .ok (.putfield 28, 3) := by decide +kernel
theorem dX0_addSent_20 : decode cX0_addSent 20 = .ok (.aload_n 0, 1) := by decide +kernel
theorem dX0_addSent_21 : decode cX0_addSent 21 = .ok (.dup, 1) := by decide +kernel
theorem dX0_addSent_22 : decode cX0_addSent 22 = .ok (.getfield 37, 3) := by decide +kernel
theorem dX0_addSent_25 : decode cX0_addSent 25 = .ok (.iload_n 2, 1) := by decide +kernel
theorem dX0_addSent_26 : decode cX0_addSent 26 = .ok (.i2l, 1) := by decide +kernel
theorem dX0_addSent_27 : decode cX0_addSent 27 = .ok (.ladd, 1) := by decide +kernel
theorem dX0_addSent_28 : decode cX0_addSent 28 = .ok (.putfield 37, 3) := by decide +kernel
theorem dX0_addSent_31 : decode cX0_addSent 31 = .ok (.aload_n 0, 1) := by decide +kernel
theorem dX0_addSent_32 : decode cX0_addSent 32 = .ok (.aload_n 0, 1) := by decide +kernel
theorem dX0_addSent_33 : decode cX0_addSent 33 = .ok (.getfield 34, 3) := by decide +kernel
theorem dX0_addSent_36 : decode cX0_addSent 36 = .ok (.iload_n 2, 1) := by decide +kernel
theorem dX0_addSent_37 : decode cX0_addSent 37 = .ok (.invokestatic 41, 3) := by decide +kernel
theorem dX0_addSent_40 : decode cX0_addSent 40 = .ok (.putfield 34, 3) := by decide +kernel
theorem dX0_addSent_43 : decode cX0_addSent 43 = .ok (.return_, 1) := by decide +kernel
theorem dX0_value_0 : decode cX0_value 0 = .ok (.iload_n 1, 1) := by decide +kernel
theorem dX0_value_1 : decode cX0_value 1 = .ok (.tableswitch 69 0 5 #[39, 44, 49, 54, 59, 64], 39) := by decide +kernel
theorem dX0_value_40 : decode cX0_value 40 = .ok (.aload_n 0, 1) := by decide +kernel
theorem dX0_value_41 : decode cX0_value 41 = .ok (.getfield 7, 3) := by decide +kernel
theorem dX0_value_44 : decode cX0_value 44 = .ok (.ireturn, 1) := by decide +kernel
theorem dX0_value_45 : decode cX0_value 45 = .ok (.aload_n 0, 1) := by decide +kernel
theorem dX0_value_46 : decode cX0_value 46 = .ok (.getfield 13, 3) := by decide +kernel
theorem dX0_value_49 : decode cX0_value 49 = .ok (.ireturn, 1) := by decide +kernel
theorem dX0_value_50 : decode cX0_value 50 = .ok (.aload_n 0, 1) := by decide +kernel
theorem dX0_value_51 : decode cX0_value 51 = .ok (.getfield 16, 3) := by decide +kernel
theorem dX0_value_54 : decode cX0_value 54 = .ok (.ireturn, 1) := by decide +kernel
theorem dX0_value_55 : decode cX0_value 55 = .ok (.aload_n 0, 1) := by decide +kernel
theorem dX0_value_56 : decode cX0_value 56 = .ok (.getfield 19, 3) := by decide +kernel
theorem dX0_value_59 : decode cX0_value 59 = .ok (.ireturn, 1) := by decide +kernel
theorem dX0_value_60 : decode cX0_value 60 = .ok (.aload_n 0, 1) := by decide +kernel
theorem dX0_value_61 : decode cX0_value 61 = .ok (.getfield 22, 3) := by decide +kernel
theorem dX0_value_64 : decode cX0_value 64 = .ok (.ireturn, 1) := by decide +kernel
theorem dX0_value_65 : decode cX0_value 65 = .ok (.aload_n 0, 1) := by decide +kernel
theorem dX0_value_66 : decode cX0_value 66 = .ok (.getfield 25, 3) := by decide +kernel
theorem dX0_value_69 : decode cX0_value 69 = .ok (.ireturn, 1) := by decide +kernel
theorem dX0_value_70 : decode cX0_value 70 = .ok (.aload_n 0, 1) := by decide +kernel
theorem dX0_value_71 : decode cX0_value 71 = .ok (.getfield 28, 3) := by decide +kernel
theorem dX0_value_74 : decode cX0_value 74 = .ok (.ireturn, 1) := by decide +kernel
theorem dX1_init_0 : decode cX1_init 0 = .ok (.aload_n 0, 1) := by decide +kernel
theorem dX1_init_1 : decode cX1_init 1 = .ok (.invokespecial 3, 3) := by decide +kernel
theorem dX1_init_4 : decode cX1_init 4 = .ok (.aload_n 0, 1) := by decide +kernel
theorem dX1_init_5 : decode cX1_init 5 = .ok (.iconst 4, 1) := by decide +kernel
theorem dX1_init_6 : decode cX1_init 6 = .ok (.anewarray 9, 3) := by decide +kernel
theorem dX1_init_9 : decode cX1_init 9 = .ok (.putfield 11, 3) := by decide +kernel
theorem dX1_init_12 : decode cX1_init 12 = .ok (.iconst 0, 1) := by decide +kernel
theorem dX1_init_13 : decode cX1_init 13 = .ok (.istore_n 1, 1) := by decide +kernel
theorem dX1_init_14 : decode cX1_init 14 = .ok (.iload_n 1, 1) := by decide +kernel
theorem dX1_init_15 : decode cX1_init 15 = .ok (.aload_n 0, 1) := by decide +kernel
theorem dX1_init_16 : decode cX1_init 16 = .ok (.getfield 11, 3) := by decide +kernel
theorem dX1_init_19 : decode cX1_init 19 = .ok (.arraylength, 1) := by decide +kernel
theorem dX1_init_20 : decode cX1_init 20 = .ok (.if_icmp .ge 22, 3) := by decide +kernel
theorem dX1_init_23 : decode cX1_init 23 = .ok (.aload_n 0, 1) := by decide +kernel
theorem dX1_init_24 : decode cX1_init 24 = .ok (.getfield 11, 3) := by decide +kernel
theorem dX1_init_27 : decode cX1_init 27 = .ok (.iload_n 1, 1) := by decide +kernel
theorem dX1_init_28 : decode cX1_init 28 = .ok (.new 9, 3) := by decide +kernel
theorem dX1_init_31 : decode cX1_init 31 = .ok (.dup, 1) := by decide +kernel
theorem dX1_init_32 : decode cX1_init 32 = .ok (.invokespecial 17, 3) := by decide +kernel
theorem dX1_init_35 : decode cX1_init 35 = .ok (.aastore, 1) := by decide +kernel
theorem dX1_init_36 : decode cX1_init 36 = .ok (.iinc 1 1, 3) := by decide +kernel
theorem dX1_init_39 : decode cX1_init 39 = .ok (.goto (-25), 3) := by decide +kernel
theorem dX1_init_42 : decode cX1_init 42 = .ok (.return_, 1) := by decide +kernel
theorem dX1_save_0 : decode cX1_save 0 = .ok (.aload_n 0, 1) := by decide +kernel
theorem dX1_save_1 : decode cX1_save 1 = .ok (.getfield 18, 3) := by decide +kernel
theorem dX1_save_4 : decode cX1_save 4 = .ok (.aload_n 0, 1) := by decide +kernel
theorem dX1_save_5 : decode cX1_save 5 = .ok (.getfield 11, 3) := by decide +kernel
theorem dX1_save_8 : decode cX1_save 8 = .ok (.arraylength, 1) := by decide +kernel
theorem dX1_save_9 : decode cX1_save 9 = .ok (.if_icmp .lt 7, 3) := by decide +kernel
theorem dX1_save_12 : decode cX1_save 12 = .ok (.aload_n 0, 1) := by decide +kernel
theorem dX1_save_13 : decode cX1_save 13 = .ok (.invokevirtual 22, 3) := by decide +kernel
theorem dX1_save_16 : decode cX1_save 16 = .ok (.aload_n 0, 1) := by decide +kernel
theorem dX1_save_17 : decode cX1_save 17 = .ok (.aload_n 0, 1) := by decide +kernel
theorem dX1_save_18 : decode cX1_save 18 = .ok (.getfield 18, 3) := by decide +kernel
theorem dX1_save_21 : decode cX1_save 21 = .ok (.invokevirtual 25, 3) := by decide +kernel
theorem dX1_save_24 : decode cX1_save 24 = .ok (.astore_n 2, 1) := by decide +kernel
theorem dX1_save_25 : decode cX1_save 25 = .ok (.aload_n 2, 1) := by decide +kernel
theorem dX1_save_26 : decode cX1_save 26 = .ok (.ifnull 18, 3) := by decide +kernel
theorem dX1_save_29 : decode cX1_save 29 = .ok (.aload_n 2, 1) := by decide +kernel
theorem dX1_save_30 : decode cX1_save 30 = .ok (.aload_n 1, 1) := by decide +kernel
theorem dX1_save_31 : decode cX1_save 31 = .ok (.invokevirtual 29, 3) := by decide +kernel
theorem dX1_save_34 : decode cX1_save 34 = .ok (.aload_n 0, 1) := by decide +kernel
theorem dX1_save_35 : decode cX1_save 35 = .ok (.dup, 1) := by decide +kernel
theorem dX1_save_36 : decode cX1_save 36 = .ok (.getfield 18, 3) := by decide +kernel
theorem dX1_save_39 : decode cX1_save 39 = .ok (.iconst 1, 1) := by decide +kernel
theorem dX1_save_40 : decode cX1_save 40 = .ok (.iadd, 1) := by decide +kernel
theorem dX1_save_41 : decode cX1_save 41 = .ok (.putfield 18, 3) := by decide +kernel
theorem dX1_save_44 : decode cX1_save 44 = .ok (.return_, 1) := by decide +kernel
theorem dX1_dropOldest_0 : decode cX1_dropOldest 0 = .ok (.aload_n 0, 1) := by decide +kernel
theorem dX1_dropOldest_1 : decode cX1_dropOldest 1 = .ok (.iconst 0, 1) := by decide +kernel
theorem dX1_dropOldest_2 : decode cX1_dropOldest 2 = .ok (.invokevirtual 25, 3) := by decide +kernel
theorem dX1_dropOldest_5 : decode cX1_dropOldest 5 = .ok (.astore_n 1, 1) := by decide +kernel
theorem dX1_dropOldest_6 : decode cX1_dropOldest 6 = .ok (.iconst 1, 1) := by decide +kernel
theorem dX1_dropOldest_7 : decode cX1_dropOldest 7 = .ok (.istore_n 2, 1) := by decide +kernel
theorem dX1_dropOldest_8 : decode cX1_dropOldest 8 = .ok (.iload_n 2, 1) := by decide +kernel
theorem dX1_dropOldest_9 : decode cX1_dropOldest 9 = .ok (.aload_n 0, 1) := by decide +kernel
theorem dX1_dropOldest_10 : decode cX1_dropOldest 10 = .ok (.getfield 11, 3) := by decide +kernel
theorem dX1_dropOldest_13 : decode cX1_dropOldest 13 = .ok (.arraylength, 1) := by decide +kernel
theorem dX1_dropOldest_14 : decode cX1_dropOldest 14 = .ok (.if_icmp .ge 23, 3) := by decide +kernel
theorem dX1_dropOldest_17 : decode cX1_dropOldest 17 = .ok (.aload_n 0, 1) := by decide +kernel
theorem dX1_dropOldest_18 : decode cX1_dropOldest 18 = .ok (.getfield 11, 3) := by decide +kernel
theorem dX1_dropOldest_21 : decode cX1_dropOldest 21 = .ok (.iload_n 2, 1) := by decide +kernel
theorem dX1_dropOldest_22 : decode cX1_dropOldest 22 = .ok (.iconst 1, 1) := by decide +kernel
theorem dX1_dropOldest_23 : decode cX1_dropOldest 23 = .ok (.isub, 1) := by decide +kernel
theorem dX1_dropOldest_24 : decode cX1_dropOldest 24 = .ok (.aload_n 0, 1) := by decide +kernel
theorem dX1_dropOldest_25 : decode cX1_dropOldest 25 = .ok (.getfield 11, 3) := by decide +kernel
theorem dX1_dropOldest_28 : decode cX1_dropOldest 28 = .ok (.iload_n 2, 1) := by decide +kernel
theorem dX1_dropOldest_29 : decode cX1_dropOldest 29 = .ok (.aaload, 1) := by decide +kernel
theorem dX1_dropOldest_30 : decode cX1_dropOldest 30 = .ok (.aastore, 1) := by decide +kernel
theorem dX1_dropOldest_31 : decode cX1_dropOldest 31 = .ok (.iinc 2 1, 3) := by decide +kernel
theorem dX1_dropOldest_34 : decode cX1_dropOldest 34 = .ok (.goto (-26), 3) := by decide +kernel
theorem dX1_dropOldest_37 : decode cX1_dropOldest 37 = .ok (.aload_n 0, 1) := by decide +kernel
theorem dX1_dropOldest_38 : decode cX1_dropOldest 38 = .ok (.aload_n 0, 1) := by decide +kernel
theorem dX1_dropOldest_39 : decode cX1_dropOldest 39 = .ok (.getfield 11, 3) := by decide +kernel
theorem dX1_dropOldest_42 : decode cX1_dropOldest 42 = .ok (.arraylength, 1) := by decide +kernel
theorem dX1_dropOldest_43 : decode cX1_dropOldest 43 = .ok (.iconst 1, 1) := by decide +kernel
theorem dX1_dropOldest_44 : decode cX1_dropOldest 44 = .ok (.isub, 1) := by decide +kernel
theorem dX1_dropOldest_45 : decode cX1_dropOldest 45 = .ok (.putfield 18, 3) := by decide +kernel
theorem dX1_dropOldest_48 : decode cX1_dropOldest 48 = .ok (.aload_n 0, 1) := by decide +kernel
theorem dX1_dropOldest_49 : decode cX1_dropOldest 49 = .ok (.getfield 11, 3) := by decide +kernel
theorem dX1_dropOldest_52 : decode cX1_dropOldest 52 = .ok (.aload_n 0, 1) := by decide +kernel
theorem dX1_dropOldest_53 : decode cX1_dropOldest 53 = .ok (.getfield 18, 3) := by decide +kernel
theorem dX1_dropOldest_56 : decode cX1_dropOldest 56 = .ok (.aload_n 1, 1) := by decide +kernel
theorem dX1_dropOldest_57 : decode cX1_dropOldest 57 = .ok (.aastore, 1) := by decide +kernel
theorem dX1_dropOldest_58 : decode cX1_dropOldest 58 = .ok (.return_, 1) := by decide +kernel
theorem dX1_restore_0 : decode cX1_restore 0 = .ok (.aload_n 0, 1) := by decide +kernel
theorem dX1_restore_1 : decode cX1_restore 1 = .ok (.aload_n 0, 1) := by decide +kernel
theorem dX1_restore_2 : decode cX1_restore 2 = .ok (.getfield 18, 3) := by decide +kernel
theorem dX1_restore_5 : decode cX1_restore 5 = .ok (.iconst 1, 1) := by decide +kernel
theorem dX1_restore_6 : decode cX1_restore 6 = .ok (.isub, 1) := by decide +kernel
theorem dX1_restore_7 : decode cX1_restore 7 = .ok (.invokevirtual 25, 3) := by decide +kernel
theorem dX1_restore_10 : decode cX1_restore 10 = .ok (.astore_n 2, 1) := by decide +kernel
theorem dX1_restore_11 : decode cX1_restore 11 = .ok (.aload_n 2, 1) := by decide +kernel
theorem dX1_restore_12 : decode cX1_restore 12 = .ok (.ifnull 18, 3) := by decide +kernel
theorem dX1_restore_15 : decode cX1_restore 15 = .ok (.aload_n 1, 1) := by decide +kernel
theorem dX1_restore_16 : decode cX1_restore 16 = .ok (.aload_n 2, 1) := by decide +kernel
theorem dX1_restore_17 : decode cX1_restore 17 = .ok (.invokevirtual 29, 3) := by decide +kernel
theorem dX1_restore_20 : decode cX1_restore 20 = .ok (.aload_n 0, 1) := by decide +kernel
theorem dX1_restore_21 : decode cX1_restore 21 = .ok (.dup, 1) := by decide +kernel
theorem dX1_restore_22 : decode cX1_restore 22 = .ok (.getfield 18, 3) := by decide +kernel
theorem dX1_restore_25 : decode cX1_restore 25 = .ok (.iconst 1, 1) := by decide +kernel
theorem dX1_restore_26 : decode cX1_restore 26 = .ok (.isub, 1) := by decide +kernel
theorem dX1_restore_27 : decode cX1_restore 27 = .ok (.putfield 18, 3) := by decide +kernel
theorem dX1_restore_30 : decode cX1_restore 30 = .ok (.return_, 1) := by decide +kernel
theorem dX1_stateAt_0 : decode cX1_stateAt 0 = .ok (.iload_n 1, 1) := by decide +kernel
theorem dX1_stateAt_1 : decode cX1_stateAt 1 = .ok (.ifCond .lt 21, 3) := by decide +kernel
theorem dX1_stateAt_4 : decode cX1_stateAt 4 = .ok (.iload_n 1, 1) := by decide +kernel
theorem dX1_stateAt_5 : decode cX1_stateAt 5 = .ok (.aload_n 0, 1) := by decide +kernel
theorem dX1_stateAt_6 : decode cX1_stateAt 6 = .ok (.getfield 11, 3) := by decide +kernel
theorem dX1_stateAt_9 : decode cX1_stateAt 9 = .ok (.arraylength, 1) := by decide +kernel
theorem dX1_stateAt_10 : decode cX1_stateAt 10 = .ok (.if_icmp .ge 12, 3) := by decide +kernel
theorem dX1_stateAt_13 : decode cX1_stateAt 13 = .ok (.aload_n 0, 1) := by decide +kernel
theorem dX1_stateAt_14 : decode cX1_stateAt 14 = .ok (.getfield 11, 3) := by decide +kernel
theorem dX1_stateAt_17 : decode cX1_stateAt 17 = .ok (.iload_n 1, 1) := by decide +kernel
theorem dX1_stateAt_18 : decode cX1_stateAt 18 = .ok (.aaload, 1) := by decide +kernel
theorem dX1_stateAt_19 : decode cX1_stateAt 19 = .ok (.goto 4, 3) := by decide +kernel
theorem dX1_stateAt_22 : decode cX1_stateAt 22 = .ok (.aconst_null, 1) := by decide +kernel
theorem dX1_stateAt_23 : decode cX1_stateAt 23 = .ok (.areturn, 1) := by decide +kernel
theorem dX2_init_0 : decode cX2_init 0 = .ok (.aload_n 0, 1) := by decide +kernel
theorem dX2_init_1 : decode cX2_init 1 = .ok (.invokespecial 3, 3) := by decide +kernel
theorem dX2_init_4 : decode cX2_init 4 = .ok (.aload_n 0, 1) := by decide +kernel
theorem dX2_init_5 : decode cX2_init 5 = .ok (.bipush 8, 2) := by decide +kernel
theorem dX2_init_7 : decode cX2_init 7 = .ok (.anewarray 9, 3) := by decide +kernel
theorem dX2_init_10 : decode cX2_init 10 = .ok (.putfield 11, 3) := by decide +kernel
theorem dX2_init_13 : decode cX2_init 13 = .ok (.aload_n 0, 1) := by decide +kernel
theorem dX2_init_14 : decode cX2_init 14 = .ok (.new 17, 3) := by decide +kernel
theorem dX2_init_17 : decode cX2_init 17 = .ok (.dup, 1) := by decide +kernel
theorem dX2_init_18 : decode cX2_init 18 = .ok (.invokespecial 19, 3) := by decide +kernel
theorem dX2_init_21 : decode cX2_init 21 = .ok (.putfield 20, 3) := by decide +kernel
theorem dX2_init_24 : decode cX2_init 24 = .ok (.aload_n 0, 1) := by decide +kernel
theorem dX2_init_25 : decode cX2_init 25 = .ok (.new 24, 3) := by decide +kernel
theorem dX2_init_28 : decode cX2_init 28 = .ok (.dup, 1) := by decide +kernel
theorem dX2_init_29 : decode cX2_init 29 = .ok (.invokespecial 26, 3) := by decide +kernel
theorem dX2_init_32 : decode cX2_init 32 = .ok (.putfield 27, 3) := by decide +kernel
theorem dX2_init_35 : decode cX2_init 35 = .ok (.aload_n 0, 1) := by decide +kernel
theorem dX2_init_36 : decode cX2_init 36 = .ok (.new 31, 3) := by decide +kernel
theorem dX2_init_39 : decode cX2_init 39 = .ok (.dup, 1) := by decide +kernel
theorem dX2_init_40 : decode cX2_init 40 = .ok (.invokespecial 33, 3) := by decide +kernel
theorem dX2_init_43 : decode cX2_init 43 = .ok (.putfield 34, 3) := by decide +kernel
theorem dX2_init_46 : decode cX2_init 46 = .ok (.aload_n 0, 1) := by decide +kernel
theorem dX2_init_47 : decode cX2_init 47 = .ok (.new 38, 3) := by decide +kernel
theorem dX2_init_50 : decode cX2_init 50 = .ok (.dup, 1) := by decide +kernel
theorem dX2_init_51 : decode cX2_init 51 = .ok (.bipush 40, 2) := by decide +kernel
theorem dX2_init_53 : decode cX2_init 53 = .ok (.iconst 4, 1) := by decide +kernel
theorem dX2_init_54 : decode cX2_init 54 = .ok (.invokespecial 40, 3) := by decide +kernel
theorem dX2_init_57 : decode cX2_init 57 = .ok (.putfield 43, 3) := by decide +kernel
theorem dX2_init_60 : decode cX2_init 60 = .ok (.aload_n 0, 1) := by decide +kernel
theorem dX2_init_61 : decode cX2_init 61 = .ok (.bipush 60, 2) := by decide +kernel
theorem dX2_init_63 : decode cX2_init 63 = .ok (.putfield 47, 3) := by decide +kernel
theorem dX2_init_66 : decode cX2_init 66 = .ok (.aload_n 0, 1) := by decide +kernel
theorem dX2_init_67 : decode cX2_init 67 = .ok (.iconst 4, 1) := by decide +kernel
theorem dX2_init_68 : decode cX2_init 68 = .ok (.putfield 51, 3) := by decide +kernel
theorem dX2_init_71 : decode cX2_init 71 = .ok (.aload_n 0, 1) := by decide +kernel
theorem dX2_init_72 : decode cX2_init 72 = .ok (.iconst 3, 1) := by decide +kernel
theorem dX2_init_73 : decode cX2_init 73 = .ok (.putfield 54, 3) := by decide +kernel
theorem dX2_init_76 : decode cX2_init 76 = .ok (.aload_n 0, 1) := by decide +kernel
theorem dX2_init_77 : decode cX2_init 77 = .ok (.iconst (-1), 1) := by decide +kernel
theorem dX2_init_78 : decode cX2_init 78 = .ok (.putfield 57, 3) := by decide +kernel
theorem dX2_init_81 : decode cX2_init 81 = .ok (.iconst 0, 1) := by decide +kernel
theorem dX2_init_82 : decode cX2_init 82 = .ok (.istore_n 1, 1) := by decide +kernel
theorem dX2_init_83 : decode cX2_init 83 = .ok (.iload_n 1, 1) := by decide +kernel
theorem dX2_init_84 : decode cX2_init 84 = .ok (.aload_n 0, 1) := by decide +kernel
theorem dX2_init_85 : decode cX2_init 85 = .ok (.getfield 11, 3) := by decide +kernel
theorem dX2_init_88 : decode cX2_init 88 = .ok (.arraylength, 1) := by decide +kernel
theorem dX2_init_89 : decode cX2_init 89 = .ok (.if_icmp .ge 22, 3) := by decide +kernel
theorem dX2_init_92 : decode cX2_init 92 = .ok (.aload_n 0, 1) := by decide +kernel
theorem dX2_init_93 : decode cX2_init 93 = .ok (.getfield 11, 3) := by decide +kernel
theorem dX2_init_96 : decode cX2_init 96 = .ok (.iload_n 1, 1) := by decide +kernel
theorem dX2_init_97 : decode cX2_init 97 = .ok (.new 9, 3) := by decide +kernel
theorem dX2_init_100 : decode cX2_init 100 = .ok (.dup, 1) := by decide +kernel
theorem dX2_init_101 : decode cX2_init 101 = .ok (.invokespecial 60, 3) := by decide +kernel
theorem dX2_init_104 : decode cX2_init 104 = .ok (.aastore, 1) := by decide +kernel
theorem dX2_init_105 : decode cX2_init 105 = .ok (.iinc 1 1, 3) := by decide +kernel
theorem dX2_init_108 : decode cX2_init 108 = .ok (.goto (-25), 3) := by decide +kernel
theorem dX2_init_111 : decode cX2_init 111 = .ok (.return_, 1) := by decide +kernel
theorem dX2_clear_0 : decode cX2_clear 0 = .ok (.aload_n 0, 1) := by decide +kernel
theorem dX2_clear_1 : decode cX2_clear 1 = .ok (.iconst 0, 1) := by decide +kernel
theorem dX2_clear_2 : decode cX2_clear 2 = .ok (.putfield 61, 3) := by decide +kernel
theorem dX2_clear_5 : decode cX2_clear 5 = .ok (.aload_n 0, 1) := by decide +kernel
theorem dX2_clear_6 : decode cX2_clear 6 = .ok (.getfield 20, 3) := by decide +kernel
theorem dX2_clear_9 : decode cX2_clear 9 = .ok (.invokevirtual 64, 3) := by decide +kernel
theorem dX2_clear_12 : decode cX2_clear 12 = .ok (.aload_n 0, 1) := by decide +kernel
theorem dX2_clear_13 : decode cX2_clear 13 = .ok (.getfield 27, 3) := by decide +kernel
theorem dX2_clear_16 : decode cX2_clear 16 = .ok (.invokevirtual 67, 3) := by decide +kernel
theorem dX2_clear_19 : decode cX2_clear 19 = .ok (.aload_n 0, 1) := by decide +kernel
theorem dX2_clear_20 : decode cX2_clear 20 = .ok (.getfield 34, 3) := by decide +kernel
theorem dX2_clear_23 : decode cX2_clear 23 = .ok (.invokevirtual 68, 3) := by decide +kernel
theorem dX2_clear_26 : decode cX2_clear 26 = .ok (.aload_n 0, 1) := by decide +kernel
theorem dX2_clear_27 : decode cX2_clear 27 = .ok (.iconst 0, 1) := by decide +kernel
theorem dX2_clear_28 : decode cX2_clear 28 = .ok (.putfield 69, 3) := by decide +kernel
theorem dX2_clear_31 : decode cX2_clear 31 = .ok (.aload_n 0, 1) := by decide +kernel
theorem dX2_clear_32 : decode cX2_clear 32 = .ok (.iconst (-1), 1) := by decide +kernel
theorem dX2_clear_33 : decode cX2_clear 33 = .ok (.putfield 57, 3) := by decide +kernel
theorem dX2_clear_36 : decode cX2_clear 36 = .ok (.return_, 1) := by decide +kernel
theorem dX2_takeTimes_0 : decode cX2_takeTimes 0 = .ok (.aload_n 0, 1) := by decide +kernel
theorem dX2_takeTimes_1 : decode cX2_takeTimes 1 = .ok (.aload_n 1, 1) := by decide +kernel
theorem dX2_takeTimes_2 : decode cX2_takeTimes 2 = .ok (.getfield 47, 3) := by decide +kernel
theorem dX2_takeTimes_5 : decode cX2_takeTimes 5 = .ok (.putfield 47, 3) := by decide +kernel
theorem dX2_takeTimes_8 : decode cX2_takeTimes 8 = .ok (.aload_n 0, 1) := by decide +kernel
theorem dX2_takeTimes_9 : decode cX2_takeTimes 9 = .ok (.aload_n 1, 1) := by decide +kernel
theorem dX2_takeTimes_10 : decode cX2_takeTimes 10 = .ok (.getfield 51, 3) := by decide +kernel
theorem dX2_takeTimes_13 : decode cX2_takeTimes 13 = .ok (.putfield 51, 3) := by decide +kernel
theorem dX2_takeTimes_16 : decode cX2_takeTimes 16 = .ok (.aload_n 0, 1) := by decide +kernel
theorem dX2_takeTimes_17 : decode cX2_takeTimes 17 = .ok (.aload_n 1, 1) := by decide +kernel
theorem dX2_takeTimes_18 : decode cX2_takeTimes 18 = .ok (.getfield 54, 3) := by decide +kernel
theorem dX2_takeTimes_21 : decode cX2_takeTimes 21 = .ok (.putfield 54, 3) := by decide +kernel
theorem dX2_takeTimes_24 : decode cX2_takeTimes 24 = .ok (.return_, 1) := by decide +kernel
theorem dX2_copyFrom_0 : decode cX2_copyFrom 0 = .ok (.aload_n 0, 1) := by decide +kernel
theorem dX2_copyFrom_1 : decode cX2_copyFrom 1 = .ok (.aload_n 1, 1) := by decide +kernel
theorem dX2_copyFrom_2 : decode cX2_copyFrom 2 = .ok (.invokevirtual 72, 3) := by decide +kernel
theorem dX2_copyFrom_5 : decode cX2_copyFrom 5 = .ok (.aload_n 0, 1) := by decide +kernel
theorem dX2_copyFrom_6 : decode cX2_copyFrom 6 = .ok (.aload_n 1, 1) := by decide +kernel
theorem dX2_copyFrom_7 : decode cX2_copyFrom 7 = .ok (.getfield 69, 3) := by decide +kernel
theorem dX2_copyFrom_10 : decode cX2_copyFrom 10 = .ok (.putfield 69, 3) := by decide +kernel
theorem dX2_copyFrom_13 : decode cX2_copyFrom 13 = .ok (.aload_n 0, 1) := by decide +kernel
theorem dX2_copyFrom_14 : decode cX2_copyFrom 14 = .ok (.aload_n 1, 1) := by decide +kernel
theorem dX2_copyFrom_15 : decode cX2_copyFrom 15 = .ok (.getfield 57, 3) := by decide +kernel
theorem dX2_copyFrom_18 : decode cX2_copyFrom 18 = .ok (.putfield 57, 3) := by decide +kernel
theorem dX2_copyFrom_21 : decode cX2_copyFrom 21 = .ok (.aload_n 0, 1) := by decide +kernel
theorem dX2_copyFrom_22 : decode cX2_copyFrom 22 = .ok (.getfield 20, 3) := by decide +kernel
theorem dX2_copyFrom_25 : decode cX2_copyFrom 25 = .ok (.aload_n 1, 1) := by decide +kernel
theorem dX2_copyFrom_26 : decode cX2_copyFrom 26 = .ok (.getfield 20, 3) := by decide +kernel
theorem dX2_copyFrom_29 : decode cX2_copyFrom 29 = .ok (.invokevirtual 76, 3) := by decide +kernel
theorem dX2_copyFrom_32 : decode cX2_copyFrom 32 = .ok (.aload_n 0, 1) := by decide +kernel
theorem dX2_copyFrom_33 : decode cX2_copyFrom 33 = .ok (.getfield 27, 3) := by decide +kernel
theorem dX2_copyFrom_36 : decode cX2_copyFrom 36 = .ok (.aload_n 1, 1) := by decide +kernel
theorem dX2_copyFrom_37 : decode cX2_copyFrom 37 = .ok (.getfield 27, 3) := by decide +kernel
theorem dX2_copyFrom_40 : decode cX2_copyFrom 40 = .ok (.invokevirtual 80, 3) := by decide +kernel
theorem dX2_copyFrom_43 : decode cX2_copyFrom 43 = .ok (.aload_n 0, 1) := by decide +kernel
theorem dX2_copyFrom_44 : decode cX2_copyFrom 44 = .ok (.getfield 34, 3) := by decide +kernel
theorem dX2_copyFrom_47 : decode cX2_copyFrom 47 = .ok (.aload_n 1, 1) := by decide +kernel
theorem dX2_copyFrom_48 : decode cX2_copyFrom 48 = .ok (.getfield 34, 3) := by decide +kernel
theorem dX2_copyFrom_51 : decode cX2_copyFrom 51 = .ok (.invokevirtual 83, 3) := by decide +kernel
theorem dX2_copyFrom_54 : decode cX2_copyFrom 54 = .ok (.aload_n 0, 1) := by decide +kernel
theorem dX2_copyFrom_55 : decode cX2_copyFrom 55 = .ok (.getfield 43, 3) := by decide +kernel
theorem dX2_copyFrom_58 : decode cX2_copyFrom 58 = .ok (.aload_n 1, 1) := by decide +kernel
theorem dX2_copyFrom_59 : decode cX2_copyFrom 59 = .ok (.getfield 43, 3) := by decide +kernel
theorem dX2_copyFrom_62 : decode cX2_copyFrom 62 = .ok (.aload_n 1, 1) := by decide +kernel
theorem dX2_copyFrom_63 : decode cX2_copyFrom 63 = .ok (.invokevirtual 86, 3) := by decide +kernel
theorem dX2_copyFrom_66 : decode cX2_copyFrom 66 = .ok (.invokevirtual 90, 3) := by decide +kernel
theorem dX2_copyFrom_69 : decode cX2_copyFrom 69 = .ok (.aload_n 0, 1) := by decide +kernel
theorem dX2_copyFrom_70 : decode cX2_copyFrom 70 = .ok (.aload_n 1, 1) := by decide +kernel
theorem dX2_copyFrom_71 : decode cX2_copyFrom 71 = .ok (.invokevirtual 93, 3) := by decide +kernel
theorem dX2_copyFrom_74 : decode cX2_copyFrom 74 = .ok (.return_, 1) := by decide +kernel
theorem dX2_copyStations_0 : decode cX2_copyStations 0 = .ok (.aload_n 0, 1) := by decide +kernel
theorem dX2_copyStations_1 : decode cX2_copyStations 1 = .ok (.aload_n 1, 1) := by decide +kernel
theorem dX2_copyStations_2 : decode cX2_copyStations 2 = .ok (.getfield 61, 3) := by decide +kernel
theorem dX2_copyStations_5 : decode cX2_copyStations 5 = .ok (.putfield 61, 3) := by decide +kernel
theorem dX2_copyStations_8 : decode cX2_copyStations 8 = .ok (.iconst 0, 1) := by decide +kernel
theorem dX2_copyStations_9 : decode cX2_copyStations 9 = .ok (.istore_n 2, 1) := by decide +kernel
theorem dX2_copyStations_10 : decode cX2_copyStations 10 = .ok (.iload_n 2, 1) := by decide +kernel
theorem dX2_copyStations_11 : decode cX2_copyStations 11 = .ok (.aload_n 0, 1) := by decide +kernel
theorem dX2_copyStations_12 : decode cX2_copyStations 12 = .ok (.getfield 61, 3) := by decide +kernel
theorem dX2_copyStations_15 : decode cX2_copyStations 15 = .ok (.if_icmp .ge 37, 3) := by decide +kernel
theorem dX2_copyStations_18 : decode cX2_copyStations 18 = .ok (.aload_n 1, 1) := by decide +kernel
theorem dX2_copyStations_19 : decode cX2_copyStations 19 = .ok (.iload_n 2, 1) := by decide +kernel
theorem dX2_copyStations_20 : decode cX2_copyStations 20 = .ok (.invokevirtual 96, 3) := by decide +kernel
theorem dX2_copyStations_23 : decode cX2_copyStations 23 = .ok (.astore_n 3, 1) := by decide +kernel
theorem dX2_copyStations_24 : decode cX2_copyStations 24 = .ok (.aload_n 0, 1) := by decide +kernel
theorem dX2_copyStations_25 : decode cX2_copyStations 25 = .ok (.iload_n 2, 1) := by decide +kernel
theorem dX2_copyStations_26 : decode cX2_copyStations 26 = .ok (.invokevirtual 96, 3) := by decide +kernel
theorem dX2_copyStations_29 : decode cX2_copyStations 29 = .ok (.astore 4, 2) := by decide +kernel
theorem dX2_copyStations_31 : decode cX2_copyStations 31 = .ok (.aload_n 3, 1) := by decide +kernel
theorem dX2_copyStations_32 : decode cX2_copyStations 32 = .ok (.ifnull 14, 3) := by decide +kernel
theorem dX2_copyStations_35 : decode cX2_copyStations 35 = .ok (.aload 4, 2) := by decide +kernel
theorem dX2_copyStations_37 : decode cX2_copyStations 37 = .ok (.ifnull 9, 3) := by decide +kernel
theorem dX2_copyStations_40 : decode cX2_copyStations 40 = .ok (.aload 4, 2) := by decide +kernel
theorem dX2_copyStations_42 : decode cX2_copyStations 42 = .ok (.aload_n 3, 1) := by decide +kernel
theorem dX2_copyStations_43 : decode cX2_copyStations 43 = .ok (.invokevirtual 100, 3) := by decide +kernel
theorem dX2_copyStations_46 : decode cX2_copyStations 46 = .ok (.iinc 2 1, 3) := by decide +kernel
theorem dX2_copyStations_49 : decode cX2_copyStations 49 = .ok (.goto (-39), 3) := by decide +kernel
theorem dX2_copyStations_52 : decode cX2_copyStations 52 = .ok (.return_, 1) := by decide +kernel
theorem dX2_isFull_0 : decode cX2_isFull 0 = .ok (.aload_n 0, 1) := by decide +kernel
theorem dX2_isFull_1 : decode cX2_isFull 1 = .ok (.getfield 61, 3) := by decide +kernel
theorem dX2_isFull_4 : decode cX2_isFull 4 = .ok (.bipush 8, 2) := by decide +kernel
theorem dX2_isFull_6 : decode cX2_isFull 6 = .ok (.if_icmp .lt 7, 3) := by decide +kernel
theorem dX2_isFull_9 : decode cX2_isFull 9 = .ok (.iconst 1, 1) := by decide +kernel
theorem dX2_isFull_10 : decode cX2_isFull 10 = .ok (.goto 4, 3) := by decide +kernel
theorem dX2_isFull_13 : decode cX2_isFull 13 = .ok (.iconst 0, 1) := by decide +kernel
theorem dX2_isFull_14 : decode cX2_isFull 14 = .ok (.ireturn, 1) := by decide +kernel
theorem dX2_isTooLate_0 : decode cX2_isTooLate 0 = .ok (.aload_n 0, 1) := by decide +kernel
theorem dX2_isTooLate_1 : decode cX2_isTooLate 1 = .ok (.getfield 69, 3) := by decide +kernel
theorem dX2_isTooLate_4 : decode cX2_isTooLate 4 = .ok (.ldc 103, 2) := by decide +kernel
theorem dX2_isTooLate_6 : decode cX2_isTooLate 6 = .ok (.if_icmp .le 7, 3) := by decide +kernel
theorem dX2_isTooLate_9 : decode cX2_isTooLate 9 = .ok (.iconst 1, 1) := by decide +kernel
theorem dX2_isTooLate_10 : decode cX2_isTooLate 10 = .ok (.goto 4, 3) := by decide +kernel
theorem dX2_isTooLate_13 : decode cX2_isTooLate 13 = .ok (.iconst 0, 1) := by decide +kernel
theorem dX2_isTooLate_14 : decode cX2_isTooLate 14 = .ok (.ireturn, 1) := by decide +kernel
theorem dX2_stationIn_0 : decode cX2_stationIn 0 = .ok (.iload_n 1, 1) := by decide +kernel
theorem dX2_stationIn_1 : decode cX2_stationIn 1 = .ok (.ifCond .lt 29, 3) := by decide +kernel
theorem dX2_stationIn_4 : decode cX2_stationIn 4 = .ok (.iload_n 1, 1) := by decide +kernel
theorem dX2_stationIn_5 : decode cX2_stationIn 5 = .ok (.aload_n 0, 1) := by decide +kernel
theorem dX2_stationIn_6 : decode cX2_stationIn 6 = .ok (.getfield 61, 3) := by decide +kernel
theorem dX2_stationIn_9 : decode cX2_stationIn 9 = .ok (.if_icmp .ge 21, 3) := by decide +kernel
theorem dX2_stationIn_12 : decode cX2_stationIn 12 = .ok (.iload_n 1, 1) := by decide +kernel
theorem dX2_stationIn_13 : decode cX2_stationIn 13 = .ok (.aload_n 0, 1) := by decide +kernel
theorem dX2_stationIn_14 : decode cX2_stationIn 14 = .ok (.getfield 11, 3) := by decide +kernel
theorem dX2_stationIn_17 : decode cX2_stationIn 17 = .ok (.arraylength, 1) := by decide +kernel
theorem dX2_stationIn_18 : decode cX2_stationIn 18 = .ok (.if_icmp .ge 12, 3) := by decide +kernel
theorem dX2_stationIn_21 : decode cX2_stationIn 21 = .ok (.aload_n 0, 1) := by decide +kernel
theorem dX2_stationIn_22 : decode cX2_stationIn 22 = .ok (.getfield 11, 3) := by decide +kernel
theorem dX2_stationIn_25 : decode cX2_stationIn 25 = .ok (.iload_n 1, 1) := by decide +kernel
theorem dX2_stationIn_26 : decode cX2_stationIn 26 = .ok (.aaload, 1) := by decide +kernel
theorem dX2_stationIn_27 : decode cX2_stationIn 27 = .ok (.goto 4, 3) := by decide +kernel
theorem dX2_stationIn_30 : decode cX2_stationIn 30 = .ok (.aconst_null, 1) := by decide +kernel
theorem dX2_stationIn_31 : decode cX2_stationIn 31 = .ok (.areturn, 1) := by decide +kernel
theorem dX2_stationWith_0 : decode cX2_stationWith 0 = .ok (.iconst 0, 1) := by decide +kernel
theorem dX2_stationWith_1 : decode cX2_stationWith 1 = .ok (.istore_n 2, 1) := by decide +kernel
theorem dX2_stationWith_2 : decode cX2_stationWith 2 = .ok (.iload_n 2, 1) := by decide +kernel
theorem dX2_stationWith_3 : decode cX2_stationWith 3 = .ok (.aload_n 0, 1) := by decide +kernel
theorem dX2_stationWith_4 : decode cX2_stationWith 4 = .ok (.getfield 61, 3) := by decide +kernel
theorem dX2_stationWith_7 : decode cX2_stationWith 7 = .ok (.if_icmp .ge 39, 3) := by decide +kernel
theorem dX2_stationWith_10 : decode cX2_stationWith 10 = .ok (.iload_n 2, 1) := by decide +kernel
theorem dX2_stationWith_11 : decode cX2_stationWith 11 = .ok (.aload_n 0, 1) := by decide +kernel
theorem dX2_stationWith_12 : decode cX2_stationWith 12 = .ok (.getfield 11, 3) := by decide +kernel
theorem dX2_stationWith_15 : decode cX2_stationWith 15 = .ok (.arraylength, 1) := by decide +kernel
theorem dX2_stationWith_16 : decode cX2_stationWith 16 = .ok (.if_icmp .ge 30, 3) := by decide +kernel
theorem dX2_stationWith_19 : decode cX2_stationWith 19 = .ok (.aload_n 0, 1) := by decide +kernel
theorem dX2_stationWith_20 : decode cX2_stationWith 20 = .ok (.getfield 11, 3) := by decide +kernel
theorem dX2_stationWith_23 : decode cX2_stationWith 23 = .ok (.iload_n 2, 1) := by decide +kernel
theorem dX2_stationWith_24 : decode cX2_stationWith 24 = .ok (.aaload, 1) := by decide +kernel
theorem dX2_stationWith_25 : decode cX2_stationWith 25 = .ok (.astore_n 3, 1) := by decide +kernel
theorem dX2_stationWith_26 : decode cX2_stationWith 26 = .ok (.aload_n 3, 1) := by decide +kernel
theorem dX2_stationWith_27 : decode cX2_stationWith 27 = .ok (.ifnull 13, 3) := by decide +kernel
theorem dX2_stationWith_30 : decode cX2_stationWith 30 = .ok (.aload_n 3, 1) := by decide +kernel
theorem dX2_stationWith_31 : decode cX2_stationWith 31 = .ok (.getfield 104, 3) := by decide +kernel
theorem dX2_stationWith_34 : decode cX2_stationWith 34 = .ok (.iload_n 1, 1) := by decide +kernel
theorem dX2_stationWith_35 : decode cX2_stationWith 35 = .ok (.if_icmp .ne 5, 3) := by decide +kernel
theorem dX2_stationWith_38 : decode cX2_stationWith 38 = .ok (.aload_n 3, 1) := by decide +kernel
theorem dX2_stationWith_39 : decode cX2_stationWith 39 = .ok (.areturn, 1) := by decide +kernel
theorem dX2_stationWith_40 : decode cX2_stationWith 40 = .ok (.iinc 2 1, 3) := by decide +kernel
theorem dX2_stationWith_43 : decode cX2_stationWith 43 = .ok (.goto (-41), 3) := by decide +kernel
theorem dX2_stationWith_46 : decode cX2_stationWith 46 = .ok (.aconst_null, 1) := by decide +kernel
theorem dX2_stationWith_47 : decode cX2_stationWith 47 = .ok (.areturn, 1) := by decide +kernel
theorem dX2_placeStation_0 : decode cX2_placeStation 0 = .ok (.aload_n 0, 1) := by decide +kernel
theorem dX2_placeStation_1 : decode cX2_placeStation 1 = .ok (.getfield 61, 3) := by decide +kernel
theorem dX2_placeStation_4 : decode cX2_placeStation 4 = .ok (.istore_n 2, 1) := by decide +kernel
theorem dX2_placeStation_5 : decode cX2_placeStation 5 = .ok (.iload_n 2, 1) := by decide +kernel
theorem dX2_placeStation_6 : decode cX2_placeStation 6 = .ok (.ifCond .lt 12, 3) := by decide +kernel
theorem dX2_placeStation_9 : decode cX2_placeStation 9 = .ok (.iload_n 2, 1) := by decide +kernel
theorem dX2_placeStation_10 : decode cX2_placeStation 10 = .ok (.aload_n 0, 1) := by decide +kernel
theorem dX2_placeStation_11 : decode cX2_placeStation 11 = .ok (.getfield 11, 3) := by decide +kernel
theorem dX2_placeStation_14 : decode cX2_placeStation 14 = .ok (.arraylength, 1) := by decide +kernel
theorem dX2_placeStation_15 : decode cX2_placeStation 15 = .ok (.if_icmp .lt 5, 3) := by decide +kernel
theorem dX2_placeStation_18 : decode cX2_placeStation 18 = .ok (.aconst_null, 1) := by decide +kernel
theorem dX2_placeStation_19 : decode cX2_placeStation 19 = .ok (.areturn, 1) := by decide +kernel
theorem dX2_placeStation_20 : decode cX2_placeStation 20 = .ok (.aload_n 0, 1) := by decide +kernel
theorem dX2_placeStation_21 : decode cX2_placeStation 21 = .ok (.getfield 11, 3) := by decide +kernel
theorem dX2_placeStation_24 : decode cX2_placeStation 24 = .ok (.iload_n 2, 1) := by decide +kernel
theorem dX2_placeStation_25 : decode cX2_placeStation 25 = .ok (.aaload, 1) := by decide +kernel
theorem dX2_placeStation_26 : decode cX2_placeStation 26 = .ok (.astore_n 3, 1) := by decide +kernel
theorem dX2_placeStation_27 : decode cX2_placeStation 27 = .ok (.aload_n 3, 1) := by decide +kernel
theorem dX2_placeStation_28 : decode cX2_placeStation 28 = .ok (.ifnonnull 5, 3) := by decide +kernel
theorem dX2_placeStation_31 : decode cX2_placeStation 31 = .ok (.aconst_null, 1) := by decide +kernel
theorem dX2_placeStation_32 : decode cX2_placeStation 32 = .ok (.areturn, 1) := by decide +kernel
theorem dX2_placeStation_33 : decode cX2_placeStation 33 = .ok (.aload_n 3, 1) := by decide +kernel
theorem dX2_placeStation_34 : decode cX2_placeStation 34 = .ok (.iload_n 1, 1) := by decide +kernel
theorem dX2_placeStation_35 : decode cX2_placeStation 35 = .ok (.invokevirtual 107, 3) := by decide +kernel
theorem dX2_placeStation_38 : decode cX2_placeStation 38 = .ok (.iload_n 2, 1) := by decide +kernel
theorem dX2_placeStation_39 : decode cX2_placeStation 39 = .ok (.ifCond .le 62, 3) := by decide +kernel
theorem dX2_placeStation_42 : decode cX2_placeStation 42 = .ok (.iload_n 2, 1) := by decide +kernel
theorem dX2_placeStation_43 : decode cX2_placeStation 43 = .ok (.aload_n 0, 1) := by decide +kernel
theorem dX2_placeStation_44 : decode cX2_placeStation 44 = .ok (.getfield 11, 3) := by decide +kernel
theorem dX2_placeStation_47 : decode cX2_placeStation 47 = .ok (.arraylength, 1) := by decide +kernel
theorem dX2_placeStation_48 : decode cX2_placeStation 48 = .ok (.if_icmp .ge 53, 3) := by decide +kernel
theorem dX2_placeStation_51 : decode cX2_placeStation 51 = .ok (.aload_n 0, 1) := by decide +kernel
theorem dX2_placeStation_52 : decode cX2_placeStation 52 = .ok (.getfield 11, 3) := by decide +kernel
theorem dX2_placeStation_55 : decode cX2_placeStation 55 = .ok (.iload_n 2, 1) := by decide +kernel
theorem dX2_placeStation_56 : decode cX2_placeStation 56 = .ok (.iconst 1, 1) := by decide +kernel
theorem dX2_placeStation_57 : decode cX2_placeStation 57 = .ok (.isub, 1) := by decide +kernel
theorem dX2_placeStation_58 : decode cX2_placeStation 58 = .ok (.aaload, 1) := by decide +kernel
theorem dX2_placeStation_59 : decode cX2_placeStation 59 = .ok (.astore 4, 2) := by decide +kernel
theorem dX2_placeStation_61 : decode cX2_placeStation 61 = .ok (.aload 4, 2) := by decide +kernel
theorem dX2_placeStation_63 : decode cX2_placeStation 63 = .ok (.ifnull 38, 3) := by decide +kernel
theorem dX2_placeStation_66 : decode cX2_placeStation 66 = .ok (.aload 4, 2) := by decide +kernel
theorem dX2_placeStation_68 : decode cX2_placeStation 68 = .ok (.getfield 104, 3) := by decide +kernel
theorem dX2_placeStation_71 : decode cX2_placeStation 71 = .ok (.iload_n 1, 1) := by decide +kernel
theorem dX2_placeStation_72 : decode cX2_placeStation 72 = .ok (.if_icmp .ge 6, 3) := by decide +kernel
theorem dX2_placeStation_75 : decode cX2_placeStation 75 = .ok (.goto 26, 3) := by decide +kernel
theorem dX2_placeStation_78 : decode cX2_placeStation 78 = .ok (.aload_n 0, 1) := by decide +kernel
theorem dX2_placeStation_79 : decode cX2_placeStation 79 = .ok (.getfield 11, 3) := by decide +kernel
theorem dX2_placeStation_82 : decode cX2_placeStation 82 = .ok (.iload_n 2, 1) := by decide +kernel
theorem dX2_placeStation_83 : decode cX2_placeStation 83 = .ok (.aload 4, 2) := by decide +kernel
theorem dX2_placeStation_85 : decode cX2_placeStation 85 = .ok (.aastore, 1) := by decide +kernel
theorem dX2_placeStation_86 : decode cX2_placeStation 86 = .ok (.aload_n 0, 1) := by decide +kernel
theorem dX2_placeStation_87 : decode cX2_placeStation 87 = .ok (.getfield 11, 3) := by decide +kernel
theorem dX2_placeStation_90 : decode cX2_placeStation 90 = .ok (.iload_n 2, 1) := by decide +kernel
theorem dX2_placeStation_91 : decode cX2_placeStation 91 = .ok (.iconst 1, 1) := by decide +kernel
theorem dX2_placeStation_92 : decode cX2_placeStation 92 = .ok (.isub, 1) := by decide +kernel
theorem dX2_placeStation_93 : decode cX2_placeStation 93 = .ok (.aload_n 3, 1) := by decide +kernel
theorem dX2_placeStation_94 : decode cX2_placeStation 94 = .ok (.aastore, 1) := by decide +kernel
theorem dX2_placeStation_95 : decode cX2_placeStation 95 = .ok (.iinc 2 (-1), 3) := by decide +kernel
theorem dX2_placeStation_98 : decode cX2_placeStation 98 = .ok (.goto (-60), 3) := by decide +kernel
theorem dX2_placeStation_101 : decode cX2_placeStation 101 = .ok (.aload_n 0, 1) := by decide +kernel
theorem dX2_placeStation_102 : decode cX2_placeStation 102 = .ok (.dup, 1) := by decide +kernel
theorem dX2_placeStation_103 : decode cX2_placeStation 103 = .ok (.getfield 61, 3) := by decide +kernel
theorem dX2_placeStation_106 : decode cX2_placeStation 106 = .ok (.iconst 1, 1) := by decide +kernel
theorem dX2_placeStation_107 : decode cX2_placeStation 107 = .ok (.iadd, 1) := by decide +kernel
theorem dX2_placeStation_108 : decode cX2_placeStation 108 = .ok (.putfield 61, 3) := by decide +kernel
theorem dX2_placeStation_111 : decode cX2_placeStation 111 = .ok (.aload_n 3, 1) := by decide +kernel
theorem dX2_placeStation_112 : decode cX2_placeStation 112 = .ok (.areturn, 1) := by decide +kernel
theorem dX2_switchStation_0 : decode cX2_switchStation 0 = .ok (.aload_n 1, 1) := by decide +kernel
theorem dX2_switchStation_1 : decode cX2_switchStation 1 = .ok (.iload_n 2, 1) := by decide +kernel
theorem dX2_switchStation_2 : decode cX2_switchStation 2 = .ok (.putfield 111, 3) := by decide +kernel
theorem dX2_switchStation_5 : decode cX2_switchStation 5 = .ok (.iload_n 2, 1) := by decide +kernel
theorem dX2_switchStation_6 : decode cX2_switchStation 6 = .ok (.ifCond .eq 4, 3) := by decide +kernel
theorem dX2_switchStation_9 : decode cX2_switchStation 9 = .ok (.return_, 1) := by decide +kernel
theorem dX2_switchStation_10 : decode cX2_switchStation 10 = .ok (.aload_n 1, 1) := by decide +kernel
theorem dX2_switchStation_11 : decode cX2_switchStation 11 = .ok (.iconst 0, 1) := by decide +kernel
theorem dX2_switchStation_12 : decode cX2_switchStation 12 = .ok (.putfield 115, 3) := by decide +kernel
theorem dX2_switchStation_15 : decode cX2_switchStation 15 = .ok (.aload_n 0, 1) := by decide +kernel
theorem dX2_switchStation_16 : decode cX2_switchStation 16 = .ok (.getfield 57, 3) := by decide +kernel
theorem dX2_switchStation_19 : decode cX2_switchStation 19 = .ok (.aload_n 1, 1) := by decide +kernel
theorem dX2_switchStation_20 : decode cX2_switchStation 20 = .ok (.getfield 104, 3) := by decide +kernel
theorem dX2_switchStation_23 : decode cX2_switchStation 23 = .ok (.if_icmp .ne 8, 3) := by decide +kernel
theorem dX2_switchStation_26 : decode cX2_switchStation 26 = .ok (.aload_n 0, 1) := by decide +kernel
theorem dX2_switchStation_27 : decode cX2_switchStation 27 = .ok (.iconst (-1), 1) := by decide +kernel
theorem dX2_switchStation_28 : decode cX2_switchStation 28 = .ok (.putfield 57, 3) := by decide +kernel
theorem dX2_switchStation_31 : decode cX2_switchStation 31 = .ok (.return_, 1) := by decide +kernel
theorem dX2_ringSize_0 : decode cX2_ringSize 0 = .ok (.iconst 0, 1) := by decide +kernel
theorem dX2_ringSize_1 : decode cX2_ringSize 1 = .ok (.istore_n 1, 1) := by decide +kernel
theorem dX2_ringSize_2 : decode cX2_ringSize 2 = .ok (.iconst 0, 1) := by decide +kernel
theorem dX2_ringSize_3 : decode cX2_ringSize 3 = .ok (.istore_n 2, 1) := by decide +kernel
theorem dX2_ringSize_4 : decode cX2_ringSize 4 = .ok (.iload_n 2, 1) := by decide +kernel
theorem dX2_ringSize_5 : decode cX2_ringSize 5 = .ok (.aload_n 0, 1) := by decide +kernel
theorem dX2_ringSize_6 : decode cX2_ringSize 6 = .ok (.getfield 61, 3) := by decide +kernel
theorem dX2_ringSize_9 : decode cX2_ringSize 9 = .ok (.if_icmp .ge 29, 3) := by decide +kernel
theorem dX2_ringSize_12 : decode cX2_ringSize 12 = .ok (.aload_n 0, 1) := by decide +kernel
theorem dX2_ringSize_13 : decode cX2_ringSize 13 = .ok (.iload_n 2, 1) := by decide +kernel
theorem dX2_ringSize_14 : decode cX2_ringSize 14 = .ok (.invokevirtual 96, 3) := by decide +kernel
theorem dX2_ringSize_17 : decode cX2_ringSize 17 = .ok (.astore_n 3, 1) := by decide +kernel
theorem dX2_ringSize_18 : decode cX2_ringSize 18 = .ok (.aload_n 3, 1) := by decide +kernel
theorem dX2_ringSize_19 : decode cX2_ringSize 19 = .ok (.ifnull 13, 3) := by decide +kernel
theorem dX2_ringSize_22 : decode cX2_ringSize 22 = .ok (.aload_n 3, 1) := by decide +kernel
theorem dX2_ringSize_23 : decode cX2_ringSize 23 = .ok (.getfield 115, 3) := by decide +kernel
theorem dX2_ringSize_26 : decode cX2_ringSize 26 = .ok (.ifCond .eq 6, 3) := by decide +kernel
theorem dX2_ringSize_29 : decode cX2_ringSize 29 = .ok (.iinc 1 1, 3) := by decide +kernel
theorem dX2_ringSize_32 : decode cX2_ringSize 32 = .ok (.iinc 2 1, 3) := by decide +kernel
theorem dX2_ringSize_35 : decode cX2_ringSize 35 = .ok (.goto (-31), 3) := by decide +kernel
theorem dX2_ringSize_38 : decode cX2_ringSize 38 = .ok (.iload_n 1, 1) := by decide +kernel
theorem dX2_ringSize_39 : decode cX2_ringSize 39 = .ok (.ireturn, 1) := by decide +kernel
theorem dX2_isComplete_0 : decode cX2_isComplete 0 = .ok (.iconst 0, 1) := by decide +kernel
theorem dX2_isComplete_1 : decode cX2_isComplete 1 = .ok (.istore_n 1, 1) := by decide +kernel
theorem dX2_isComplete_2 : decode cX2_isComplete 2 = .ok (.iload_n 1, 1) := by decide +kernel
theorem dX2_isComplete_3 : decode cX2_isComplete 3 = .ok (.aload_n 0, 1) := by decide +kernel
theorem dX2_isComplete_4 : decode cX2_isComplete 4 = .ok (.getfield 61, 3) := by decide +kernel
theorem dX2_isComplete_7 : decode cX2_isComplete 7 = .ok (.if_icmp .ge 35, 3) := by decide +kernel
theorem dX2_isComplete_10 : decode cX2_isComplete 10 = .ok (.aload_n 0, 1) := by decide +kernel
theorem dX2_isComplete_11 : decode cX2_isComplete 11 = .ok (.iload_n 1, 1) := by decide +kernel
theorem dX2_isComplete_12 : decode cX2_isComplete 12 = .ok (.invokevirtual 96, 3) := by decide +kernel
theorem dX2_isComplete_15 : decode cX2_isComplete 15 = .ok (.astore_n 2, 1) := by decide +kernel
theorem dX2_isComplete_16 : decode cX2_isComplete 16 = .ok (.aload_n 2, 1) := by decide +kernel
theorem dX2_isComplete_17 : decode cX2_isComplete 17 = .ok (.ifnull 19, 3) := by decide +kernel
theorem dX2_isComplete_20 : decode cX2_isComplete 20 = .ok (.aload_n 2, 1) := by decide +kernel
theorem dX2_isComplete_21 : decode cX2_isComplete 21 = .ok (.getfield 111, 3) := by decide +kernel
theorem dX2_isComplete_24 : decode cX2_isComplete 24 = .ok (.ifCond .eq 12, 3) := by decide +kernel
theorem dX2_isComplete_27 : decode cX2_isComplete 27 = .ok (.aload_n 2, 1) := by decide +kernel
theorem dX2_isComplete_28 : decode cX2_isComplete 28 = .ok (.getfield 115, 3) := by decide +kernel
theorem dX2_isComplete_31 : decode cX2_isComplete 31 = .ok (.ifCond .ne 5, 3) := by decide +kernel
theorem dX2_isComplete_34 : decode cX2_isComplete 34 = .ok (.iconst 0, 1) := by decide +kernel
theorem dX2_isComplete_35 : decode cX2_isComplete 35 = .ok (.ireturn, 1) := by decide +kernel
theorem dX2_isComplete_36 : decode cX2_isComplete 36 = .ok (.iinc 1 1, 3) := by decide +kernel
theorem dX2_isComplete_39 : decode cX2_isComplete 39 = .ok (.goto (-37), 3) := by decide +kernel
theorem dX2_isComplete_42 : decode cX2_isComplete 42 = .ok (.iconst 1, 1) := by decide +kernel
theorem dX2_isComplete_43 : decode cX2_isComplete 43 = .ok (.ireturn, 1) := by decide +kernel
theorem dX2_isWaitedAt_0 : decode cX2_isWaitedAt 0 = .ok (.iconst 0, 1) := by decide +kernel
theorem dX2_isWaitedAt_1 : decode cX2_isWaitedAt 1 = .ok (.istore_n 1, 1) := by decide +kernel
theorem dX2_isWaitedAt_2 : decode cX2_isWaitedAt 2 = .ok (.iload_n 1, 1) := by decide +kernel
theorem dX2_isWaitedAt_3 : decode cX2_isWaitedAt 3 = .ok (.aload_n 0, 1) := by decide +kernel
theorem dX2_isWaitedAt_4 : decode cX2_isWaitedAt 4 = .ok (.getfield 61, 3) := by decide +kernel
theorem dX2_isWaitedAt_7 : decode cX2_isWaitedAt 7 = .ok (.if_icmp .ge 35, 3) := by decide +kernel
theorem dX2_isWaitedAt_10 : decode cX2_isWaitedAt 10 = .ok (.aload_n 0, 1) := by decide +kernel
theorem dX2_isWaitedAt_11 : decode cX2_isWaitedAt 11 = .ok (.iload_n 1, 1) := by decide +kernel
theorem dX2_isWaitedAt_12 : decode cX2_isWaitedAt 12 = .ok (.invokevirtual 96, 3) := by decide +kernel
theorem dX2_isWaitedAt_15 : decode cX2_isWaitedAt 15 = .ok (.astore_n 2, 1) := by decide +kernel
theorem dX2_isWaitedAt_16 : decode cX2_isWaitedAt 16 = .ok (.aload_n 2, 1) := by decide +kernel
theorem dX2_isWaitedAt_17 : decode cX2_isWaitedAt 17 = .ok (.ifnull 19, 3) := by decide +kernel
theorem dX2_isWaitedAt_20 : decode cX2_isWaitedAt 20 = .ok (.aload_n 2, 1) := by decide +kernel
theorem dX2_isWaitedAt_21 : decode cX2_isWaitedAt 21 = .ok (.getfield 111, 3) := by decide +kernel
theorem dX2_isWaitedAt_24 : decode cX2_isWaitedAt 24 = .ok (.ifCond .eq 12, 3) := by decide +kernel
theorem dX2_isWaitedAt_27 : decode cX2_isWaitedAt 27 = .ok (.aload_n 2, 1) := by decide +kernel
theorem dX2_isWaitedAt_28 : decode cX2_isWaitedAt 28 = .ok (.getfield 118, 3) := by decide +kernel
theorem dX2_isWaitedAt_31 : decode cX2_isWaitedAt 31 = .ok (.ifCond .le 5, 3) := by decide +kernel
theorem dX2_isWaitedAt_34 : decode cX2_isWaitedAt 34 = .ok (.iconst 1, 1) := by decide +kernel
theorem dX2_isWaitedAt_35 : decode cX2_isWaitedAt 35 = .ok (.ireturn, 1) := by decide +kernel
theorem dX2_isWaitedAt_36 : decode cX2_isWaitedAt 36 = .ok (.iinc 1 1, 3) := by decide +kernel
theorem dX2_isWaitedAt_39 : decode cX2_isWaitedAt 39 = .ok (.goto (-37), 3) := by decide +kernel
theorem dX2_isWaitedAt_42 : decode cX2_isWaitedAt 42 = .ok (.iconst 0, 1) := by decide +kernel
theorem dX2_isWaitedAt_43 : decode cX2_isWaitedAt 43 = .ok (.ireturn, 1) := by decide +kernel
theorem dX2_transmit_0 : decode cX2_transmit 0 = .ok (.aload_n 0, 1) := by decide +kernel
theorem dX2_transmit_1 : decode cX2_transmit 1 = .ok (.getfield 27, 3) := by decide +kernel
theorem dX2_transmit_4 : decode cX2_transmit 4 = .ok (.aload_n 0, 1) := by decide +kernel
theorem dX2_transmit_5 : decode cX2_transmit 5 = .ok (.getfield 69, 3) := by decide +kernel
theorem dX2_transmit_8 : decode cX2_transmit 8 = .ok (.aload_n 0, 1) := by decide +kernel
theorem dX2_transmit_9 : decode cX2_transmit 9 = .ok (.getfield 69, 3) := by decide +kernel
theorem dX2_transmit_12 : decode cX2_transmit 12 = .ok (.iload_n 1, 1) := by decide +kernel
theorem dX2_transmit_13 : decode cX2_transmit 13 = .ok (.iadd, 1) := by decide +kernel
theorem dX2_transmit_14 : decode cX2_transmit 14 = .ok (.iconst 1, 1) := by decide +kernel
theorem dX2_transmit_15 : decode cX2_transmit 15 = .ok (.isub, 1) := by decide +kernel
theorem dX2_transmit_16 : decode cX2_transmit 16 = .ok (.invokevirtual 121, 3) := by decide +kernel
theorem dX2_transmit_19 : decode cX2_transmit 19 = .ok (.istore_n 2, 1) := by decide +kernel
theorem dX2_transmit_20 : decode cX2_transmit 20 = .ok (.aload_n 0, 1) := by decide +kernel
theorem dX2_transmit_21 : decode cX2_transmit 21 = .ok (.dup, 1) := by decide +kernel
theorem dX2_transmit_22 : decode cX2_transmit 22 = .ok (.getfield 69, 3) := by decide +kernel
theorem dX2_transmit_25 : decode cX2_transmit 25 = .ok (.iload_n 1, 1) := by decide +kernel
theorem dX2_transmit_26 : decode cX2_transmit 26 = .ok (.iadd, 1) := by decide +kernel
theorem dX2_transmit_27 : decode cX2_transmit 27 = .ok (.putfield 69, 3) := by decide +kernel
theorem dX2_transmit_30 : decode cX2_transmit 30 = .ok (.iload_n 2, 1) := by decide +kernel
theorem dX2_transmit_31 : decode cX2_transmit 31 = .ok (.ifCond .eq 16, 3) := by decide +kernel
theorem dX2_transmit_34 : decode cX2_transmit 34 = .ok (.aload_n 0, 1) := by decide +kernel
theorem dX2_transmit_35 : decode cX2_transmit 35 = .ok (.getfield 34, 3) := by decide +kernel
theorem dX2_transmit_38 : decode cX2_transmit 38 = .ok (.dup, 1) := by decide +kernel
theorem dX2_transmit_39 : decode cX2_transmit 39 = .ok (.getfield 125, 3) := by decide +kernel
theorem dX2_transmit_42 : decode cX2_transmit 42 = .ok (.iconst 1, 1) := by decide +kernel
theorem dX2_transmit_43 : decode cX2_transmit 43 = .ok (.iadd, 1) := by decide +kernel
theorem dX2_transmit_44 : decode cX2_transmit 44 = .ok (.putfield 125, 3) := by decide +kernel
theorem dX2_transmit_47 : decode cX2_transmit 47 = .ok (.iload_n 2, 1) := by decide +kernel
theorem dX2_transmit_48 : decode cX2_transmit 48 = .ok (.ifCond .ne 7, 3) := by decide +kernel
theorem dX2_transmit_51 : decode cX2_transmit 51 = .ok (.iconst 1, 1) := by decide +kernel
theorem dX2_transmit_52 : decode cX2_transmit 52 = .ok (.goto 4, 3) := by decide +kernel
theorem dX2_transmit_55 : decode cX2_transmit 55 = .ok (.iconst 0, 1) := by decide +kernel
theorem dX2_transmit_56 : decode cX2_transmit 56 = .ok (.ireturn, 1) := by decide +kernel
theorem dX2_logVisit_0 : decode cX2_logVisit 0 = .ok (.aload_n 0, 1) := by decide +kernel
theorem dX2_logVisit_1 : decode cX2_logVisit 1 = .ok (.getfield 34, 3) := by decide +kernel
theorem dX2_logVisit_4 : decode cX2_logVisit 4 = .ok (.getfield 128, 3) := by decide +kernel
theorem dX2_logVisit_7 : decode cX2_logVisit 7 = .ok (.iconst 1, 1) := by decide +kernel
theorem dX2_logVisit_8 : decode cX2_logVisit 8 = .ok (.isub, 1) := by decide +kernel
theorem dX2_logVisit_9 : decode cX2_logVisit 9 = .ok (.bipush 40, 2) := by decide +kernel
theorem dX2_logVisit_11 : decode cX2_logVisit 11 = .ok (.irem, 1) := by decide +kernel
theorem dX2_logVisit_12 : decode cX2_logVisit 12 = .ok (.istore 5, 2) := by decide +kernel
theorem dX2_logVisit_14 : decode cX2_logVisit 14 = .ok (.aload_n 0, 1) := by decide +kernel
theorem dX2_logVisit_15 : decode cX2_logVisit 15 = .ok (.getfield 43, 3) := by decide +kernel
theorem dX2_logVisit_18 : decode cX2_logVisit 18 = .ok (.iload 5, 2) := by decide +kernel
theorem dX2_logVisit_20 : decode cX2_logVisit 20 = .ok (.iconst 0, 1) := by decide +kernel
theorem dX2_logVisit_21 : decode cX2_logVisit 21 = .ok (.iload_n 1, 1) := by decide +kernel
theorem dX2_logVisit_22 : decode cX2_logVisit 22 = .ok (.invokevirtual 131, 3) := by decide +kernel
theorem dX2_logVisit_25 : decode cX2_logVisit 25 = .ok (.aload_n 0, 1) := by decide +kernel
theorem dX2_logVisit_26 : decode cX2_logVisit 26 = .ok (.getfield 43, 3) := by decide +kernel
theorem dX2_logVisit_29 : decode cX2_logVisit 29 = .ok (.iload 5, 2) := by decide +kernel
theorem dX2_logVisit_31 : decode cX2_logVisit 31 = .ok (.iconst 1, 1) := by decide +kernel
theorem dX2_logVisit_32 : decode cX2_logVisit 32 = .ok (.iload_n 2, 1) := by decide +kernel
theorem dX2_logVisit_33 : decode cX2_logVisit 33 = .ok (.invokevirtual 131, 3) := by decide +kernel
theorem dX2_logVisit_36 : decode cX2_logVisit 36 = .ok (.aload_n 0, 1) := by decide +kernel
theorem dX2_logVisit_37 : decode cX2_logVisit 37 = .ok (.getfield 43, 3) := by decide +kernel
theorem dX2_logVisit_40 : decode cX2_logVisit 40 = .ok (.iload 5, 2) := by decide +kernel
theorem dX2_logVisit_42 : decode cX2_logVisit 42 = .ok (.iconst 2, 1) := by decide +kernel
theorem dX2_logVisit_43 : decode cX2_logVisit 43 = .ok (.iload_n 3, 1) := by decide +kernel
theorem dX2_logVisit_44 : decode cX2_logVisit 44 = .ok (.invokevirtual 131, 3) := by decide +kernel
theorem dX2_logVisit_47 : decode cX2_logVisit 47 = .ok (.aload_n 0, 1) := by decide +kernel
theorem dX2_logVisit_48 : decode cX2_logVisit 48 = .ok (.getfield 43, 3) := by decide +kernel
theorem dX2_logVisit_51 : decode cX2_logVisit 51 = .ok (.iload 5, 2) := by decide +kernel
theorem dX2_logVisit_53 : decode cX2_logVisit 53 = .ok (.iconst 3, 1) := by decide +kernel
theorem dX2_logVisit_54 : decode cX2_logVisit 54 = .ok (.iload 4, 2) := by decide +kernel
theorem dX2_logVisit_56 : decode cX2_logVisit 56 = .ok (.invokevirtual 131, 3) := by decide +kernel
theorem dX2_logVisit_59 : decode cX2_logVisit 59 = .ok (.return_, 1) := by decide +kernel
theorem dX2_logLength_0 : decode cX2_logLength 0 = .ok (.aload_n 0, 1) := by decide +kernel
theorem dX2_logLength_1 : decode cX2_logLength 1 = .ok (.getfield 34, 3) := by decide +kernel
theorem dX2_logLength_4 : decode cX2_logLength 4 = .ok (.getfield 128, 3) := by decide +kernel
theorem dX2_logLength_7 : decode cX2_logLength 7 = .ok (.bipush 40, 2) := by decide +kernel
theorem dX2_logLength_9 : decode cX2_logLength 9 = .ok (.invokestatic 135, 3) := by decide +kernel
theorem dX2_logLength_12 : decode cX2_logLength 12 = .ok (.ireturn, 1) := by decide +kernel
theorem dX2_logValue_0 : decode cX2_logValue 0 = .ok (.aload_n 0, 1) := by decide +kernel
theorem dX2_logValue_1 : decode cX2_logValue 1 = .ok (.getfield 34, 3) := by decide +kernel
theorem dX2_logValue_4 : decode cX2_logValue 4 = .ok (.getfield 128, 3) := by decide +kernel
theorem dX2_logValue_7 : decode cX2_logValue 7 = .ok (.aload_n 0, 1) := by decide +kernel
theorem dX2_logValue_8 : decode cX2_logValue 8 = .ok (.invokevirtual 86, 3) := by decide +kernel
theorem dX2_logValue_11 : decode cX2_logValue 11 = .ok (.isub, 1) := by decide +kernel
theorem dX2_logValue_12 : decode cX2_logValue 12 = .ok (.istore_n 3, 1) := by decide +kernel
theorem dX2_logValue_13 : decode cX2_logValue 13 = .ok (.aload_n 0, 1) := by decide +kernel
theorem dX2_logValue_14 : decode cX2_logValue 14 = .ok (.getfield 43, 3) := by decide +kernel
theorem dX2_logValue_17 : decode cX2_logValue 17 = .ok (.iload_n 3, 1) := by decide +kernel
theorem dX2_logValue_18 : decode cX2_logValue 18 = .ok (.iload_n 1, 1) := by decide +kernel
theorem dX2_logValue_19 : decode cX2_logValue 19 = .ok (.iadd, 1) := by decide +kernel
theorem dX2_logValue_20 : decode cX2_logValue 20 = .ok (.bipush 40, 2) := by decide +kernel
theorem dX2_logValue_22 : decode cX2_logValue 22 = .ok (.irem, 1) := by decide +kernel
theorem dX2_logValue_23 : decode cX2_logValue 23 = .ok (.iload_n 2, 1) := by decide +kernel
theorem dX2_logValue_24 : decode cX2_logValue 24 = .ok (.invokevirtual 141, 3) := by decide +kernel
theorem dX2_logValue_27 : decode cX2_logValue 27 = .ok (.ireturn, 1) := by decide +kernel
theorem dX2_settingValue_0 : decode cX2_settingValue 0 = .ok (.iload_n 1, 1) := by decide +kernel
theorem dX2_settingValue_1 : decode cX2_settingValue 1 = .ok (.tableswitch 90 0 7 #[47, 52, 57, 62, 67, 72, 80, 85], 47) := by decide +kernel
theorem dX2_settingValue_48 : decode cX2_settingValue 48 = .ok (.aload_n 0, 1) := by decide +kernel
theorem dX2_settingValue_49 : decode cX2_settingValue 49 = .ok (.getfield 47, 3) := by decide +kernel
theorem dX2_settingValue_52 : decode cX2_settingValue 52 = .ok (.ireturn, 1) := by decide +kernel
theorem dX2_settingValue_53 : decode cX2_settingValue 53 = .ok (.aload_n 0, 1) := by decide +kernel
theorem dX2_settingValue_54 : decode cX2_settingValue 54 = .ok (.getfield 51, 3) := by decide +kernel
theorem dX2_settingValue_57 : decode cX2_settingValue 57 = .ok (.ireturn, 1) := by decide +kernel
theorem dX2_settingValue_58 : decode cX2_settingValue 58 = .ok (.aload_n 0, 1) := by decide +kernel
theorem dX2_settingValue_59 : decode cX2_settingValue 59 = .ok (.getfield 54, 3) := by decide +kernel
theorem dX2_settingValue_62 : decode cX2_settingValue 62 = .ok (.ireturn, 1) := by decide +kernel
theorem dX2_settingValue_63 : decode cX2_settingValue 63 = .ok (.aload_n 0, 1) := by decide +kernel
theorem dX2_settingValue_64 : decode cX2_settingValue 64 = .ok (.getfield 61, 3) := by decide +kernel
theorem dX2_settingValue_67 : decode cX2_settingValue 67 = .ok (.ireturn, 1) := by decide +kernel
theorem dX2_settingValue_68 : decode cX2_settingValue 68 = .ok (.aload_n 0, 1) := by decide +kernel
theorem dX2_settingValue_69 : decode cX2_settingValue 69 = .ok (.invokevirtual 144, 3) := by decide +kernel
theorem dX2_settingValue_72 : decode cX2_settingValue 72 = .ok (.ireturn, 1) := by decide +kernel
theorem dX2_settingValue_73 : decode cX2_settingValue 73 = .ok (.aload_n 0, 1) := by decide +kernel
theorem dX2_settingValue_74 : decode cX2_settingValue 74 = .ok (.getfield 27, 3) := by decide +kernel
theorem dX2_settingValue_77 : decode cX2_settingValue 77 = .ok (.getfield 147, 3) := by decide +kernel
theorem dX2_settingValue_80 : decode cX2_settingValue 80 = .ok (.ireturn, 1) := by decide +kernel
theorem dX2_settingValue_81 : decode cX2_settingValue 81 = .ok (.aload_n 0, 1) := by decide +kernel
theorem dX2_settingValue_82 : decode cX2_settingValue 82 = .ok (.getfield 69, 3) := by decide +kernel
theorem dX2_settingValue_85 : decode cX2_settingValue 85 = .ok (.ireturn, 1) := by decide +kernel
theorem dX2_settingValue_86 : decode cX2_settingValue 86 = .ok (.aload_n 0, 1) := by decide +kernel
theorem dX2_settingValue_87 : decode cX2_settingValue 87 = .ok (.getfield 57, 3) := by decide +kernel
theorem dX2_settingValue_90 : decode cX2_settingValue 90 = .ok (.ireturn, 1) := by decide +kernel
theorem dX2_settingValue_91 : decode cX2_settingValue 91 = .ok (.aload_n 0, 1) := by decide +kernel
theorem dX2_settingValue_92 : decode cX2_settingValue 92 = .ok (.getfield 20, 3) := by decide +kernel
theorem dX2_settingValue_95 : decode cX2_settingValue 95 = .ok (.invokevirtual 150, 3) := by decide +kernel
theorem dX2_settingValue_98 : decode cX2_settingValue 98 = .ok (.ireturn, 1) := by decide +kernel
theorem dX2_hashed_0 : decode cX2_hashed 0 = .ok (.lload_n 1, 1) := by decide +kernel
theorem dX2_hashed_1 : decode cX2_hashed 1 = .ok (.lstore_n 3, 1) := by decide +kernel
theorem dX2_hashed_2 : decode cX2_hashed 2 = .ok (.iconst 0, 1) := by decide +kernel
theorem dX2_hashed_3 : decode cX2_hashed 3 = .ok (.istore 5, 2) := by decide +kernel
theorem dX2_hashed_5 : decode cX2_hashed 5 = .ok (.iload 5, 2) := by decide +kernel
theorem dX2_hashed_7 : decode cX2_hashed 7 = .ok (.bipush 8, 2) := by decide +kernel
theorem dX2_hashed_9 : decode cX2_hashed 9 = .ok (.if_icmp .gt 21, 3) := by decide +kernel
theorem dX2_hashed_12 : decode cX2_hashed 12 = .ok (.lload_n 3, 1) := by decide +kernel
theorem dX2_hashed_13 : decode cX2_hashed 13 = .ok (.aload_n 0, 1) := by decide +kernel
theorem dX2_hashed_14 : decode cX2_hashed 14 = .ok (.iload 5, 2) := by decide +kernel
theorem dX2_hashed_16 : decode cX2_hashed 16 = .ok (.invokevirtual 152, 3) := by decide +kernel
theorem dX2_hashed_19 : decode cX2_hashed 19 = .ok (.i2l, 1) := by decide +kernel
theorem dX2_hashed_20 : decode cX2_hashed 20 = .ok (.invokestatic 156, 3) := by decide +kernel
theorem dX2_hashed_23 : decode cX2_hashed 23 = .ok (.lstore_n 3, 1) := by decide +kernel
theorem dX2_hashed_24 : decode cX2_hashed 24 = .ok (.iinc 5 1, 3) := by decide +kernel
theorem dX2_hashed_27 : decode cX2_hashed 27 = .ok (.goto (-22), 3) := by decide +kernel
theorem dX2_hashed_30 : decode cX2_hashed 30 = .ok (.iconst 0, 1) := by decide +kernel
theorem dX2_hashed_31 : decode cX2_hashed 31 = .ok (.istore 5, 2) := by decide +kernel
theorem dX2_hashed_33 : decode cX2_hashed 33 = .ok (.iload 5, 2) := by decide +kernel
theorem dX2_hashed_35 : decode cX2_hashed 35 = .ok (.aload_n 0, 1) := by decide +kernel
theorem dX2_hashed_36 : decode cX2_hashed 36 = .ok (.getfield 61, 3) := by decide +kernel
theorem dX2_hashed_39 : decode cX2_hashed 39 = .ok (.if_icmp .ge 21, 3) := by decide +kernel
theorem dX2_hashed_42 : decode cX2_hashed 42 = .ok (.aload_n 0, 1) := by decide +kernel
theorem dX2_hashed_43 : decode cX2_hashed 43 = .ok (.lload_n 3, 1) := by decide +kernel
theorem dX2_hashed_44 : decode cX2_hashed 44 = .ok (.aload_n 0, 1) := by decide +kernel
theorem dX2_hashed_45 : decode cX2_hashed 45 = .ok (.iload 5, 2) := by decide +kernel
theorem dX2_hashed_47 : decode cX2_hashed 47 = .ok (.invokevirtual 96, 3) := by decide +kernel
theorem dX2_hashed_50 : decode cX2_hashed 50 = .ok (.invokevirtual 160, 3) := by decide +kernel
theorem dX2_hashed_53 : decode cX2_hashed 53 = .ok (.lstore_n 3, 1) := by decide +kernel
theorem dX2_hashed_54 : decode cX2_hashed 54 = .ok (.iinc 5 1, 3) := by decide +kernel
theorem dX2_hashed_57 : decode cX2_hashed 57 = .ok (.goto (-24), 3) := by decide +kernel
theorem dX2_hashed_60 : decode cX2_hashed 60 = .ok (.iconst 0, 1) := by decide +kernel
theorem dX2_hashed_61 : decode cX2_hashed 61 = .ok (.istore 5, 2) := by decide +kernel
theorem dX2_hashed_63 : decode cX2_hashed 63 = .ok (.iload 5, 2) := by decide +kernel
theorem dX2_hashed_65 : decode cX2_hashed 65 = .ok (.aload_n 0, 1) := by decide +kernel
theorem dX2_hashed_66 : decode cX2_hashed 66 = .ok (.getfield 20, 3) := by decide +kernel
theorem dX2_hashed_69 : decode cX2_hashed 69 = .ok (.invokevirtual 150, 3) := by decide +kernel
theorem dX2_hashed_72 : decode cX2_hashed 72 = .ok (.if_icmp .ge 41, 3) := by decide +kernel
theorem dX2_hashed_75 : decode cX2_hashed 75 = .ok (.iconst 0, 1) := by decide +kernel
theorem dX2_hashed_76 : decode cX2_hashed 76 = .ok (.istore 6, 2) := by decide +kernel
theorem dX2_hashed_78 : decode cX2_hashed 78 = .ok (.iload 6, 2) := by decide +kernel
theorem dX2_hashed_80 : decode cX2_hashed 80 = .ok (.iconst 4, 1) := by decide +kernel
theorem dX2_hashed_81 : decode cX2_hashed 81 = .ok (.if_icmp .gt 26, 3) := by decide +kernel
theorem dX2_hashed_84 : decode cX2_hashed 84 = .ok (.lload_n 3, 1) := by decide +kernel
theorem dX2_hashed_85 : decode cX2_hashed 85 = .ok (.aload_n 0, 1) := by decide +kernel
theorem dX2_hashed_86 : decode cX2_hashed 86 = .ok (.getfield 20, 3) := by decide +kernel
theorem dX2_hashed_89 : decode cX2_hashed 89 = .ok (.iload 5, 2) := by decide +kernel
theorem dX2_hashed_91 : decode cX2_hashed 91 = .ok (.iload 6, 2) := by decide +kernel
theorem dX2_hashed_93 : decode cX2_hashed 93 = .ok (.invokevirtual 164, 3) := by decide +kernel
theorem dX2_hashed_96 : decode cX2_hashed 96 = .ok (.i2l, 1) := by decide +kernel
theorem dX2_hashed_97 : decode cX2_hashed 97 = .ok (.invokestatic 156, 3) := by decide +kernel
theorem dX2_hashed_100 : decode cX2_hashed 100 = .ok (.lstore_n 3, 1) := by decide +kernel
theorem dX2_hashed_101 : decode cX2_hashed 101 = .ok (.iinc 6 1, 3) := by decide +kernel
theorem dX2_hashed_104 : decode cX2_hashed 104 = .ok (.goto (-26), 3) := by decide +kernel
theorem dX2_hashed_107 : decode cX2_hashed 107 = .ok (.iinc 5 1, 3) := by decide +kernel
theorem dX2_hashed_110 : decode cX2_hashed 110 = .ok (.goto (-47), 3) := by decide +kernel
theorem dX2_hashed_113 : decode cX2_hashed 113 = .ok (.iconst 0, 1) := by decide +kernel
theorem dX2_hashed_114 : decode cX2_hashed 114 = .ok (.istore 5, 2) := by decide +kernel
theorem dX2_hashed_116 : decode cX2_hashed 116 = .ok (.iload 5, 2) := by decide +kernel
theorem dX2_hashed_118 : decode cX2_hashed 118 = .ok (.bipush 6, 2) := by decide +kernel
theorem dX2_hashed_120 : decode cX2_hashed 120 = .ok (.if_icmp .gt 24, 3) := by decide +kernel
theorem dX2_hashed_123 : decode cX2_hashed 123 = .ok (.lload_n 3, 1) := by decide +kernel
theorem dX2_hashed_124 : decode cX2_hashed 124 = .ok (.aload_n 0, 1) := by decide +kernel
theorem dX2_hashed_125 : decode cX2_hashed 125 = .ok (.getfield 34, 3) := by decide +kernel
theorem dX2_hashed_128 : decode cX2_hashed 128 = .ok (.iload 5, 2) := by decide +kernel
theorem dX2_hashed_130 : decode cX2_hashed 130 = .ok (.invokevirtual 167, 3) := by decide +kernel
theorem dX2_hashed_133 : decode cX2_hashed 133 = .ok (.i2l, 1) := by decide +kernel
theorem dX2_hashed_134 : decode cX2_hashed 134 = .ok (.invokestatic 156, 3) := by decide +kernel
theorem dX2_hashed_137 : decode cX2_hashed 137 = .ok (.lstore_n 3, 1) := by decide +kernel
theorem dX2_hashed_138 : decode cX2_hashed 138 = .ok (.iinc 5 1, 3) := by decide +kernel
theorem dX2_hashed_141 : decode cX2_hashed 141 = .ok (.goto (-25), 3) := by decide +kernel
theorem dX2_hashed_144 : decode cX2_hashed 144 = .ok (.lload_n 3, 1) := by decide +kernel
theorem dX2_hashed_145 : decode cX2_hashed 145 = .ok (.aload_n 0, 1) := by decide +kernel
theorem dX2_hashed_146 : decode cX2_hashed 146 = .ok (.getfield 34, 3) := by decide +kernel
theorem dX2_hashed_149 : decode cX2_hashed 149 = .ok (.getfield 169, 3) := by decide +kernel
theorem dX2_hashed_152 : decode cX2_hashed 152 = .ok (.i2l, 1) := by decide +kernel
theorem dX2_hashed_153 : decode cX2_hashed 153 = .ok (.invokestatic 156, 3) := by decide +kernel
theorem dX2_hashed_156 : decode cX2_hashed 156 = .ok (.lstore_n 3, 1) := by decide +kernel
theorem dX2_hashed_157 : decode cX2_hashed 157 = .ok (.aload_n 0, 1) := by decide +kernel
theorem dX2_hashed_158 : decode cX2_hashed 158 = .ok (.lload_n 3, 1) := by decide +kernel
theorem dX2_hashed_159 : decode cX2_hashed 159 = .ok (.invokevirtual 172, 3) := by decide +kernel
theorem dX2_hashed_162 : decode cX2_hashed 162 = .ok (.lreturn, 1) := by decide +kernel
theorem dX2_withStation_0 : decode cX2_withStation 0 = .ok (.aload_n 3, 1) := by decide +kernel
theorem dX2_withStation_1 : decode cX2_withStation 1 = .ok (.ifnonnull 5, 3) := by decide +kernel
theorem dX2_withStation_4 : decode cX2_withStation 4 = .ok (.lload_n 1, 1) := by decide +kernel
theorem dX2_withStation_5 : decode cX2_withStation 5 = .ok (.lreturn, 1) := by decide +kernel
theorem dX2_withStation_6 : decode cX2_withStation 6 = .ok (.lload_n 1, 1) := by decide +kernel
theorem dX2_withStation_7 : decode cX2_withStation 7 = .ok (.aload_n 3, 1) := by decide +kernel
theorem dX2_withStation_8 : decode cX2_withStation 8 = .ok (.getfield 104, 3) := by decide +kernel
theorem dX2_withStation_11 : decode cX2_withStation 11 = .ok (.i2l, 1) := by decide +kernel
theorem dX2_withStation_12 : decode cX2_withStation 12 = .ok (.invokestatic 156, 3) := by decide +kernel
theorem dX2_withStation_15 : decode cX2_withStation 15 = .ok (.lstore 4, 2) := by decide +kernel
theorem dX2_withStation_17 : decode cX2_withStation 17 = .ok (.iconst 0, 1) := by decide +kernel
theorem dX2_withStation_18 : decode cX2_withStation 18 = .ok (.istore 6, 2) := by decide +kernel
theorem dX2_withStation_20 : decode cX2_withStation 20 = .ok (.iload 6, 2) := by decide +kernel
theorem dX2_withStation_22 : decode cX2_withStation 22 = .ok (.bipush 6, 2) := by decide +kernel
theorem dX2_withStation_24 : decode cX2_withStation 24 = .ok (.if_icmp .gt 23, 3) := by decide +kernel
theorem dX2_withStation_27 : decode cX2_withStation 27 = .ok (.lload 4, 2) := by decide +kernel
theorem dX2_withStation_29 : decode cX2_withStation 29 = .ok (.aload_n 3, 1) := by decide +kernel
theorem dX2_withStation_30 : decode cX2_withStation 30 = .ok (.iload 6, 2) := by decide +kernel
theorem dX2_withStation_32 : decode cX2_withStation 32 = .ok (.invokevirtual 176, 3) := by decide +kernel
theorem dX2_withStation_35 : decode cX2_withStation 35 = .ok (.i2l, 1) := by decide +kernel
theorem dX2_withStation_36 : decode cX2_withStation 36 = .ok (.invokestatic 156, 3) := by decide +kernel
theorem dX2_withStation_39 : decode cX2_withStation 39 = .ok (.lstore 4, 2) := by decide +kernel
theorem dX2_withStation_41 : decode cX2_withStation 41 = .ok (.iinc 6 1, 3) := by decide +kernel
theorem dX2_withStation_44 : decode cX2_withStation 44 = .ok (.goto (-24), 3) := by decide +kernel
theorem dX2_withStation_47 : decode cX2_withStation 47 = .ok (.aload_n 3, 1) := by decide +kernel
theorem dX2_withStation_48 : decode cX2_withStation 48 = .ok (.getfield 177, 3) := by decide +kernel
theorem dX2_withStation_51 : decode cX2_withStation 51 = .ok (.istore 6, 2) := by decide +kernel
theorem dX2_withStation_53 : decode cX2_withStation 53 = .ok (.iconst 0, 1) := by decide +kernel
theorem dX2_withStation_54 : decode cX2_withStation 54 = .ok (.istore 7, 2) := by decide +kernel
theorem dX2_withStation_56 : decode cX2_withStation 56 = .ok (.iload 7, 2) := by decide +kernel
theorem dX2_withStation_58 : decode cX2_withStation 58 = .ok (.aload_n 3, 1) := by decide +kernel
theorem dX2_withStation_59 : decode cX2_withStation 59 = .ok (.getfield 118, 3) := by decide +kernel
theorem dX2_withStation_62 : decode cX2_withStation 62 = .ok (.if_icmp .ge 30, 3) := by decide +kernel
theorem dX2_withStation_65 : decode cX2_withStation 65 = .ok (.lload 4, 2) := by decide +kernel
theorem dX2_withStation_67 : decode cX2_withStation 67 = .ok (.iload 6, 2) := by decide +kernel
theorem dX2_withStation_69 : decode cX2_withStation 69 = .ok (.i2l, 1) := by decide +kernel
theorem dX2_withStation_70 : decode cX2_withStation 70 = .ok (.invokestatic 156, 3) := by decide +kernel
theorem dX2_withStation_73 : decode cX2_withStation 73 = .ok (.lstore 4, 2) := by decide +kernel
theorem dX2_withStation_75 : decode cX2_withStation 75 = .ok (.aload_n 0, 1) := by decide +kernel
theorem dX2_withStation_76 : decode cX2_withStation 76 = .ok (.getfield 20, 3) := by decide +kernel
theorem dX2_withStation_79 : decode cX2_withStation 79 = .ok (.iload 6, 2) := by decide +kernel
theorem dX2_withStation_81 : decode cX2_withStation 81 = .ok (.invokevirtual 180, 3) := by decide +kernel
theorem dX2_withStation_84 : decode cX2_withStation 84 = .ok (.istore 6, 2) := by decide +kernel
theorem dX2_withStation_86 : decode cX2_withStation 86 = .ok (.iinc 7 1, 3) := by decide +kernel
theorem dX2_withStation_89 : decode cX2_withStation 89 = .ok (.goto (-33), 3) := by decide +kernel
theorem dX2_withStation_92 : decode cX2_withStation 92 = .ok (.lload 4, 2) := by decide +kernel
theorem dX2_withStation_94 : decode cX2_withStation 94 = .ok (.lreturn, 1) := by decide +kernel
theorem dX2_withLog_0 : decode cX2_withLog 0 = .ok (.aload_n 0, 1) := by decide +kernel
theorem dX2_withLog_1 : decode cX2_withLog 1 = .ok (.invokevirtual 86, 3) := by decide +kernel
theorem dX2_withLog_4 : decode cX2_withLog 4 = .ok (.istore_n 3, 1) := by decide +kernel
theorem dX2_withLog_5 : decode cX2_withLog 5 = .ok (.lload_n 1, 1) := by decide +kernel
theorem dX2_withLog_6 : decode cX2_withLog 6 = .ok (.iload_n 3, 1) := by decide +kernel
theorem dX2_withLog_7 : decode cX2_withLog 7 = .ok (.i2l, 1) := by decide +kernel
theorem dX2_withLog_8 : decode cX2_withLog 8 = .ok (.invokestatic 156, 3) := by decide +kernel
theorem dX2_withLog_11 : decode cX2_withLog 11 = .ok (.lstore 4, 2) := by decide +kernel
theorem dX2_withLog_13 : decode cX2_withLog 13 = .ok (.iconst 0, 1) := by decide +kernel
theorem dX2_withLog_14 : decode cX2_withLog 14 = .ok (.istore 6, 2) := by decide +kernel
theorem dX2_withLog_16 : decode cX2_withLog 16 = .ok (.iload 6, 2) := by decide +kernel
theorem dX2_withLog_18 : decode cX2_withLog 18 = .ok (.iload_n 3, 1) := by decide +kernel
theorem dX2_withLog_19 : decode cX2_withLog 19 = .ok (.if_icmp .ge 40, 3) := by decide +kernel
theorem dX2_withLog_22 : decode cX2_withLog 22 = .ok (.iconst 0, 1) := by decide +kernel
theorem dX2_withLog_23 : decode cX2_withLog 23 = .ok (.istore 7, 2) := by decide +kernel
theorem dX2_withLog_25 : decode cX2_withLog 25 = .ok (.iload 7, 2) := by decide +kernel
theorem dX2_withLog_27 : decode cX2_withLog 27 = .ok (.iconst 4, 1) := by decide +kernel
theorem dX2_withLog_28 : decode cX2_withLog 28 = .ok (.if_icmp .ge 25, 3) := by decide +kernel
theorem dX2_withLog_31 : decode cX2_withLog 31 = .ok (.lload 4, 2) := by decide +kernel
theorem dX2_withLog_33 : decode cX2_withLog 33 = .ok (.aload_n 0, 1) := by decide +kernel
theorem dX2_withLog_34 : decode cX2_withLog 34 = .ok (.iload 6, 2) := by decide +kernel
theorem dX2_withLog_36 : decode cX2_withLog 36 = .ok (.iload 7, 2) := by decide +kernel
theorem dX2_withLog_38 : decode cX2_withLog 38 = .ok (.invokevirtual 183, 3) := by decide +kernel
theorem dX2_withLog_41 : decode cX2_withLog 41 = .ok (.i2l, 1) := by decide +kernel
theorem dX2_withLog_42 : decode cX2_withLog 42 = .ok (.invokestatic 156, 3) := by decide +kernel
theorem dX2_withLog_45 : decode cX2_withLog 45 = .ok (.lstore 4, 2) := by decide +kernel
theorem dX2_withLog_47 : decode cX2_withLog 47 = .ok (.iinc 7 1, 3) := by decide +kernel
theorem dX2_withLog_50 : decode cX2_withLog 50 = .ok (.goto (-25), 3) := by decide +kernel
theorem dX2_withLog_53 : decode cX2_withLog 53 = .ok (.iinc 6 1, 3) := by decide +kernel
theorem dX2_withLog_56 : decode cX2_withLog 56 = .ok (.goto (-40), 3) := by decide +kernel
theorem dX2_withLog_59 : decode cX2_withLog 59 = .ok (.lload 4, 2) := by decide +kernel
theorem dX2_withLog_61 : decode cX2_withLog 61 = .ok (.lreturn, 1) := by decide +kernel
theorem dX3_init_0 : decode cX3_init 0 = .ok (.aload_n 0, 1) := by decide +kernel
theorem dX3_init_1 : decode cX3_init 1 = .ok (.invokespecial 3, 3) := by decide +kernel
theorem dX3_init_4 : decode cX3_init 4 = .ok (.aload_n 0, 1) := by decide +kernel
theorem dX3_init_5 : decode cX3_init 5 = .ok (.new 9, 3) := by decide +kernel
theorem dX3_init_8 : decode cX3_init 8 = .ok (.dup, 1) := by decide +kernel
theorem dX3_init_9 : decode cX3_init 9 = .ok (.bipush 100, 2) := by decide +kernel
theorem dX3_init_11 : decode cX3_init 11 = .ok (.bipush 6, 2) := by decide +kernel
theorem dX3_init_13 : decode cX3_init 13 = .ok (.invokespecial 13, 3) := by decide +kernel
theorem dX3_init_16 : decode cX3_init 16 = .ok (.putfield 16, 3) := by decide +kernel
theorem dX3_init_19 : decode cX3_init 19 = .ok (.return_, 1) := by decide +kernel
theorem dX3_number_0 : decode cX3_number 0 = .ok (.aload_n 0, 1) := by decide +kernel
theorem dX3_number_1 : decode cX3_number 1 = .ok (.getfield 20, 3) := by decide +kernel
theorem dX3_number_4 : decode cX3_number 4 = .ok (.ireturn, 1) := by decide +kernel
theorem dX3_isFull_0 : decode cX3_isFull 0 = .ok (.aload_n 0, 1) := by decide +kernel
theorem dX3_isFull_1 : decode cX3_isFull 1 = .ok (.getfield 20, 3) := by decide +kernel
theorem dX3_isFull_4 : decode cX3_isFull 4 = .ok (.bipush 100, 2) := by decide +kernel
theorem dX3_isFull_6 : decode cX3_isFull 6 = .ok (.if_icmp .lt 7, 3) := by decide +kernel
theorem dX3_isFull_9 : decode cX3_isFull 9 = .ok (.iconst 1, 1) := by decide +kernel
theorem dX3_isFull_10 : decode cX3_isFull 10 = .ok (.goto 4, 3) := by decide +kernel
theorem dX3_isFull_13 : decode cX3_isFull 13 = .ok (.iconst 0, 1) := by decide +kernel
theorem dX3_isFull_14 : decode cX3_isFull 14 = .ok (.ireturn, 1) := by decide +kernel
theorem dX3_has_0 : decode cX3_has 0 = .ok (.iload_n 1, 1) := by decide +kernel
theorem dX3_has_1 : decode cX3_has 1 = .ok (.ifCond .lt 15, 3) := by decide +kernel
theorem dX3_has_4 : decode cX3_has 4 = .ok (.iload_n 1, 1) := by decide +kernel
theorem dX3_has_5 : decode cX3_has 5 = .ok (.aload_n 0, 1) := by decide +kernel
theorem dX3_has_6 : decode cX3_has 6 = .ok (.getfield 20, 3) := by decide +kernel
theorem dX3_has_9 : decode cX3_has 9 = .ok (.if_icmp .ge 7, 3) := by decide +kernel
theorem dX3_has_12 : decode cX3_has 12 = .ok (.iconst 1, 1) := by decide +kernel
theorem dX3_has_13 : decode cX3_has 13 = .ok (.goto 4, 3) := by decide +kernel
theorem dX3_has_16 : decode cX3_has 16 = .ok (.iconst 0, 1) := by decide +kernel
theorem dX3_has_17 : decode cX3_has 17 = .ok (.ireturn, 1) := by decide +kernel
theorem dX3_value_0 : decode cX3_value 0 = .ok (.aload_n 0, 1) := by decide +kernel
theorem dX3_value_1 : decode cX3_value 1 = .ok (.getfield 16, 3) := by decide +kernel
theorem dX3_value_4 : decode cX3_value 4 = .ok (.iload_n 1, 1) := by decide +kernel
theorem dX3_value_5 : decode cX3_value 5 = .ok (.iload_n 2, 1) := by decide +kernel
theorem dX3_value_6 : decode cX3_value 6 = .ok (.invokevirtual 24, 3) := by decide +kernel
theorem dX3_value_9 : decode cX3_value 9 = .ok (.ireturn, 1) := by decide +kernel
theorem dX3_follower_0 : decode cX3_follower 0 = .ok (.aload_n 0, 1) := by decide +kernel
theorem dX3_follower_1 : decode cX3_follower 1 = .ok (.getfield 16, 3) := by decide +kernel
theorem dX3_follower_4 : decode cX3_follower 4 = .ok (.iload_n 1, 1) := by decide +kernel
theorem dX3_follower_5 : decode cX3_follower 5 = .ok (.iconst 5, 1) := by decide +kernel
theorem dX3_follower_6 : decode cX3_follower 6 = .ok (.invokevirtual 24, 3) := by decide +kernel
theorem dX3_follower_9 : decode cX3_follower 9 = .ok (.ireturn, 1) := by decide +kernel
theorem dX3_isUrgent_0 : decode cX3_isUrgent 0 = .ok (.aload_n 0, 1) := by decide +kernel
theorem dX3_isUrgent_1 : decode cX3_isUrgent 1 = .ok (.iload_n 1, 1) := by decide +kernel
theorem dX3_isUrgent_2 : decode cX3_isUrgent 2 = .ok (.invokevirtual 28, 3) := by decide +kernel
theorem dX3_isUrgent_5 : decode cX3_isUrgent 5 = .ok (.ifCond .eq 20, 3) := by decide +kernel
theorem dX3_isUrgent_8 : decode cX3_isUrgent 8 = .ok (.aload_n 0, 1) := by decide +kernel
theorem dX3_isUrgent_9 : decode cX3_isUrgent 9 = .ok (.getfield 16, 3) := by decide +kernel
theorem dX3_isUrgent_12 : decode cX3_isUrgent 12 = .ok (.iload_n 1, 1) := by decide +kernel
theorem dX3_isUrgent_13 : decode cX3_isUrgent 13 = .ok (.iconst 1, 1) := by decide +kernel
theorem dX3_isUrgent_14 : decode cX3_isUrgent 14 = .ok (.invokevirtual 24, 3) := by decide +kernel
theorem dX3_isUrgent_17 : decode cX3_isUrgent 17 = .ok (.iconst 5, 1) := by decide +kernel
theorem dX3_isUrgent_18 : decode cX3_isUrgent 18 = .ok (.if_icmp .lt 7, 3) := by decide +kernel
theorem dX3_isUrgent_21 : decode cX3_isUrgent 21 = .ok (.iconst 1, 1) := by decide +kernel
theorem dX3_isUrgent_22 : decode cX3_isUrgent 22 = .ok (.goto 4, 3) := by decide +kernel
theorem dX3_isUrgent_25 : decode cX3_isUrgent 25 = .ok (.iconst 0, 1) := by decide +kernel
theorem dX3_isUrgent_26 : decode cX3_isUrgent 26 = .ok (.ireturn, 1) := by decide +kernel
theorem dX3_clear_0 : decode cX3_clear 0 = .ok (.aload_n 0, 1) := by decide +kernel
theorem dX3_clear_1 : decode cX3_clear 1 = .ok (.iconst 0, 1) := by decide +kernel
theorem dX3_clear_2 : decode cX3_clear 2 = .ok (.putfield 20, 3) := by decide +kernel
theorem dX3_clear_5 : decode cX3_clear 5 = .ok (.return_, 1) := by decide +kernel
theorem dX3_copyFrom_0 : decode cX3_copyFrom 0 = .ok (.aload_n 0, 1) := by decide +kernel
theorem dX3_copyFrom_1 : decode cX3_copyFrom 1 = .ok (.aload_n 1, 1) := by decide +kernel
theorem dX3_copyFrom_2 : decode cX3_copyFrom 2 = .ok (.getfield 20, 3) := by decide +kernel
theorem dX3_copyFrom_5 : decode cX3_copyFrom 5 = .ok (.putfield 20, 3) := by decide +kernel
theorem dX3_copyFrom_8 : decode cX3_copyFrom 8 = .ok (.aload_n 0, 1) := by decide +kernel
theorem dX3_copyFrom_9 : decode cX3_copyFrom 9 = .ok (.getfield 16, 3) := by decide +kernel
theorem dX3_copyFrom_12 : decode cX3_copyFrom 12 = .ok (.aload_n 1, 1) := by decide +kernel
theorem dX3_copyFrom_13 : decode cX3_copyFrom 13 = .ok (.getfield 16, 3) := by decide +kernel
theorem dX3_copyFrom_16 : decode cX3_copyFrom 16 = .ok (.aload_n 1, 1) := by decide +kernel
theorem dX3_copyFrom_17 : decode cX3_copyFrom 17 = .ok (.getfield 20, 3) := by decide +kernel
theorem dX3_copyFrom_20 : decode cX3_copyFrom 20 = .ok (.invokevirtual 32, 3) := by decide +kernel
theorem dX3_copyFrom_23 : decode cX3_copyFrom 23 = .ok (.return_, 1) := by decide +kernel
theorem dX3_add_0 : decode cX3_add 0 = .ok (.aload_n 0, 1) := by decide +kernel
theorem dX3_add_1 : decode cX3_add 1 = .ok (.getfield 20, 3) := by decide +kernel
theorem dX3_add_4 : decode cX3_add 4 = .ok (.istore 5, 2) := by decide +kernel
theorem dX3_add_6 : decode cX3_add 6 = .ok (.aload_n 0, 1) := by decide +kernel
theorem dX3_add_7 : decode cX3_add 7 = .ok (.dup, 1) := by decide +kernel
theorem dX3_add_8 : decode cX3_add 8 = .ok (.getfield 20, 3) := by decide +kernel
theorem dX3_add_11 : decode cX3_add 11 = .ok (.iconst 1, 1) := by decide +kernel
theorem dX3_add_12 : decode cX3_add 12 = .ok (.iadd, 1) := by decide +kernel
theorem dX3_add_13 : decode cX3_add 13 = .ok (.putfield 20, 3) := by decide +kernel
theorem dX3_add_16 : decode cX3_add 16 = .ok (.aload_n 0, 1) := by decide +kernel
theorem dX3_add_17 : decode cX3_add 17 = .ok (.getfield 16, 3) := by decide +kernel
theorem dX3_add_20 : decode cX3_add 20 = .ok (.iload 5, 2) := by decide +kernel
theorem dX3_add_22 : decode cX3_add 22 = .ok (.iconst 0, 1) := by decide +kernel
theorem dX3_add_23 : decode cX3_add 23 = .ok (.iload_n 2, 1) := by decide +kernel
theorem dX3_add_24 : decode cX3_add 24 = .ok (.invokevirtual 36, 3) := by decide +kernel
theorem dX3_add_27 : decode cX3_add 27 = .ok (.aload_n 0, 1) := by decide +kernel
theorem dX3_add_28 : decode cX3_add 28 = .ok (.getfield 16, 3) := by decide +kernel
theorem dX3_add_31 : decode cX3_add 31 = .ok (.iload 5, 2) := by decide +kernel
theorem dX3_add_33 : decode cX3_add 33 = .ok (.iconst 1, 1) := by decide +kernel
theorem dX3_add_34 : decode cX3_add 34 = .ok (.iload_n 3, 1) := by decide +kernel
theorem dX3_add_35 : decode cX3_add 35 = .ok (.invokevirtual 36, 3) := by decide +kernel
theorem dX3_add_38 : decode cX3_add 38 = .ok (.aload_n 0, 1) := by decide +kernel
theorem dX3_add_39 : decode cX3_add 39 = .ok (.getfield 16, 3) := by decide +kernel
theorem dX3_add_42 : decode cX3_add 42 = .ok (.iload 5, 2) := by decide +kernel
theorem dX3_add_44 : decode cX3_add 44 = .ok (.iconst 2, 1) := by decide +kernel
theorem dX3_add_45 : decode cX3_add 45 = .ok (.aload_n 1, 1) := by decide +kernel
theorem dX3_add_46 : decode cX3_add 46 = .ok (.getfield 40, 3) := by decide +kernel
theorem dX3_add_49 : decode cX3_add 49 = .ok (.invokevirtual 36, 3) := by decide +kernel
theorem dX3_add_52 : decode cX3_add 52 = .ok (.aload_n 0, 1) := by decide +kernel
theorem dX3_add_53 : decode cX3_add 53 = .ok (.getfield 16, 3) := by decide +kernel
theorem dX3_add_56 : decode cX3_add 56 = .ok (.iload 5, 2) := by decide +kernel
theorem dX3_add_58 : decode cX3_add 58 = .ok (.iconst 3, 1) := by decide +kernel
theorem dX3_add_59 : decode cX3_add 59 = .ok (.iload 4, 2) := by decide +kernel
theorem dX3_add_61 : decode cX3_add 61 = .ok (.invokevirtual 36, 3) := by decide +kernel
theorem dX3_add_64 : decode cX3_add 64 = .ok (.aload_n 0, 1) := by decide +kernel
theorem dX3_add_65 : decode cX3_add 65 = .ok (.getfield 16, 3) := by decide +kernel
theorem dX3_add_68 : decode cX3_add 68 = .ok (.iload 5, 2) := by decide +kernel
theorem dX3_add_70 : decode cX3_add 70 = .ok (.iconst 4, 1) := by decide +kernel
theorem dX3_add_71 : decode cX3_add 71 = .ok (.iconst (-1), 1) := by decide +kernel
theorem dX3_add_72 : decode cX3_add 72 = .ok (.invokevirtual 36, 3) := by decide +kernel
theorem dX3_add_75 : decode cX3_add 75 = .ok (.aload_n 0, 1) := by decide +kernel
theorem dX3_add_76 : decode cX3_add 76 = .ok (.aload_n 1, 1) := by decide +kernel
theorem dX3_add_77 : decode cX3_add 77 = .ok (.iload 5, 2) := by decide +kernel
theorem dX3_add_79 : decode cX3_add 79 = .ok (.iload_n 3, 1) := by decide +kernel
theorem dX3_add_80 : decode cX3_add 80 = .ok (.invokevirtual 45, 3) := by decide +kernel
theorem dX3_add_83 : decode cX3_add 83 = .ok (.iload 5, 2) := by decide +kernel
theorem dX3_add_85 : decode cX3_add 85 = .ok (.ireturn, 1) := by decide +kernel
theorem dX3_enqueue_0 : decode cX3_enqueue 0 = .ok (.iconst (-1), 1) := by decide +kernel
theorem dX3_enqueue_1 : decode cX3_enqueue 1 = .ok (.istore 4, 2) := by decide +kernel
theorem dX3_enqueue_3 : decode cX3_enqueue 3 = .ok (.aload_n 1, 1) := by decide +kernel
theorem dX3_enqueue_4 : decode cX3_enqueue 4 = .ok (.getfield 49, 3) := by decide +kernel
theorem dX3_enqueue_7 : decode cX3_enqueue 7 = .ok (.istore 5, 2) := by decide +kernel
theorem dX3_enqueue_9 : decode cX3_enqueue 9 = .ok (.iconst 0, 1) := by decide +kernel
theorem dX3_enqueue_10 : decode cX3_enqueue 10 = .ok (.istore 6, 2) := by decide +kernel
theorem dX3_enqueue_12 : decode cX3_enqueue 12 = .ok (.iload 6, 2) := by decide +kernel
theorem dX3_enqueue_14 : decode cX3_enqueue 14 = .ok (.aload_n 1, 1) := by decide +kernel
theorem dX3_enqueue_15 : decode cX3_enqueue 15 = .ok (.getfield 52, 3) := by decide +kernel
theorem dX3_enqueue_18 : decode cX3_enqueue 18 = .ok (.if_icmp .ge 38, 3) := by decide +kernel
theorem dX3_enqueue_21 : decode cX3_enqueue 21 = .ok (.aload_n 0, 1) := by decide +kernel
theorem dX3_enqueue_22 : decode cX3_enqueue 22 = .ok (.getfield 16, 3) := by decide +kernel
theorem dX3_enqueue_25 : decode cX3_enqueue 25 = .ok (.iload 5, 2) := by decide +kernel
theorem dX3_enqueue_27 : decode cX3_enqueue 27 = .ok (.iconst 1, 1) := by decide +kernel
theorem dX3_enqueue_28 : decode cX3_enqueue 28 = .ok (.invokevirtual 24, 3) := by decide +kernel
theorem dX3_enqueue_31 : decode cX3_enqueue 31 = .ok (.iload_n 3, 1) := by decide +kernel
theorem dX3_enqueue_32 : decode cX3_enqueue 32 = .ok (.if_icmp .ge 6, 3) := by decide +kernel
theorem dX3_enqueue_35 : decode cX3_enqueue 35 = .ok (.goto 21, 3) := by decide +kernel
theorem dX3_enqueue_38 : decode cX3_enqueue 38 = .ok (.iload 5, 2) := by decide +kernel
theorem dX3_enqueue_40 : decode cX3_enqueue 40 = .ok (.istore 4, 2) := by decide +kernel
theorem dX3_enqueue_42 : decode cX3_enqueue 42 = .ok (.aload_n 0, 1) := by decide +kernel
theorem dX3_enqueue_43 : decode cX3_enqueue 43 = .ok (.iload 5, 2) := by decide +kernel
theorem dX3_enqueue_45 : decode cX3_enqueue 45 = .ok (.invokevirtual 55, 3) := by decide +kernel
theorem dX3_enqueue_48 : decode cX3_enqueue 48 = .ok (.istore 5, 2) := by decide +kernel
theorem dX3_enqueue_50 : decode cX3_enqueue 50 = .ok (.iinc 6 1, 3) := by decide +kernel
theorem dX3_enqueue_53 : decode cX3_enqueue 53 = .ok (.goto (-41), 3) := by decide +kernel
theorem dX3_enqueue_56 : decode cX3_enqueue 56 = .ok (.aload_n 0, 1) := by decide +kernel
theorem dX3_enqueue_57 : decode cX3_enqueue 57 = .ok (.getfield 16, 3) := by decide +kernel
theorem dX3_enqueue_60 : decode cX3_enqueue 60 = .ok (.iload_n 2, 1) := by decide +kernel
theorem dX3_enqueue_61 : decode cX3_enqueue 61 = .ok (.iconst 5, 1) := by decide +kernel
theorem dX3_enqueue_62 : decode cX3_enqueue 62 = .ok (.iload 5, 2) := by decide +kernel
theorem dX3_enqueue_64 : decode cX3_enqueue 64 = .ok (.invokevirtual 36, 3) := by decide +kernel
theorem dX3_enqueue_67 : decode cX3_enqueue 67 = .ok (.iload 4, 2) := by decide +kernel
theorem dX3_enqueue_69 : decode cX3_enqueue 69 = .ok (.iconst (-1), 1) := by decide +kernel
theorem dX3_enqueue_70 : decode cX3_enqueue 70 = .ok (.if_icmp .ne 11, 3) := by decide +kernel
theorem dX3_enqueue_73 : decode cX3_enqueue 73 = .ok (.aload_n 1, 1) := by decide +kernel
theorem dX3_enqueue_74 : decode cX3_enqueue 74 = .ok (.iload_n 2, 1) := by decide +kernel
theorem dX3_enqueue_75 : decode cX3_enqueue 75 = .ok (.putfield 49, 3) := by decide +kernel
theorem dX3_enqueue_78 : decode cX3_enqueue 78 = .ok (.goto 14, 3) := by decide +kernel
theorem dX3_enqueue_81 : decode cX3_enqueue 81 = .ok (.aload_n 0, 1) := by decide +kernel
theorem dX3_enqueue_82 : decode cX3_enqueue 82 = .ok (.getfield 16, 3) := by decide +kernel
theorem dX3_enqueue_85 : decode cX3_enqueue 85 = .ok (.iload 4, 2) := by decide +kernel
theorem dX3_enqueue_87 : decode cX3_enqueue 87 = .ok (.iconst 5, 1) := by decide +kernel
theorem dX3_enqueue_88 : decode cX3_enqueue 88 = .ok (.iload_n 2, 1) := by decide +kernel
theorem dX3_enqueue_89 : decode cX3_enqueue 89 = .ok (.invokevirtual 36, 3) := by decide +kernel
theorem dX3_enqueue_92 : decode cX3_enqueue 92 = .ok (.aload_n 1, 1) := by decide +kernel
theorem dX3_enqueue_93 : decode cX3_enqueue 93 = .ok (.dup, 1) := by decide +kernel
theorem dX3_enqueue_94 : decode cX3_enqueue 94 = .ok (.getfield 52, 3) := by decide +kernel
theorem dX3_enqueue_97 : decode cX3_enqueue 97 = .ok (.iconst 1, 1) := by decide +kernel
theorem dX3_enqueue_98 : decode cX3_enqueue 98 = .ok (.iadd, 1) := by decide +kernel
theorem dX3_enqueue_99 : decode cX3_enqueue 99 = .ok (.putfield 52, 3) := by decide +kernel
theorem dX3_enqueue_102 : decode cX3_enqueue 102 = .ok (.return_, 1) := by decide +kernel
theorem dX3_inQueue_0 : decode cX3_inQueue 0 = .ok (.aload_n 1, 1) := by decide +kernel
theorem dX3_inQueue_1 : decode cX3_inQueue 1 = .ok (.getfield 49, 3) := by decide +kernel
theorem dX3_inQueue_4 : decode cX3_inQueue 4 = .ok (.istore_n 3, 1) := by decide +kernel
theorem dX3_inQueue_5 : decode cX3_inQueue 5 = .ok (.iconst 0, 1) := by decide +kernel
theorem dX3_inQueue_6 : decode cX3_inQueue 6 = .ok (.istore 4, 2) := by decide +kernel
theorem dX3_inQueue_8 : decode cX3_inQueue 8 = .ok (.iload 4, 2) := by decide +kernel
theorem dX3_inQueue_10 : decode cX3_inQueue 10 = .ok (.iload_n 2, 1) := by decide +kernel
theorem dX3_inQueue_11 : decode cX3_inQueue 11 = .ok (.if_icmp .ge 15, 3) := by decide +kernel
theorem dX3_inQueue_14 : decode cX3_inQueue 14 = .ok (.aload_n 0, 1) := by decide +kernel
theorem dX3_inQueue_15 : decode cX3_inQueue 15 = .ok (.iload_n 3, 1) := by decide +kernel
theorem dX3_inQueue_16 : decode cX3_inQueue 16 = .ok (.invokevirtual 55, 3) := by decide +kernel
theorem dX3_inQueue_19 : decode cX3_inQueue 19 = .ok (.istore_n 3, 1) := by decide +kernel
theorem dX3_inQueue_20 : decode cX3_inQueue 20 = .ok (.iinc 4 1, 3) := by decide +kernel
theorem dX3_inQueue_23 : decode cX3_inQueue 23 = .ok (.goto (-15), 3) := by decide +kernel
theorem dX3_inQueue_26 : decode cX3_inQueue 26 = .ok (.iload_n 3, 1) := by decide +kernel
theorem dX3_inQueue_27 : decode cX3_inQueue 27 = .ok (.ireturn, 1) := by decide +kernel
theorem dX3_takeFirst_0 : decode cX3_takeFirst 0 = .ok (.aload_n 1, 1) := by decide +kernel
theorem dX3_takeFirst_1 : decode cX3_takeFirst 1 = .ok (.getfield 49, 3) := by decide +kernel
theorem dX3_takeFirst_4 : decode cX3_takeFirst 4 = .ok (.istore_n 3, 1) := by decide +kernel
theorem dX3_takeFirst_5 : decode cX3_takeFirst 5 = .ok (.iload_n 2, 1) := by decide +kernel
theorem dX3_takeFirst_6 : decode cX3_takeFirst 6 = .ok (.aload_n 0, 1) := by decide +kernel
theorem dX3_takeFirst_7 : decode cX3_takeFirst 7 = .ok (.getfield 16, 3) := by decide +kernel
theorem dX3_takeFirst_10 : decode cX3_takeFirst 10 = .ok (.iload_n 3, 1) := by decide +kernel
theorem dX3_takeFirst_11 : decode cX3_takeFirst 11 = .ok (.iconst 3, 1) := by decide +kernel
theorem dX3_takeFirst_12 : decode cX3_takeFirst 12 = .ok (.invokevirtual 24, 3) := by decide +kernel
theorem dX3_takeFirst_15 : decode cX3_takeFirst 15 = .ok (.isub, 1) := by decide +kernel
theorem dX3_takeFirst_16 : decode cX3_takeFirst 16 = .ok (.istore 4, 2) := by decide +kernel
theorem dX3_takeFirst_18 : decode cX3_takeFirst 18 = .ok (.aload_n 0, 1) := by decide +kernel
theorem dX3_takeFirst_19 : decode cX3_takeFirst 19 = .ok (.getfield 16, 3) := by decide +kernel
theorem dX3_takeFirst_22 : decode cX3_takeFirst 22 = .ok (.iload_n 3, 1) := by decide +kernel
theorem dX3_takeFirst_23 : decode cX3_takeFirst 23 = .ok (.iconst 4, 1) := by decide +kernel
theorem dX3_takeFirst_24 : decode cX3_takeFirst 24 = .ok (.iload 4, 2) := by decide +kernel
theorem dX3_takeFirst_26 : decode cX3_takeFirst 26 = .ok (.invokevirtual 36, 3) := by decide +kernel
theorem dX3_takeFirst_29 : decode cX3_takeFirst 29 = .ok (.aload_n 1, 1) := by decide +kernel
theorem dX3_takeFirst_30 : decode cX3_takeFirst 30 = .ok (.aload_n 0, 1) := by decide +kernel
theorem dX3_takeFirst_31 : decode cX3_takeFirst 31 = .ok (.iload_n 3, 1) := by decide +kernel
theorem dX3_takeFirst_32 : decode cX3_takeFirst 32 = .ok (.invokevirtual 55, 3) := by decide +kernel
theorem dX3_takeFirst_35 : decode cX3_takeFirst 35 = .ok (.putfield 49, 3) := by decide +kernel
theorem dX3_takeFirst_38 : decode cX3_takeFirst 38 = .ok (.aload_n 1, 1) := by decide +kernel
theorem dX3_takeFirst_39 : decode cX3_takeFirst 39 = .ok (.dup, 1) := by decide +kernel
theorem dX3_takeFirst_40 : decode cX3_takeFirst 40 = .ok (.getfield 52, 3) := by decide +kernel
theorem dX3_takeFirst_43 : decode cX3_takeFirst 43 = .ok (.iconst 1, 1) := by decide +kernel
theorem dX3_takeFirst_44 : decode cX3_takeFirst 44 = .ok (.isub, 1) := by decide +kernel
theorem dX3_takeFirst_45 : decode cX3_takeFirst 45 = .ok (.putfield 52, 3) := by decide +kernel
theorem dX3_takeFirst_48 : decode cX3_takeFirst 48 = .ok (.iload 4, 2) := by decide +kernel
theorem dX3_takeFirst_50 : decode cX3_takeFirst 50 = .ok (.ireturn, 1) := by decide +kernel
theorem dX4_init_0 : decode cX4_init 0 = .ok (.aload_n 0, 1) := by decide +kernel
theorem dX4_init_1 : decode cX4_init 1 = .ok (.invokespecial 3, 3) := by decide +kernel
theorem dX4_init_4 : decode cX4_init 4 = .ok (.aload_n 0, 1) := by decide +kernel
theorem dX4_init_5 : decode cX4_init 5 = .ok (.bipush 20, 2) := by decide +kernel
theorem dX4_init_7 : decode cX4_init 7 = .ok (.newarray .int, 2) := by decide +kernel
theorem dX4_init_9 : decode cX4_init 9 = .ok (.putfield 9, 3) := by decide +kernel
theorem dX4_init_12 : decode cX4_init 12 = .ok (.aload_n 0, 1) := by decide +kernel
theorem dX4_init_13 : decode cX4_init 13 = .ok (.bipush 20, 2) := by decide +kernel
theorem dX4_init_15 : decode cX4_init 15 = .ok (.newarray .int, 2) := by decide +kernel
theorem dX4_init_17 : decode cX4_init 17 = .ok (.putfield 15, 3) := by decide +kernel
theorem dX4_init_20 : decode cX4_init 20 = .ok (.return_, 1) := by decide +kernel
theorem dX4_isFull_0 : decode cX4_isFull 0 = .ok (.aload_n 0, 1) := by decide +kernel
theorem dX4_isFull_1 : decode cX4_isFull 1 = .ok (.getfield 18, 3) := by decide +kernel
theorem dX4_isFull_4 : decode cX4_isFull 4 = .ok (.bipush 20, 2) := by decide +kernel
theorem dX4_isFull_6 : decode cX4_isFull 6 = .ok (.if_icmp .lt 7, 3) := by decide +kernel
theorem dX4_isFull_9 : decode cX4_isFull 9 = .ok (.iconst 1, 1) := by decide +kernel
theorem dX4_isFull_10 : decode cX4_isFull 10 = .ok (.goto 4, 3) := by decide +kernel
theorem dX4_isFull_13 : decode cX4_isFull 13 = .ok (.iconst 0, 1) := by decide +kernel
theorem dX4_isFull_14 : decode cX4_isFull 14 = .ok (.ireturn, 1) := by decide +kernel
theorem dX4_clear_0 : decode cX4_clear 0 = .ok (.aload_n 0, 1) := by decide +kernel
theorem dX4_clear_1 : decode cX4_clear 1 = .ok (.iconst 0, 1) := by decide +kernel
theorem dX4_clear_2 : decode cX4_clear 2 = .ok (.putfield 18, 3) := by decide +kernel
theorem dX4_clear_5 : decode cX4_clear 5 = .ok (.return_, 1) := by decide +kernel
theorem dX4_copyFrom_0 : decode cX4_copyFrom 0 = .ok (.aload_n 0, 1) := by decide +kernel
theorem dX4_copyFrom_1 : decode cX4_copyFrom 1 = .ok (.aload_n 1, 1) := by decide +kernel
theorem dX4_copyFrom_2 : decode cX4_copyFrom 2 = .ok (.getfield 18, 3) := by decide +kernel
theorem dX4_copyFrom_5 : decode cX4_copyFrom 5 = .ok (.putfield 18, 3) := by decide +kernel
theorem dX4_copyFrom_8 : decode cX4_copyFrom 8 = .ok (.iconst 0, 1) := by decide +kernel
theorem dX4_copyFrom_9 : decode cX4_copyFrom 9 = .ok (.istore_n 2, 1) := by decide +kernel
theorem dX4_copyFrom_10 : decode cX4_copyFrom 10 = .ok (.iload_n 2, 1) := by decide +kernel
theorem dX4_copyFrom_11 : decode cX4_copyFrom 11 = .ok (.aload_n 0, 1) := by decide +kernel
theorem dX4_copyFrom_12 : decode cX4_copyFrom 12 = .ok (.getfield 18, 3) := by decide +kernel
theorem dX4_copyFrom_15 : decode cX4_copyFrom 15 = .ok (.if_icmp .ge 39, 3) := by decide +kernel
theorem dX4_copyFrom_18 : decode cX4_copyFrom 18 = .ok (.iload_n 2, 1) := by decide +kernel
theorem dX4_copyFrom_19 : decode cX4_copyFrom 19 = .ok (.bipush 20, 2) := by decide +kernel
theorem dX4_copyFrom_21 : decode cX4_copyFrom 21 = .ok (.if_icmp .ge 33, 3) := by decide +kernel
theorem dX4_copyFrom_24 : decode cX4_copyFrom 24 = .ok (.aload_n 0, 1) := by decide +kernel
theorem dX4_copyFrom_25 : decode cX4_copyFrom 25 = .ok (.getfield 9, 3) := by decide +kernel
theorem dX4_copyFrom_28 : decode cX4_copyFrom 28 = .ok (.iload_n 2, 1) := by decide +kernel
theorem dX4_copyFrom_29 : decode cX4_copyFrom 29 = .ok (.aload_n 1, 1) := by decide +kernel
theorem dX4_copyFrom_30 : decode cX4_copyFrom 30 = .ok (.getfield 9, 3) := by decide +kernel
theorem dX4_copyFrom_33 : decode cX4_copyFrom 33 = .ok (.iload_n 2, 1) := by decide +kernel
theorem dX4_copyFrom_34 : decode cX4_copyFrom 34 = .ok (.iaload, 1) := by decide +kernel
theorem dX4_copyFrom_35 : decode cX4_copyFrom 35 = .ok (.iastore, 1) := by decide +kernel
theorem dX4_copyFrom_36 : decode cX4_copyFrom 36 = .ok (.aload_n 0, 1) := by decide +kernel
theorem dX4_copyFrom_37 : decode cX4_copyFrom 37 = .ok (.getfield 15, 3) := by decide +kernel
theorem dX4_copyFrom_40 : decode cX4_copyFrom 40 = .ok (.iload_n 2, 1) := by decide +kernel
theorem dX4_copyFrom_41 : decode cX4_copyFrom 41 = .ok (.aload_n 1, 1) := by decide +kernel
theorem dX4_copyFrom_42 : decode cX4_copyFrom 42 = .ok (.getfield 15, 3) := by decide +kernel
theorem dX4_copyFrom_45 : decode cX4_copyFrom 45 = .ok (.iload_n 2, 1) := by decide +kernel
theorem dX4_copyFrom_46 : decode cX4_copyFrom 46 = .ok (.iaload, 1) := by decide +kernel
theorem dX4_copyFrom_47 : decode cX4_copyFrom 47 = .ok (.iastore, 1) := by decide +kernel
theorem dX4_copyFrom_48 : decode cX4_copyFrom 48 = .ok (.iinc 2 1, 3) := by decide +kernel
theorem dX4_copyFrom_51 : decode cX4_copyFrom 51 = .ok (.goto (-41), 3) := by decide +kernel
theorem dX4_copyFrom_54 : decode cX4_copyFrom 54 = .ok (.return_, 1) := by decide +kernel
theorem dX4_add_0 : decode cX4_add 0 = .ok (.aload_n 0, 1) := by decide +kernel
theorem dX4_add_1 : decode cX4_add 1 = .ok (.getfield 18, 3) := by decide +kernel
theorem dX4_add_4 : decode cX4_add 4 = .ok (.ifCond .lt 42, 3) := by decide +kernel
theorem dX4_add_7 : decode cX4_add 7 = .ok (.aload_n 0, 1) := by decide +kernel
theorem dX4_add_8 : decode cX4_add 8 = .ok (.getfield 18, 3) := by decide +kernel
theorem dX4_add_11 : decode cX4_add 11 = .ok (.bipush 20, 2) := by decide +kernel
theorem dX4_add_13 : decode cX4_add 13 = .ok (.if_icmp .ge 33, 3) := by decide +kernel
theorem dX4_add_16 : decode cX4_add 16 = .ok (.aload_n 0, 1) := by decide +kernel
theorem dX4_add_17 : decode cX4_add 17 = .ok (.getfield 9, 3) := by decide +kernel
theorem dX4_add_20 : decode cX4_add 20 = .ok (.aload_n 0, 1) := by decide +kernel
theorem dX4_add_21 : decode cX4_add 21 = .ok (.getfield 18, 3) := by decide +kernel
theorem dX4_add_24 : decode cX4_add 24 = .ok (.iload_n 1, 1) := by decide +kernel
theorem dX4_add_25 : decode cX4_add 25 = .ok (.iastore, 1) := by decide +kernel
theorem dX4_add_26 : decode cX4_add 26 = .ok (.aload_n 0, 1) := by decide +kernel
theorem dX4_add_27 : decode cX4_add 27 = .ok (.getfield 15, 3) := by decide +kernel
theorem dX4_add_30 : decode cX4_add 30 = .ok (.aload_n 0, 1) := by decide +kernel
theorem dX4_add_31 : decode cX4_add 31 = .ok (.getfield 18, 3) := by decide +kernel
theorem dX4_add_34 : decode cX4_add 34 = .ok (.iload_n 2, 1) := by decide +kernel
theorem dX4_add_35 : decode cX4_add 35 = .ok (.iastore, 1) := by decide +kernel
theorem dX4_add_36 : decode cX4_add 36 = .ok (.aload_n 0, 1) := by decide +kernel
theorem dX4_add_37 : decode cX4_add 37 = .ok (.dup, 1) := by decide +kernel
theorem dX4_add_38 : decode cX4_add 38 = .ok (.getfield 18, 3) := by decide +kernel
theorem dX4_add_41 : decode cX4_add 41 = .ok (.iconst 1, 1) := by decide +kernel
theorem dX4_add_42 : decode cX4_add 42 = .ok (.iadd, 1) := by decide +kernel
theorem dX4_add_43 : decode cX4_add 43 = .ok (.putfield 18, 3) := by decide +kernel
theorem dX4_add_46 : decode cX4_add 46 = .ok (.return_, 1) := by decide +kernel
theorem dX4_touch_0 : decode cX4_touch 0 = .ok (.iconst 0, 1) := by decide +kernel
theorem dX4_touch_1 : decode cX4_touch 1 = .ok (.istore_n 3, 1) := by decide +kernel
theorem dX4_touch_2 : decode cX4_touch 2 = .ok (.iload_n 3, 1) := by decide +kernel
theorem dX4_touch_3 : decode cX4_touch 3 = .ok (.aload_n 0, 1) := by decide +kernel
theorem dX4_touch_4 : decode cX4_touch 4 = .ok (.getfield 18, 3) := by decide +kernel
theorem dX4_touch_7 : decode cX4_touch 7 = .ok (.if_icmp .ge 37, 3) := by decide +kernel
theorem dX4_touch_10 : decode cX4_touch 10 = .ok (.iload_n 3, 1) := by decide +kernel
theorem dX4_touch_11 : decode cX4_touch 11 = .ok (.bipush 20, 2) := by decide +kernel
theorem dX4_touch_13 : decode cX4_touch 13 = .ok (.if_icmp .ge 31, 3) := by decide +kernel
theorem dX4_touch_16 : decode cX4_touch 16 = .ok (.aload_n 0, 1) := by decide +kernel
theorem dX4_touch_17 : decode cX4_touch 17 = .ok (.getfield 9, 3) := by decide +kernel
theorem dX4_touch_20 : decode cX4_touch 20 = .ok (.iload_n 3, 1) := by decide +kernel
theorem dX4_touch_21 : decode cX4_touch 21 = .ok (.iaload, 1) := by decide +kernel
theorem dX4_touch_22 : decode cX4_touch 22 = .ok (.iload_n 2, 1) := by decide +kernel
theorem dX4_touch_23 : decode cX4_touch 23 = .ok (.if_icmp .gt 15, 3) := by decide +kernel
theorem dX4_touch_26 : decode cX4_touch 26 = .ok (.aload_n 0, 1) := by decide +kernel
theorem dX4_touch_27 : decode cX4_touch 27 = .ok (.getfield 15, 3) := by decide +kernel
theorem dX4_touch_30 : decode cX4_touch 30 = .ok (.iload_n 3, 1) := by decide +kernel
theorem dX4_touch_31 : decode cX4_touch 31 = .ok (.iaload, 1) := by decide +kernel
theorem dX4_touch_32 : decode cX4_touch 32 = .ok (.iload_n 1, 1) := by decide +kernel
theorem dX4_touch_33 : decode cX4_touch 33 = .ok (.if_icmp .lt 5, 3) := by decide +kernel
theorem dX4_touch_36 : decode cX4_touch 36 = .ok (.iconst 1, 1) := by decide +kernel
theorem dX4_touch_37 : decode cX4_touch 37 = .ok (.ireturn, 1) := by decide +kernel
theorem dX4_touch_38 : decode cX4_touch 38 = .ok (.iinc 3 1, 3) := by decide +kernel
theorem dX4_touch_41 : decode cX4_touch 41 = .ok (.goto (-39), 3) := by decide +kernel
theorem dX4_touch_44 : decode cX4_touch 44 = .ok (.iconst 0, 1) := by decide +kernel
theorem dX4_touch_45 : decode cX4_touch 45 = .ok (.ireturn, 1) := by decide +kernel
theorem dX5_init_0 : decode cX5_init 0 = .ok (.aload_n 0, 1) := by decide +kernel
theorem dX5_init_1 : decode cX5_init 1 = .ok (.invokespecial 3, 3) := by decide +kernel
theorem dX5_init_4 : decode cX5_init 4 = .ok (.aload_n 0, 1) := by decide +kernel
theorem dX5_init_5 : decode cX5_init 5 = .ok (.iconst (-1), 1) := by decide +kernel
theorem dX5_init_6 : decode cX5_init 6 = .ok (.putfield 9, 3) := by decide +kernel
theorem dX5_init_9 : decode cX5_init 9 = .ok (.aload_n 0, 1) := by decide +kernel
theorem dX5_init_10 : decode cX5_init 10 = .ok (.aload_n 1, 1) := by decide +kernel
theorem dX5_init_11 : decode cX5_init 11 = .ok (.putfield 15, 3) := by decide +kernel
theorem dX5_init_14 : decode cX5_init 14 = .ok (.aload_n 0, 1) := by decide +kernel
theorem dX5_init_15 : decode cX5_init 15 = .ok (.iload_n 2, 1) := by decide +kernel
theorem dX5_init_16 : decode cX5_init 16 = .ok (.putfield 19, 3) := by decide +kernel
theorem dX5_init_19 : decode cX5_init 19 = .ok (.aload_n 0, 1) := by decide +kernel
theorem dX5_init_20 : decode cX5_init 20 = .ok (.aload_n 3, 1) := by decide +kernel
theorem dX5_init_21 : decode cX5_init 21 = .ok (.putfield 22, 3) := by decide +kernel
theorem dX5_init_24 : decode cX5_init 24 = .ok (.return_, 1) := by decide +kernel
theorem dX5_readItems_0 : decode cX5_readItems 0 = .ok (.iconst 0, 1) := by decide +kernel
theorem dX5_readItems_1 : decode cX5_readItems 1 = .ok (.istore_n 1, 1) := by decide +kernel
theorem dX5_readItems_2 : decode cX5_readItems 2 = .ok (.iload_n 1, 1) := by decide +kernel
theorem dX5_readItems_3 : decode cX5_readItems 3 = .ok (.aload_n 0, 1) := by decide +kernel
theorem dX5_readItems_4 : decode cX5_readItems 4 = .ok (.getfield 19, 3) := by decide +kernel
theorem dX5_readItems_7 : decode cX5_readItems 7 = .ok (.if_icmp .ge 29, 3) := by decide +kernel
theorem dX5_readItems_10 : decode cX5_readItems 10 = .ok (.aload_n 0, 1) := by decide +kernel
theorem dX5_readItems_11 : decode cX5_readItems 11 = .ok (.getfield 26, 3) := by decide +kernel
theorem dX5_readItems_14 : decode cX5_readItems 14 = .ok (.aload_n 0, 1) := by decide +kernel
theorem dX5_readItems_15 : decode cX5_readItems 15 = .ok (.getfield 19, 3) := by decide +kernel
theorem dX5_readItems_18 : decode cX5_readItems 18 = .ok (.if_icmp .ge 18, 3) := by decide +kernel
theorem dX5_readItems_21 : decode cX5_readItems 21 = .ok (.aload_n 0, 1) := by decide +kernel
theorem dX5_readItems_22 : decode cX5_readItems 22 = .ok (.invokevirtual 29, 3) := by decide +kernel
theorem dX5_readItems_25 : decode cX5_readItems 25 = .ok (.ifCond .ne 5, 3) := by decide +kernel
theorem dX5_readItems_28 : decode cX5_readItems 28 = .ok (.iconst (-1), 1) := by decide +kernel
theorem dX5_readItems_29 : decode cX5_readItems 29 = .ok (.ireturn, 1) := by decide +kernel
theorem dX5_readItems_30 : decode cX5_readItems 30 = .ok (.iinc 1 1, 3) := by decide +kernel
theorem dX5_readItems_33 : decode cX5_readItems 33 = .ok (.goto (-31), 3) := by decide +kernel
theorem dX5_readItems_36 : decode cX5_readItems 36 = .ok (.iload_n 1, 1) := by decide +kernel
theorem dX5_readItems_37 : decode cX5_readItems 37 = .ok (.ireturn, 1) := by decide +kernel
theorem dX5_readItem_0 : decode cX5_readItem 0 = .ok (.aload_n 0, 1) := by decide +kernel
theorem dX5_readItem_1 : decode cX5_readItem 1 = .ok (.invokevirtual 33, 3) := by decide +kernel
theorem dX5_readItem_4 : decode cX5_readItem 4 = .ok (.istore_n 1, 1) := by decide +kernel
theorem dX5_readItem_5 : decode cX5_readItem 5 = .ok (.iload_n 1, 1) := by decide +kernel
theorem dX5_readItem_6 : decode cX5_readItem 6 = .ok (.bipush 115, 2) := by decide +kernel
theorem dX5_readItem_8 : decode cX5_readItem 8 = .ok (.if_icmp .ne 28, 3) := by decide +kernel
theorem dX5_readItem_11 : decode cX5_readItem 11 = .ok (.aload_n 0, 1) := by decide +kernel
theorem dX5_readItem_12 : decode cX5_readItem 12 = .ok (.getfield 22, 3) := by decide +kernel
theorem dX5_readItem_15 : decode cX5_readItem 15 = .ok (.invokevirtual 37, 3) := by decide +kernel
theorem dX5_readItem_18 : decode cX5_readItem 18 = .ok (.ifCond .ne 18, 3) := by decide +kernel
theorem dX5_readItem_21 : decode cX5_readItem 21 = .ok (.aload_n 0, 1) := by decide +kernel
theorem dX5_readItem_22 : decode cX5_readItem 22 = .ok (.dup, 1) := by decide +kernel
theorem dX5_readItem_23 : decode cX5_readItem 23 = .ok (.getfield 26, 3) := by decide +kernel
theorem dX5_readItem_26 : decode cX5_readItem 26 = .ok (.iconst 1, 1) := by decide +kernel
theorem dX5_readItem_27 : decode cX5_readItem 27 = .ok (.iadd, 1) := by decide +kernel
theorem dX5_readItem_28 : decode cX5_readItem 28 = .ok (.putfield 26, 3) := by decide +kernel
theorem dX5_readItem_31 : decode cX5_readItem 31 = .ok (.aload_n 0, 1) := by decide +kernel
theorem dX5_readItem_32 : decode cX5_readItem 32 = .ok (.invokevirtual 42, 3) := by decide +kernel
theorem dX5_readItem_35 : decode cX5_readItem 35 = .ok (.ireturn, 1) := by decide +kernel
theorem dX5_readItem_36 : decode cX5_readItem 36 = .ok (.iload_n 1, 1) := by decide +kernel
theorem dX5_readItem_37 : decode cX5_readItem 37 = .ok (.bipush 109, 2) := by decide +kernel
theorem dX5_readItem_39 : decode cX5_readItem 39 = .ok (.if_icmp .ne 25, 3) := by decide +kernel
theorem dX5_readItem_42 : decode cX5_readItem 42 = .ok (.aload_n 0, 1) := by decide +kernel
theorem dX5_readItem_43 : decode cX5_readItem 43 = .ok (.getfield 45, 3) := by decide +kernel
theorem dX5_readItem_46 : decode cX5_readItem 46 = .ok (.ifnull 18, 3) := by decide +kernel
theorem dX5_readItem_49 : decode cX5_readItem 49 = .ok (.aload_n 0, 1) := by decide +kernel
theorem dX5_readItem_50 : decode cX5_readItem 50 = .ok (.dup, 1) := by decide +kernel
theorem dX5_readItem_51 : decode cX5_readItem 51 = .ok (.getfield 26, 3) := by decide +kernel
theorem dX5_readItem_54 : decode cX5_readItem 54 = .ok (.iconst 1, 1) := by decide +kernel
theorem dX5_readItem_55 : decode cX5_readItem 55 = .ok (.iadd, 1) := by decide +kernel
theorem dX5_readItem_56 : decode cX5_readItem 56 = .ok (.putfield 26, 3) := by decide +kernel
theorem dX5_readItem_59 : decode cX5_readItem 59 = .ok (.aload_n 0, 1) := by decide +kernel
theorem dX5_readItem_60 : decode cX5_readItem 60 = .ok (.invokevirtual 49, 3) := by decide +kernel
theorem dX5_readItem_63 : decode cX5_readItem 63 = .ok (.ireturn, 1) := by decide +kernel
theorem dX5_readItem_64 : decode cX5_readItem 64 = .ok (.aload_n 0, 1) := by decide +kernel
theorem dX5_readItem_65 : decode cX5_readItem 65 = .ok (.aload_n 0, 1) := by decide +kernel
theorem dX5_readItem_66 : decode cX5_readItem 66 = .ok (.getfield 26, 3) := by decide +kernel
theorem dX5_readItem_69 : decode cX5_readItem 69 = .ok (.invokevirtual 52, 3) := by decide +kernel
theorem dX5_readItem_72 : decode cX5_readItem 72 = .ok (.ireturn, 1) := by decide +kernel
theorem dX5_readStation_0 : decode cX5_readStation 0 = .ok (.aload_n 0, 1) := by decide +kernel
theorem dX5_readStation_1 : decode cX5_readStation 1 = .ok (.getfield 26, 3) := by decide +kernel
theorem dX5_readStation_4 : decode cX5_readStation 4 = .ok (.istore_n 1, 1) := by decide +kernel
theorem dX5_readStation_5 : decode cX5_readStation 5 = .ok (.aload_n 0, 1) := by decide +kernel
theorem dX5_readStation_6 : decode cX5_readStation 6 = .ok (.invokevirtual 56, 3) := by decide +kernel
theorem dX5_readStation_9 : decode cX5_readStation 9 = .ok (.istore_n 2, 1) := by decide +kernel
theorem dX5_readStation_10 : decode cX5_readStation 10 = .ok (.iload_n 2, 1) := by decide +kernel
theorem dX5_readStation_11 : decode cX5_readStation 11 = .ok (.iconst (-1), 1) := by decide +kernel
theorem dX5_readStation_12 : decode cX5_readStation 12 = .ok (.if_icmp .ne 5, 3) := by decide +kernel
theorem dX5_readStation_15 : decode cX5_readStation 15 = .ok (.iconst 0, 1) := by decide +kernel
theorem dX5_readStation_16 : decode cX5_readStation 16 = .ok (.ireturn, 1) := by decide +kernel
theorem dX5_readStation_17 : decode cX5_readStation 17 = .ok (.iload_n 2, 1) := by decide +kernel
theorem dX5_readStation_18 : decode cX5_readStation 18 = .ok (.invokestatic 59, 3) := by decide +kernel
theorem dX5_readStation_21 : decode cX5_readStation 21 = .ok (.ifCond .eq 14, 3) := by decide +kernel
theorem dX5_readStation_24 : decode cX5_readStation 24 = .ok (.aload_n 0, 1) := by decide +kernel
theorem dX5_readStation_25 : decode cX5_readStation 25 = .ok (.getfield 22, 3) := by decide +kernel
theorem dX5_readStation_28 : decode cX5_readStation 28 = .ok (.iload_n 2, 1) := by decide +kernel
theorem dX5_readStation_29 : decode cX5_readStation 29 = .ok (.invokevirtual 62, 3) := by decide +kernel
theorem dX5_readStation_32 : decode cX5_readStation 32 = .ok (.ifnull 9, 3) := by decide +kernel
theorem dX5_readStation_35 : decode cX5_readStation 35 = .ok (.aload_n 0, 1) := by decide +kernel
theorem dX5_readStation_36 : decode cX5_readStation 36 = .ok (.iload_n 1, 1) := by decide +kernel
theorem dX5_readStation_37 : decode cX5_readStation 37 = .ok (.invokevirtual 52, 3) := by decide +kernel
theorem dX5_readStation_40 : decode cX5_readStation 40 = .ok (.ireturn, 1) := by decide +kernel
theorem dX5_readStation_41 : decode cX5_readStation 41 = .ok (.aload_n 0, 1) := by decide +kernel
theorem dX5_readStation_42 : decode cX5_readStation 42 = .ok (.bipush 59, 2) := by decide +kernel
theorem dX5_readStation_44 : decode cX5_readStation 44 = .ok (.invokevirtual 66, 3) := by decide +kernel
theorem dX5_readStation_47 : decode cX5_readStation 47 = .ok (.ifCond .ne 5, 3) := by decide +kernel
theorem dX5_readStation_50 : decode cX5_readStation 50 = .ok (.iconst 0, 1) := by decide +kernel
theorem dX5_readStation_51 : decode cX5_readStation 51 = .ok (.ireturn, 1) := by decide +kernel
theorem dX5_readStation_52 : decode cX5_readStation 52 = .ok (.aload_n 0, 1) := by decide +kernel
theorem dX5_readStation_53 : decode cX5_readStation 53 = .ok (.aload_n 0, 1) := by decide +kernel
theorem dX5_readStation_54 : decode cX5_readStation 54 = .ok (.getfield 22, 3) := by decide +kernel
theorem dX5_readStation_57 : decode cX5_readStation 57 = .ok (.iload_n 2, 1) := by decide +kernel
theorem dX5_readStation_58 : decode cX5_readStation 58 = .ok (.invokevirtual 69, 3) := by decide +kernel
theorem dX5_readStation_61 : decode cX5_readStation 61 = .ok (.putfield 45, 3) := by decide +kernel
theorem dX5_readStation_64 : decode cX5_readStation 64 = .ok (.iconst 1, 1) := by decide +kernel
theorem dX5_readStation_65 : decode cX5_readStation 65 = .ok (.ireturn, 1) := by decide +kernel
theorem dX5_readMessage_0 : decode cX5_readMessage 0 = .ok (.aload_n 0, 1) := by decide +kernel
theorem dX5_readMessage_1 : decode cX5_readMessage 1 = .ok (.getfield 26, 3) := by decide +kernel
theorem dX5_readMessage_4 : decode cX5_readMessage 4 = .ok (.istore_n 1, 1) := by decide +kernel
theorem dX5_readMessage_5 : decode cX5_readMessage 5 = .ok (.aload_n 0, 1) := by decide +kernel
theorem dX5_readMessage_6 : decode cX5_readMessage 6 = .ok (.invokevirtual 56, 3) := by decide +kernel
theorem dX5_readMessage_9 : decode cX5_readMessage 9 = .ok (.istore_n 2, 1) := by decide +kernel
theorem dX5_readMessage_10 : decode cX5_readMessage 10 = .ok (.iload_n 2, 1) := by decide +kernel
theorem dX5_readMessage_11 : decode cX5_readMessage 11 = .ok (.iconst (-1), 1) := by decide +kernel
theorem dX5_readMessage_12 : decode cX5_readMessage 12 = .ok (.if_icmp .ne 5, 3) := by decide +kernel
theorem dX5_readMessage_15 : decode cX5_readMessage 15 = .ok (.iconst 0, 1) := by decide +kernel
theorem dX5_readMessage_16 : decode cX5_readMessage 16 = .ok (.ireturn, 1) := by decide +kernel
theorem dX5_readMessage_17 : decode cX5_readMessage 17 = .ok (.iload_n 2, 1) := by decide +kernel
theorem dX5_readMessage_18 : decode cX5_readMessage 18 = .ok (.iconst 1, 1) := by decide +kernel
theorem dX5_readMessage_19 : decode cX5_readMessage 19 = .ok (.bipush 20, 2) := by decide +kernel
theorem dX5_readMessage_21 : decode cX5_readMessage 21 = .ok (.invokestatic 72, 3) := by decide +kernel
theorem dX5_readMessage_24 : decode cX5_readMessage 24 = .ok (.ifCond .ne 9, 3) := by decide +kernel
theorem dX5_readMessage_27 : decode cX5_readMessage 27 = .ok (.aload_n 0, 1) := by decide +kernel
theorem dX5_readMessage_28 : decode cX5_readMessage 28 = .ok (.iload_n 1, 1) := by decide +kernel
theorem dX5_readMessage_29 : decode cX5_readMessage 29 = .ok (.invokevirtual 52, 3) := by decide +kernel
theorem dX5_readMessage_32 : decode cX5_readMessage 32 = .ok (.ireturn, 1) := by decide +kernel
theorem dX5_readMessage_33 : decode cX5_readMessage 33 = .ok (.aload_n 0, 1) := by decide +kernel
theorem dX5_readMessage_34 : decode cX5_readMessage 34 = .ok (.bipush 44, 2) := by decide +kernel
theorem dX5_readMessage_36 : decode cX5_readMessage 36 = .ok (.invokevirtual 66, 3) := by decide +kernel
theorem dX5_readMessage_39 : decode cX5_readMessage 39 = .ok (.ifCond .ne 5, 3) := by decide +kernel
theorem dX5_readMessage_42 : decode cX5_readMessage 42 = .ok (.iconst 0, 1) := by decide +kernel
theorem dX5_readMessage_43 : decode cX5_readMessage 43 = .ok (.ireturn, 1) := by decide +kernel
theorem dX5_readMessage_44 : decode cX5_readMessage 44 = .ok (.aload_n 0, 1) := by decide +kernel
theorem dX5_readMessage_45 : decode cX5_readMessage 45 = .ok (.invokevirtual 76, 3) := by decide +kernel
theorem dX5_readMessage_48 : decode cX5_readMessage 48 = .ok (.istore_n 3, 1) := by decide +kernel
theorem dX5_readMessage_49 : decode cX5_readMessage 49 = .ok (.iload_n 3, 1) := by decide +kernel
theorem dX5_readMessage_50 : decode cX5_readMessage 50 = .ok (.iconst (-1), 1) := by decide +kernel
theorem dX5_readMessage_51 : decode cX5_readMessage 51 = .ok (.if_icmp .ne 12, 3) := by decide +kernel
theorem dX5_readMessage_54 : decode cX5_readMessage 54 = .ok (.aload_n 0, 1) := by decide +kernel
theorem dX5_readMessage_55 : decode cX5_readMessage 55 = .ok (.aload_n 0, 1) := by decide +kernel
theorem dX5_readMessage_56 : decode cX5_readMessage 56 = .ok (.getfield 26, 3) := by decide +kernel
theorem dX5_readMessage_59 : decode cX5_readMessage 59 = .ok (.invokevirtual 52, 3) := by decide +kernel
theorem dX5_readMessage_62 : decode cX5_readMessage 62 = .ok (.ireturn, 1) := by decide +kernel
theorem dX5_readMessage_63 : decode cX5_readMessage 63 = .ok (.aload_n 0, 1) := by decide +kernel
theorem dX5_readMessage_64 : decode cX5_readMessage 64 = .ok (.dup, 1) := by decide +kernel
theorem dX5_readMessage_65 : decode cX5_readMessage 65 = .ok (.getfield 26, 3) := by decide +kernel
theorem dX5_readMessage_68 : decode cX5_readMessage 68 = .ok (.iconst 1, 1) := by decide +kernel
theorem dX5_readMessage_69 : decode cX5_readMessage 69 = .ok (.iadd, 1) := by decide +kernel
theorem dX5_readMessage_70 : decode cX5_readMessage 70 = .ok (.putfield 26, 3) := by decide +kernel
theorem dX5_readMessage_73 : decode cX5_readMessage 73 = .ok (.aload_n 0, 1) := by decide +kernel
theorem dX5_readMessage_74 : decode cX5_readMessage 74 = .ok (.bipush 59, 2) := by decide +kernel
theorem dX5_readMessage_76 : decode cX5_readMessage 76 = .ok (.invokevirtual 66, 3) := by decide +kernel
theorem dX5_readMessage_79 : decode cX5_readMessage 79 = .ok (.ifCond .eq 10, 3) := by decide +kernel
theorem dX5_readMessage_82 : decode cX5_readMessage 82 = .ok (.aload_n 0, 1) := by decide +kernel
theorem dX5_readMessage_83 : decode cX5_readMessage 83 = .ok (.getfield 45, 3) := by decide +kernel
theorem dX5_readMessage_86 : decode cX5_readMessage 86 = .ok (.ifnonnull 5, 3) := by decide +kernel
theorem dX5_readMessage_89 : decode cX5_readMessage 89 = .ok (.iconst 0, 1) := by decide +kernel
theorem dX5_readMessage_90 : decode cX5_readMessage 90 = .ok (.ireturn, 1) := by decide +kernel
theorem dX5_readMessage_91 : decode cX5_readMessage 91 = .ok (.aload_n 0, 1) := by decide +kernel
theorem dX5_readMessage_92 : decode cX5_readMessage 92 = .ok (.getfield 22, 3) := by decide +kernel
theorem dX5_readMessage_95 : decode cX5_readMessage 95 = .ok (.getfield 79, 3) := by decide +kernel
theorem dX5_readMessage_98 : decode cX5_readMessage 98 = .ok (.aload_n 0, 1) := by decide +kernel
theorem dX5_readMessage_99 : decode cX5_readMessage 99 = .ok (.getfield 45, 3) := by decide +kernel
theorem dX5_readMessage_102 : decode cX5_readMessage 102 = .ok (.iload_n 2, 1) := by decide +kernel
theorem dX5_readMessage_103 : decode cX5_readMessage 103 = .ok (.iload_n 3, 1) := by decide +kernel
theorem dX5_readMessage_104 : decode cX5_readMessage 104 = .ok (.aload_n 0, 1) := by decide +kernel
theorem dX5_readMessage_105 : decode cX5_readMessage 105 = .ok (.getfield 22, 3) := by decide +kernel
theorem dX5_readMessage_108 : decode cX5_readMessage 108 = .ok (.getfield 83, 3) := by decide +kernel
theorem dX5_readMessage_111 : decode cX5_readMessage 111 = .ok (.invokevirtual 86, 3) := by decide +kernel
theorem dX5_readMessage_114 : decode cX5_readMessage 114 = .ok (.pop, 1) := by decide +kernel
theorem dX5_readMessage_115 : decode cX5_readMessage 115 = .ok (.iconst 1, 1) := by decide +kernel
theorem dX5_readMessage_116 : decode cX5_readMessage 116 = .ok (.ireturn, 1) := by decide +kernel
theorem dX5_readNumber_0 : decode cX5_readNumber 0 = .ok (.aload_n 0, 1) := by decide +kernel
theorem dX5_readNumber_1 : decode cX5_readNumber 1 = .ok (.invokevirtual 76, 3) := by decide +kernel
theorem dX5_readNumber_4 : decode cX5_readNumber 4 = .ok (.istore_n 1, 1) := by decide +kernel
theorem dX5_readNumber_5 : decode cX5_readNumber 5 = .ok (.iload_n 1, 1) := by decide +kernel
theorem dX5_readNumber_6 : decode cX5_readNumber 6 = .ok (.iconst (-1), 1) := by decide +kernel
theorem dX5_readNumber_7 : decode cX5_readNumber 7 = .ok (.if_icmp .ne 14, 3) := by decide +kernel
theorem dX5_readNumber_10 : decode cX5_readNumber 10 = .ok (.aload_n 0, 1) := by decide +kernel
theorem dX5_readNumber_11 : decode cX5_readNumber 11 = .ok (.aload_n 0, 1) := by decide +kernel
theorem dX5_readNumber_12 : decode cX5_readNumber 12 = .ok (.getfield 26, 3) := by decide +kernel
theorem dX5_readNumber_15 : decode cX5_readNumber 15 = .ok (.invokevirtual 52, 3) := by decide +kernel
theorem dX5_readNumber_18 : decode cX5_readNumber 18 = .ok (.pop, 1) := by decide +kernel
theorem dX5_readNumber_19 : decode cX5_readNumber 19 = .ok (.iconst (-1), 1) := by decide +kernel
theorem dX5_readNumber_20 : decode cX5_readNumber 20 = .ok (.ireturn, 1) := by decide +kernel
theorem dX5_readNumber_21 : decode cX5_readNumber 21 = .ok (.aload_n 0, 1) := by decide +kernel
theorem dX5_readNumber_22 : decode cX5_readNumber 22 = .ok (.dup, 1) := by decide +kernel
theorem dX5_readNumber_23 : decode cX5_readNumber 23 = .ok (.getfield 26, 3) := by decide +kernel
theorem dX5_readNumber_26 : decode cX5_readNumber 26 = .ok (.iconst 1, 1) := by decide +kernel
theorem dX5_readNumber_27 : decode cX5_readNumber 27 = .ok (.iadd, 1) := by decide +kernel
theorem dX5_readNumber_28 : decode cX5_readNumber 28 = .ok (.putfield 26, 3) := by decide +kernel
theorem dX5_readNumber_31 : decode cX5_readNumber 31 = .ok (.aload_n 0, 1) := by decide +kernel
theorem dX5_readNumber_32 : decode cX5_readNumber 32 = .ok (.invokevirtual 76, 3) := by decide +kernel
theorem dX5_readNumber_35 : decode cX5_readNumber 35 = .ok (.istore_n 2, 1) := by decide +kernel
theorem dX5_readNumber_36 : decode cX5_readNumber 36 = .ok (.iload_n 2, 1) := by decide +kernel
theorem dX5_readNumber_37 : decode cX5_readNumber 37 = .ok (.iconst (-1), 1) := by decide +kernel
theorem dX5_readNumber_38 : decode cX5_readNumber 38 = .ok (.if_icmp .ne 5, 3) := by decide +kernel
theorem dX5_readNumber_41 : decode cX5_readNumber 41 = .ok (.iload_n 1, 1) := by decide +kernel
theorem dX5_readNumber_42 : decode cX5_readNumber 42 = .ok (.ireturn, 1) := by decide +kernel
theorem dX5_readNumber_43 : decode cX5_readNumber 43 = .ok (.aload_n 0, 1) := by decide +kernel
theorem dX5_readNumber_44 : decode cX5_readNumber 44 = .ok (.dup, 1) := by decide +kernel
theorem dX5_readNumber_45 : decode cX5_readNumber 45 = .ok (.getfield 26, 3) := by decide +kernel
theorem dX5_readNumber_48 : decode cX5_readNumber 48 = .ok (.iconst 1, 1) := by decide +kernel
theorem dX5_readNumber_49 : decode cX5_readNumber 49 = .ok (.iadd, 1) := by decide +kernel
theorem dX5_readNumber_50 : decode cX5_readNumber 50 = .ok (.putfield 26, 3) := by decide +kernel
theorem dX5_readNumber_53 : decode cX5_readNumber 53 = .ok (.aload_n 0, 1) := by decide +kernel
theorem dX5_readNumber_54 : decode cX5_readNumber 54 = .ok (.invokevirtual 76, 3) := by decide +kernel
theorem dX5_readNumber_57 : decode cX5_readNumber 57 = .ok (.iconst (-1), 1) := by decide +kernel
theorem dX5_readNumber_58 : decode cX5_readNumber 58 = .ok (.if_icmp .eq 14, 3) := by decide +kernel
theorem dX5_readNumber_61 : decode cX5_readNumber 61 = .ok (.aload_n 0, 1) := by decide +kernel
theorem dX5_readNumber_62 : decode cX5_readNumber 62 = .ok (.aload_n 0, 1) := by decide +kernel
theorem dX5_readNumber_63 : decode cX5_readNumber 63 = .ok (.getfield 26, 3) := by decide +kernel
theorem dX5_readNumber_66 : decode cX5_readNumber 66 = .ok (.invokevirtual 52, 3) := by decide +kernel
theorem dX5_readNumber_69 : decode cX5_readNumber 69 = .ok (.pop, 1) := by decide +kernel
theorem dX5_readNumber_70 : decode cX5_readNumber 70 = .ok (.iconst (-1), 1) := by decide +kernel
theorem dX5_readNumber_71 : decode cX5_readNumber 71 = .ok (.ireturn, 1) := by decide +kernel
theorem dX5_readNumber_72 : decode cX5_readNumber 72 = .ok (.bipush 10, 2) := by decide +kernel
theorem dX5_readNumber_74 : decode cX5_readNumber 74 = .ok (.iload_n 1, 1) := by decide +kernel
theorem dX5_readNumber_75 : decode cX5_readNumber 75 = .ok (.imul, 1) := by decide +kernel
theorem dX5_readNumber_76 : decode cX5_readNumber 76 = .ok (.iload_n 2, 1) := by decide +kernel
theorem dX5_readNumber_77 : decode cX5_readNumber 77 = .ok (.iadd, 1) := by decide +kernel
theorem dX5_readNumber_78 : decode cX5_readNumber 78 = .ok (.ireturn, 1) := by decide +kernel
theorem dX5_skips_0 : decode cX5_skips 0 = .ok (.aload_n 0, 1) := by decide +kernel
theorem dX5_skips_1 : decode cX5_skips 1 = .ok (.invokevirtual 33, 3) := by decide +kernel
theorem dX5_skips_4 : decode cX5_skips 4 = .ok (.iload_n 1, 1) := by decide +kernel
theorem dX5_skips_5 : decode cX5_skips 5 = .ok (.if_icmp .eq 12, 3) := by decide +kernel
theorem dX5_skips_8 : decode cX5_skips 8 = .ok (.aload_n 0, 1) := by decide +kernel
theorem dX5_skips_9 : decode cX5_skips 9 = .ok (.aload_n 0, 1) := by decide +kernel
theorem dX5_skips_10 : decode cX5_skips 10 = .ok (.getfield 26, 3) := by decide +kernel
theorem dX5_skips_13 : decode cX5_skips 13 = .ok (.invokevirtual 52, 3) := by decide +kernel
theorem dX5_skips_16 : decode cX5_skips 16 = .ok (.ireturn, 1) := by decide +kernel
theorem dX5_skips_17 : decode cX5_skips 17 = .ok (.aload_n 0, 1) := by decide +kernel
theorem dX5_skips_18 : decode cX5_skips 18 = .ok (.dup, 1) := by decide +kernel
theorem dX5_skips_19 : decode cX5_skips 19 = .ok (.getfield 26, 3) := by decide +kernel
theorem dX5_skips_22 : decode cX5_skips 22 = .ok (.iconst 1, 1) := by decide +kernel
theorem dX5_skips_23 : decode cX5_skips 23 = .ok (.iadd, 1) := by decide +kernel
theorem dX5_skips_24 : decode cX5_skips 24 = .ok (.putfield 26, 3) := by decide +kernel
theorem dX5_skips_27 : decode cX5_skips 27 = .ok (.iconst 1, 1) := by decide +kernel
theorem dX5_skips_28 : decode cX5_skips 28 = .ok (.ireturn, 1) := by decide +kernel
theorem dX5_sign_0 : decode cX5_sign 0 = .ok (.aload_n 0, 1) := by decide +kernel
theorem dX5_sign_1 : decode cX5_sign 1 = .ok (.getfield 26, 3) := by decide +kernel
theorem dX5_sign_4 : decode cX5_sign 4 = .ok (.ifCond .lt 38, 3) := by decide +kernel
theorem dX5_sign_7 : decode cX5_sign 7 = .ok (.aload_n 0, 1) := by decide +kernel
theorem dX5_sign_8 : decode cX5_sign 8 = .ok (.getfield 26, 3) := by decide +kernel
theorem dX5_sign_11 : decode cX5_sign 11 = .ok (.aload_n 0, 1) := by decide +kernel
theorem dX5_sign_12 : decode cX5_sign 12 = .ok (.getfield 19, 3) := by decide +kernel
theorem dX5_sign_15 : decode cX5_sign 15 = .ok (.if_icmp .ge 27, 3) := by decide +kernel
theorem dX5_sign_18 : decode cX5_sign 18 = .ok (.aload_n 0, 1) := by decide +kernel
theorem dX5_sign_19 : decode cX5_sign 19 = .ok (.getfield 26, 3) := by decide +kernel
theorem dX5_sign_22 : decode cX5_sign 22 = .ok (.aload_n 0, 1) := by decide +kernel
theorem dX5_sign_23 : decode cX5_sign 23 = .ok (.getfield 15, 3) := by decide +kernel
theorem dX5_sign_26 : decode cX5_sign 26 = .ok (.arraylength, 1) := by decide +kernel
theorem dX5_sign_27 : decode cX5_sign 27 = .ok (.if_icmp .ge 15, 3) := by decide +kernel
theorem dX5_sign_30 : decode cX5_sign 30 = .ok (.aload_n 0, 1) := by decide +kernel
theorem dX5_sign_31 : decode cX5_sign 31 = .ok (.getfield 15, 3) := by decide +kernel
theorem dX5_sign_34 : decode cX5_sign 34 = .ok (.aload_n 0, 1) := by decide +kernel
theorem dX5_sign_35 : decode cX5_sign 35 = .ok (.getfield 26, 3) := by decide +kernel
theorem dX5_sign_38 : decode cX5_sign 38 = .ok (.baload, 1) := by decide +kernel
theorem dX5_sign_39 : decode cX5_sign 39 = .ok (.goto 4, 3) := by decide +kernel
theorem dX5_sign_42 : decode cX5_sign 42 = .ok (.iconst (-1), 1) := by decide +kernel
theorem dX5_sign_43 : decode cX5_sign 43 = .ok (.ireturn, 1) := by decide +kernel
theorem dX5_digit_0 : decode cX5_digit 0 = .ok (.aload_n 0, 1) := by decide +kernel
theorem dX5_digit_1 : decode cX5_digit 1 = .ok (.invokevirtual 33, 3) := by decide +kernel
theorem dX5_digit_4 : decode cX5_digit 4 = .ok (.istore_n 1, 1) := by decide +kernel
theorem dX5_digit_5 : decode cX5_digit 5 = .ok (.iload_n 1, 1) := by decide +kernel
theorem dX5_digit_6 : decode cX5_digit 6 = .ok (.bipush 48, 2) := by decide +kernel
theorem dX5_digit_8 : decode cX5_digit 8 = .ok (.if_icmp .lt 16, 3) := by decide +kernel
theorem dX5_digit_11 : decode cX5_digit 11 = .ok (.iload_n 1, 1) := by decide +kernel
theorem dX5_digit_12 : decode cX5_digit 12 = .ok (.bipush 57, 2) := by decide +kernel
theorem dX5_digit_14 : decode cX5_digit 14 = .ok (.if_icmp .gt 10, 3) := by decide +kernel
theorem dX5_digit_17 : decode cX5_digit 17 = .ok (.iload_n 1, 1) := by decide +kernel
theorem dX5_digit_18 : decode cX5_digit 18 = .ok (.bipush 48, 2) := by decide +kernel
theorem dX5_digit_20 : decode cX5_digit 20 = .ok (.isub, 1) := by decide +kernel
theorem dX5_digit_21 : decode cX5_digit 21 = .ok (.goto 4, 3) := by decide +kernel
theorem dX5_digit_24 : decode cX5_digit 24 = .ok (.iconst (-1), 1) := by decide +kernel
theorem dX5_digit_25 : decode cX5_digit 25 = .ok (.ireturn, 1) := by decide +kernel
theorem dX5_failsAt_0 : decode cX5_failsAt 0 = .ok (.aload_n 0, 1) := by decide +kernel
theorem dX5_failsAt_1 : decode cX5_failsAt 1 = .ok (.iload_n 1, 1) := by decide +kernel
theorem dX5_failsAt_2 : decode cX5_failsAt 2 = .ok (.putfield 9, 3) := by decide +kernel
theorem dX5_failsAt_5 : decode cX5_failsAt 5 = .ok (.iconst 0, 1) := by decide +kernel
theorem dX5_failsAt_6 : decode cX5_failsAt 6 = .ok (.ireturn, 1) := by decide +kernel
theorem dX6_init_0 : decode cX6_init 0 = .ok (.aload_n 0, 1) := by decide +kernel
theorem dX6_init_1 : decode cX6_init 1 = .ok (.invokespecial 3, 3) := by decide +kernel
theorem dX6_init_4 : decode cX6_init 4 = .ok (.return_, 1) := by decide +kernel
theorem dX6_reset_0 : decode cX6_reset 0 = .ok (.aload_n 0, 1) := by decide +kernel
theorem dX6_reset_1 : decode cX6_reset 1 = .ok (.iload_n 1, 1) := by decide +kernel
theorem dX6_reset_2 : decode cX6_reset 2 = .ok (.putfield 9, 3) := by decide +kernel
theorem dX6_reset_5 : decode cX6_reset 5 = .ok (.aload_n 0, 1) := by decide +kernel
theorem dX6_reset_6 : decode cX6_reset 6 = .ok (.iconst 1, 1) := by decide +kernel
theorem dX6_reset_7 : decode cX6_reset 7 = .ok (.putfield 15, 3) := by decide +kernel
theorem dX6_reset_10 : decode cX6_reset 10 = .ok (.aload_n 0, 1) := by decide +kernel
theorem dX6_reset_11 : decode cX6_reset 11 = .ok (.iconst 0, 1) := by decide +kernel
theorem dX6_reset_12 : decode cX6_reset 12 = .ok (.putfield 19, 3) := by decide +kernel
theorem dX6_reset_15 : decode cX6_reset 15 = .ok (.aload_n 0, 1) := by decide +kernel
theorem dX6_reset_16 : decode cX6_reset 16 = .ok (.iload_n 1, 1) := by decide +kernel
theorem dX6_reset_17 : decode cX6_reset 17 = .ok (.putfield 22, 3) := by decide +kernel
theorem dX6_reset_20 : decode cX6_reset 20 = .ok (.aload_n 0, 1) := by decide +kernel
theorem dX6_reset_21 : decode cX6_reset 21 = .ok (.iload_n 1, 1) := by decide +kernel
theorem dX6_reset_22 : decode cX6_reset 22 = .ok (.putfield 25, 3) := by decide +kernel
theorem dX6_reset_25 : decode cX6_reset 25 = .ok (.aload_n 0, 1) := by decide +kernel
theorem dX6_reset_26 : decode cX6_reset 26 = .ok (.iconst (-1), 1) := by decide +kernel
theorem dX6_reset_27 : decode cX6_reset 27 = .ok (.putfield 28, 3) := by decide +kernel
theorem dX6_reset_30 : decode cX6_reset 30 = .ok (.aload_n 0, 1) := by decide +kernel
theorem dX6_reset_31 : decode cX6_reset 31 = .ok (.iconst 0, 1) := by decide +kernel
theorem dX6_reset_32 : decode cX6_reset 32 = .ok (.putfield 31, 3) := by decide +kernel
theorem dX6_reset_35 : decode cX6_reset 35 = .ok (.aload_n 0, 1) := by decide +kernel
theorem dX6_reset_36 : decode cX6_reset 36 = .ok (.iconst 0, 1) := by decide +kernel
theorem dX6_reset_37 : decode cX6_reset 37 = .ok (.putfield 34, 3) := by decide +kernel
theorem dX6_reset_40 : decode cX6_reset 40 = .ok (.aload_n 0, 1) := by decide +kernel
theorem dX6_reset_41 : decode cX6_reset 41 = .ok (.iconst (-1), 1) := by decide +kernel
theorem dX6_reset_42 : decode cX6_reset 42 = .ok (.putfield 37, 3) := by decide +kernel
theorem dX6_reset_45 : decode cX6_reset 45 = .ok (.return_, 1) := by decide +kernel
theorem dX6_copyFrom_0 : decode cX6_copyFrom 0 = .ok (.aload_n 0, 1) := by decide +kernel
theorem dX6_copyFrom_1 : decode cX6_copyFrom 1 = .ok (.aload_n 1, 1) := by decide +kernel
theorem dX6_copyFrom_2 : decode cX6_copyFrom 2 = .ok (.getfield 9, 3) := by decide +kernel
theorem dX6_copyFrom_5 : decode cX6_copyFrom 5 = .ok (.putfield 9, 3) := by decide +kernel
theorem dX6_copyFrom_8 : decode cX6_copyFrom 8 = .ok (.aload_n 0, 1) := by decide +kernel
theorem dX6_copyFrom_9 : decode cX6_copyFrom 9 = .ok (.aload_n 1, 1) := by decide +kernel
theorem dX6_copyFrom_10 : decode cX6_copyFrom 10 = .ok (.getfield 15, 3) := by decide +kernel
theorem dX6_copyFrom_13 : decode cX6_copyFrom 13 = .ok (.putfield 15, 3) := by decide +kernel
theorem dX6_copyFrom_16 : decode cX6_copyFrom 16 = .ok (.aload_n 0, 1) := by decide +kernel
theorem dX6_copyFrom_17 : decode cX6_copyFrom 17 = .ok (.aload_n 1, 1) := by decide +kernel
theorem dX6_copyFrom_18 : decode cX6_copyFrom 18 = .ok (.getfield 19, 3) := by decide +kernel
theorem dX6_copyFrom_21 : decode cX6_copyFrom 21 = .ok (.putfield 19, 3) := by decide +kernel
theorem dX6_copyFrom_24 : decode cX6_copyFrom 24 = .ok (.aload_n 0, 1) := by decide +kernel
theorem dX6_copyFrom_25 : decode cX6_copyFrom 25 = .ok (.aload_n 1, 1) := by decide +kernel
theorem dX6_copyFrom_26 : decode cX6_copyFrom 26 = .ok (.getfield 22, 3) := by decide +kernel
theorem dX6_copyFrom_29 : decode cX6_copyFrom 29 = .ok (.putfield 22, 3) := by decide +kernel
theorem dX6_copyFrom_32 : decode cX6_copyFrom 32 = .ok (.aload_n 0, 1) := by decide +kernel
theorem dX6_copyFrom_33 : decode cX6_copyFrom 33 = .ok (.aload_n 1, 1) := by decide +kernel
theorem dX6_copyFrom_34 : decode cX6_copyFrom 34 = .ok (.getfield 25, 3) := by decide +kernel
theorem dX6_copyFrom_37 : decode cX6_copyFrom 37 = .ok (.putfield 25, 3) := by decide +kernel
theorem dX6_copyFrom_40 : decode cX6_copyFrom 40 = .ok (.aload_n 0, 1) := by decide +kernel
theorem dX6_copyFrom_41 : decode cX6_copyFrom 41 = .ok (.aload_n 1, 1) := by decide +kernel
theorem dX6_copyFrom_42 : decode cX6_copyFrom 42 = .ok (.getfield 28, 3) := by decide +kernel
theorem dX6_copyFrom_45 : decode cX6_copyFrom 45 = .ok (.putfield 28, 3) := by decide +kernel
theorem dX6_copyFrom_48 : decode cX6_copyFrom 48 = .ok (.aload_n 0, 1) := by decide +kernel
theorem dX6_copyFrom_49 : decode cX6_copyFrom 49 = .ok (.aload_n 1, 1) := by decide +kernel
theorem dX6_copyFrom_50 : decode cX6_copyFrom 50 = .ok (.getfield 31, 3) := by decide +kernel
theorem dX6_copyFrom_53 : decode cX6_copyFrom 53 = .ok (.putfield 31, 3) := by decide +kernel
theorem dX6_copyFrom_56 : decode cX6_copyFrom 56 = .ok (.aload_n 0, 1) := by decide +kernel
theorem dX6_copyFrom_57 : decode cX6_copyFrom 57 = .ok (.aload_n 1, 1) := by decide +kernel
theorem dX6_copyFrom_58 : decode cX6_copyFrom 58 = .ok (.getfield 34, 3) := by decide +kernel
theorem dX6_copyFrom_61 : decode cX6_copyFrom 61 = .ok (.putfield 34, 3) := by decide +kernel
theorem dX6_copyFrom_64 : decode cX6_copyFrom 64 = .ok (.aload_n 0, 1) := by decide +kernel
theorem dX6_copyFrom_65 : decode cX6_copyFrom 65 = .ok (.aload_n 1, 1) := by decide +kernel
theorem dX6_copyFrom_66 : decode cX6_copyFrom 66 = .ok (.getfield 37, 3) := by decide +kernel
theorem dX6_copyFrom_69 : decode cX6_copyFrom 69 = .ok (.putfield 37, 3) := by decide +kernel
theorem dX6_copyFrom_72 : decode cX6_copyFrom 72 = .ok (.return_, 1) := by decide +kernel
theorem dX6_value_0 : decode cX6_value 0 = .ok (.iload_n 1, 1) := by decide +kernel
theorem dX6_value_1 : decode cX6_value 1 = .ok (.tableswitch 85 0 5 #[39, 52, 65, 70, 75, 80], 39) := by decide +kernel
theorem dX6_value_40 : decode cX6_value 40 = .ok (.aload_n 0, 1) := by decide +kernel
theorem dX6_value_41 : decode cX6_value 41 = .ok (.getfield 15, 3) := by decide +kernel
theorem dX6_value_44 : decode cX6_value 44 = .ok (.ifCond .eq 7, 3) := by decide +kernel
theorem dX6_value_47 : decode cX6_value 47 = .ok (.iconst 1, 1) := by decide +kernel
theorem dX6_value_48 : decode cX6_value 48 = .ok (.goto 4, 3) := by decide +kernel
theorem dX6_value_51 : decode cX6_value 51 = .ok (.iconst 0, 1) := by decide +kernel
theorem dX6_value_52 : decode cX6_value 52 = .ok (.ireturn, 1) := by decide +kernel
theorem dX6_value_53 : decode cX6_value 53 = .ok (.aload_n 0, 1) := by decide +kernel
theorem dX6_value_54 : decode cX6_value 54 = .ok (.getfield 19, 3) := by decide +kernel
theorem dX6_value_57 : decode cX6_value 57 = .ok (.ifCond .eq 7, 3) := by decide +kernel
theorem dX6_value_60 : decode cX6_value 60 = .ok (.iconst 1, 1) := by decide +kernel
theorem dX6_value_61 : decode cX6_value 61 = .ok (.goto 4, 3) := by decide +kernel
theorem dX6_value_64 : decode cX6_value 64 = .ok (.iconst 0, 1) := by decide +kernel
theorem dX6_value_65 : decode cX6_value 65 = .ok (.ireturn, 1) := by decide +kernel
theorem dX6_value_66 : decode cX6_value 66 = .ok (.aload_n 0, 1) := by decide +kernel
theorem dX6_value_67 : decode cX6_value 67 = .ok (.getfield 22, 3) := by decide +kernel
theorem dX6_value_70 : decode cX6_value 70 = .ok (.ireturn, 1) := by decide +kernel
theorem dX6_value_71 : decode cX6_value 71 = .ok (.aload_n 0, 1) := by decide +kernel
theorem dX6_value_72 : decode cX6_value 72 = .ok (.getfield 25, 3) := by decide +kernel
theorem dX6_value_75 : decode cX6_value 75 = .ok (.ireturn, 1) := by decide +kernel
theorem dX6_value_76 : decode cX6_value 76 = .ok (.aload_n 0, 1) := by decide +kernel
theorem dX6_value_77 : decode cX6_value 77 = .ok (.getfield 31, 3) := by decide +kernel
theorem dX6_value_80 : decode cX6_value 80 = .ok (.ireturn, 1) := by decide +kernel
theorem dX6_value_81 : decode cX6_value 81 = .ok (.aload_n 0, 1) := by decide +kernel
theorem dX6_value_82 : decode cX6_value 82 = .ok (.getfield 34, 3) := by decide +kernel
theorem dX6_value_85 : decode cX6_value 85 = .ok (.ireturn, 1) := by decide +kernel
theorem dX6_value_86 : decode cX6_value 86 = .ok (.aload_n 0, 1) := by decide +kernel
theorem dX6_value_87 : decode cX6_value 87 = .ok (.getfield 37, 3) := by decide +kernel
theorem dX6_value_90 : decode cX6_value 90 = .ok (.ireturn, 1) := by decide +kernel
theorem dX7_init_0 : decode cX7_init 0 = .ok (.aload_n 0, 1) := by decide +kernel
theorem dX7_init_1 : decode cX7_init 1 = .ok (.invokespecial 3, 3) := by decide +kernel
theorem dX7_init_4 : decode cX7_init 4 = .ok (.aload_n 0, 1) := by decide +kernel
theorem dX7_init_5 : decode cX7_init 5 = .ok (.iload_n 2, 1) := by decide +kernel
theorem dX7_init_6 : decode cX7_init 6 = .ok (.putfield 9, 3) := by decide +kernel
theorem dX7_init_9 : decode cX7_init 9 = .ok (.aload_n 0, 1) := by decide +kernel
theorem dX7_init_10 : decode cX7_init 10 = .ok (.iload_n 1, 1) := by decide +kernel
theorem dX7_init_11 : decode cX7_init 11 = .ok (.iload_n 2, 1) := by decide +kernel
theorem dX7_init_12 : decode cX7_init 12 = .ok (.imul, 1) := by decide +kernel
theorem dX7_init_13 : decode cX7_init 13 = .ok (.newarray .int, 2) := by decide +kernel
theorem dX7_init_15 : decode cX7_init 15 = .ok (.putfield 15, 3) := by decide +kernel
theorem dX7_init_18 : decode cX7_init 18 = .ok (.return_, 1) := by decide +kernel
theorem dX7_at_0 : decode cX7_at 0 = .ok (.iload_n 1, 1) := by decide +kernel
theorem dX7_at_1 : decode cX7_at 1 = .ok (.aload_n 0, 1) := by decide +kernel
theorem dX7_at_2 : decode cX7_at 2 = .ok (.getfield 9, 3) := by decide +kernel
theorem dX7_at_5 : decode cX7_at 5 = .ok (.imul, 1) := by decide +kernel
theorem dX7_at_6 : decode cX7_at 6 = .ok (.iload_n 2, 1) := by decide +kernel
theorem dX7_at_7 : decode cX7_at 7 = .ok (.iadd, 1) := by decide +kernel
theorem dX7_at_8 : decode cX7_at 8 = .ok (.istore_n 3, 1) := by decide +kernel
theorem dX7_at_9 : decode cX7_at 9 = .ok (.iload_n 3, 1) := by decide +kernel
theorem dX7_at_10 : decode cX7_at 10 = .ok (.ifCond .lt 21, 3) := by decide +kernel
theorem dX7_at_13 : decode cX7_at 13 = .ok (.iload_n 3, 1) := by decide +kernel
theorem dX7_at_14 : decode cX7_at 14 = .ok (.aload_n 0, 1) := by decide +kernel
theorem dX7_at_15 : decode cX7_at 15 = .ok (.getfield 15, 3) := by decide +kernel
theorem dX7_at_18 : decode cX7_at 18 = .ok (.arraylength, 1) := by decide +kernel
theorem dX7_at_19 : decode cX7_at 19 = .ok (.if_icmp .ge 12, 3) := by decide +kernel
theorem dX7_at_22 : decode cX7_at 22 = .ok (.aload_n 0, 1) := by decide +kernel
theorem dX7_at_23 : decode cX7_at 23 = .ok (.getfield 15, 3) := by decide +kernel
theorem dX7_at_26 : decode cX7_at 26 = .ok (.iload_n 3, 1) := by decide +kernel
theorem dX7_at_27 : decode cX7_at 27 = .ok (.iaload, 1) := by decide +kernel
theorem dX7_at_28 : decode cX7_at 28 = .ok (.goto 4, 3) := by decide +kernel
theorem dX7_at_31 : decode cX7_at 31 = .ok (.iconst (-1), 1) := by decide +kernel
theorem dX7_at_32 : decode cX7_at 32 = .ok (.ireturn, 1) := by decide +kernel
theorem dX7_put_0 : decode cX7_put 0 = .ok (.iload_n 1, 1) := by decide +kernel
theorem dX7_put_1 : decode cX7_put 1 = .ok (.aload_n 0, 1) := by decide +kernel
theorem dX7_put_2 : decode cX7_put 2 = .ok (.getfield 9, 3) := by decide +kernel
theorem dX7_put_5 : decode cX7_put 5 = .ok (.imul, 1) := by decide +kernel
theorem dX7_put_6 : decode cX7_put 6 = .ok (.iload_n 2, 1) := by decide +kernel
theorem dX7_put_7 : decode cX7_put 7 = .ok (.iadd, 1) := by decide +kernel
theorem dX7_put_8 : decode cX7_put 8 = .ok (.istore 4, 2) := by decide +kernel
theorem dX7_put_10 : decode cX7_put 10 = .ok (.iload 4, 2) := by decide +kernel
theorem dX7_put_12 : decode cX7_put 12 = .ok (.ifCond .lt 21, 3) := by decide +kernel
theorem dX7_put_15 : decode cX7_put 15 = .ok (.iload 4, 2) := by decide +kernel
theorem dX7_put_17 : decode cX7_put 17 = .ok (.aload_n 0, 1) := by decide +kernel
theorem dX7_put_18 : decode cX7_put 18 = .ok (.getfield 15, 3) := by decide +kernel
theorem dX7_put_21 : decode cX7_put 21 = .ok (.arraylength, 1) := by decide +kernel
theorem dX7_put_22 : decode cX7_put 22 = .ok (.if_icmp .ge 11, 3) := by decide +kernel
theorem dX7_put_25 : decode cX7_put 25 = .ok (.aload_n 0, 1) := by decide +kernel
theorem dX7_put_26 : decode cX7_put 26 = .ok (.getfield 15, 3) := by decide +kernel
theorem dX7_put_29 : decode cX7_put 29 = .ok (.iload 4, 2) := by decide +kernel
theorem dX7_put_31 : decode cX7_put 31 = .ok (.iload_n 3, 1) := by decide +kernel
theorem dX7_put_32 : decode cX7_put 32 = .ok (.iastore, 1) := by decide +kernel
theorem dX7_put_33 : decode cX7_put 33 = .ok (.return_, 1) := by decide +kernel
theorem dX7_copyFrom_0 : decode cX7_copyFrom 0 = .ok (.aload_n 0, 1) := by decide +kernel
theorem dX7_copyFrom_1 : decode cX7_copyFrom 1 = .ok (.getfield 15, 3) := by decide +kernel
theorem dX7_copyFrom_4 : decode cX7_copyFrom 4 = .ok (.arraylength, 1) := by decide +kernel
theorem dX7_copyFrom_5 : decode cX7_copyFrom 5 = .ok (.aload_n 1, 1) := by decide +kernel
theorem dX7_copyFrom_6 : decode cX7_copyFrom 6 = .ok (.getfield 15, 3) := by decide +kernel
theorem dX7_copyFrom_9 : decode cX7_copyFrom 9 = .ok (.arraylength, 1) := by decide +kernel
theorem dX7_copyFrom_10 : decode cX7_copyFrom 10 = .ok (.invokestatic 19, 3) := by decide +kernel
theorem dX7_copyFrom_13 : decode cX7_copyFrom 13 = .ok (.istore_n 3, 1) := by decide +kernel
theorem dX7_copyFrom_14 : decode cX7_copyFrom 14 = .ok (.iconst 0, 1) := by decide +kernel
theorem dX7_copyFrom_15 : decode cX7_copyFrom 15 = .ok (.iload_n 3, 1) := by decide +kernel
theorem dX7_copyFrom_16 : decode cX7_copyFrom 16 = .ok (.iload_n 2, 1) := by decide +kernel
theorem dX7_copyFrom_17 : decode cX7_copyFrom 17 = .ok (.aload_n 0, 1) := by decide +kernel
theorem dX7_copyFrom_18 : decode cX7_copyFrom 18 = .ok (.getfield 9, 3) := by decide +kernel
theorem dX7_copyFrom_21 : decode cX7_copyFrom 21 = .ok (.imul, 1) := by decide +kernel
theorem dX7_copyFrom_22 : decode cX7_copyFrom 22 = .ok (.invokestatic 19, 3) := by decide +kernel
theorem dX7_copyFrom_25 : decode cX7_copyFrom 25 = .ok (.invokestatic 25, 3) := by decide +kernel
theorem dX7_copyFrom_28 : decode cX7_copyFrom 28 = .ok (.istore 4, 2) := by decide +kernel
theorem dX7_copyFrom_30 : decode cX7_copyFrom 30 = .ok (.aload_n 1, 1) := by decide +kernel
theorem dX7_copyFrom_31 : decode cX7_copyFrom 31 = .ok (.getfield 15, 3) := by decide +kernel
theorem dX7_copyFrom_34 : decode cX7_copyFrom 34 = .ok (.iconst 0, 1) := by decide +kernel
theorem dX7_copyFrom_35 : decode cX7_copyFrom 35 = .ok (.aload_n 0, 1) := by decide +kernel
theorem dX7_copyFrom_36 : decode cX7_copyFrom 36 = .ok (.getfield 15, 3) := by decide +kernel
theorem dX7_copyFrom_39 : decode cX7_copyFrom 39 = .ok (.iconst 0, 1) := by decide +kernel
theorem dX7_copyFrom_40 : decode cX7_copyFrom 40 = .ok (.iload 4, 2) := by decide +kernel
theorem dX7_copyFrom_42 : decode cX7_copyFrom 42 = .ok (.invokestatic 28, 3) := by decide +kernel
theorem dX7_copyFrom_45 : decode cX7_copyFrom 45 = .ok (.return_, 1) := by decide +kernel
theorem dX8_makeVisit_0 : decode cX8_makeVisit 0 = .ok (.aload_n 0, 1) := by decide +kernel
theorem dX8_makeVisit_1 : decode cX8_makeVisit 1 = .ok (.aload_n 0, 1) := by decide +kernel
theorem dX8_makeVisit_2 : decode cX8_makeVisit 2 = .ok (.getfield 9, 3) := by decide +kernel
theorem dX8_makeVisit_5 : decode cX8_makeVisit 5 = .ok (.invokevirtual 15, 3) := by decide +kernel
theorem dX8_makeVisit_8 : decode cX8_makeVisit 8 = .ok (.astore_n 1, 1) := by decide +kernel
theorem dX8_makeVisit_9 : decode cX8_makeVisit 9 = .ok (.aload_n 1, 1) := by decide +kernel
theorem dX8_makeVisit_10 : decode cX8_makeVisit 10 = .ok (.ifnonnull 8, 3) := by decide +kernel
theorem dX8_makeVisit_13 : decode cX8_makeVisit 13 = .ok (.aload_n 0, 1) := by decide +kernel
theorem dX8_makeVisit_14 : decode cX8_makeVisit 14 = .ok (.invokestatic 19, 3) := by decide +kernel
theorem dX8_makeVisit_17 : decode cX8_makeVisit 17 = .ok (.astore_n 1, 1) := by decide +kernel
theorem dX8_makeVisit_18 : decode cX8_makeVisit 18 = .ok (.aload_n 1, 1) := by decide +kernel
theorem dX8_makeVisit_19 : decode cX8_makeVisit 19 = .ok (.ifnonnull 4, 3) := by decide +kernel
theorem dX8_makeVisit_22 : decode cX8_makeVisit 22 = .ok (.return_, 1) := by decide +kernel
theorem dX8_makeVisit_23 : decode cX8_makeVisit 23 = .ok (.aload_n 0, 1) := by decide +kernel
theorem dX8_makeVisit_24 : decode cX8_makeVisit 24 = .ok (.getfield 25, 3) := by decide +kernel
theorem dX8_makeVisit_27 : decode cX8_makeVisit 27 = .ok (.istore_n 2, 1) := by decide +kernel
theorem dX8_makeVisit_28 : decode cX8_makeVisit 28 = .ok (.aload_n 0, 1) := by decide +kernel
theorem dX8_makeVisit_29 : decode cX8_makeVisit 29 = .ok (.aload_n 1, 1) := by decide +kernel
theorem dX8_makeVisit_30 : decode cX8_makeVisit 30 = .ok (.invokestatic 28, 3) := by decide +kernel
theorem dX8_makeVisit_33 : decode cX8_makeVisit 33 = .ok (.istore_n 3, 1) := by decide +kernel
theorem dX8_makeVisit_34 : decode cX8_makeVisit 34 = .ok (.aload_n 0, 1) := by decide +kernel
theorem dX8_makeVisit_35 : decode cX8_makeVisit 35 = .ok (.aload_n 1, 1) := by decide +kernel
theorem dX8_makeVisit_36 : decode cX8_makeVisit 36 = .ok (.aload_n 0, 1) := by decide +kernel
theorem dX8_makeVisit_37 : decode cX8_makeVisit 37 = .ok (.getfield 32, 3) := by decide +kernel
theorem dX8_makeVisit_40 : decode cX8_makeVisit 40 = .ok (.iload_n 3, 1) := by decide +kernel
theorem dX8_makeVisit_41 : decode cX8_makeVisit 41 = .ok (.isub, 1) := by decide +kernel
theorem dX8_makeVisit_42 : decode cX8_makeVisit 42 = .ok (.invokestatic 35, 3) := by decide +kernel
theorem dX8_makeVisit_45 : decode cX8_makeVisit 45 = .ok (.istore 4, 2) := by decide +kernel
theorem dX8_makeVisit_47 : decode cX8_makeVisit 47 = .ok (.aload_n 0, 1) := by decide +kernel
theorem dX8_makeVisit_48 : decode cX8_makeVisit 48 = .ok (.aload_n 1, 1) := by decide +kernel
theorem dX8_makeVisit_49 : decode cX8_makeVisit 49 = .ok (.invokestatic 39, 3) := by decide +kernel
theorem dX8_makeVisit_52 : decode cX8_makeVisit 52 = .ok (.aload_n 0, 1) := by decide +kernel
theorem dX8_makeVisit_53 : decode cX8_makeVisit 53 = .ok (.aload_n 1, 1) := by decide +kernel
theorem dX8_makeVisit_54 : decode cX8_makeVisit 54 = .ok (.invokestatic 43, 3) := by decide +kernel
theorem dX8_makeVisit_57 : decode cX8_makeVisit 57 = .ok (.ifCond .ne 13, 3) := by decide +kernel
theorem dX8_makeVisit_60 : decode cX8_makeVisit 60 = .ok (.aload_n 0, 1) := by decide +kernel
theorem dX8_makeVisit_61 : decode cX8_makeVisit 61 = .ok (.aload_n 1, 1) := by decide +kernel
theorem dX8_makeVisit_62 : decode cX8_makeVisit 62 = .ok (.invokestatic 47, 3) := by decide +kernel
theorem dX8_makeVisit_65 : decode cX8_makeVisit 65 = .ok (.aload_n 0, 1) := by decide +kernel
theorem dX8_makeVisit_66 : decode cX8_makeVisit 66 = .ok (.aload_n 1, 1) := by decide +kernel
theorem dX8_makeVisit_67 : decode cX8_makeVisit 67 = .ok (.invokestatic 50, 3) := by decide +kernel
theorem dX8_makeVisit_70 : decode cX8_makeVisit 70 = .ok (.aload_n 0, 1) := by decide +kernel
theorem dX8_makeVisit_71 : decode cX8_makeVisit 71 = .ok (.iload_n 2, 1) := by decide +kernel
theorem dX8_makeVisit_72 : decode cX8_makeVisit 72 = .ok (.aload_n 1, 1) := by decide +kernel
theorem dX8_makeVisit_73 : decode cX8_makeVisit 73 = .ok (.getfield 53, 3) := by decide +kernel
theorem dX8_makeVisit_76 : decode cX8_makeVisit 76 = .ok (.iload_n 3, 1) := by decide +kernel
theorem dX8_makeVisit_77 : decode cX8_makeVisit 77 = .ok (.iload 4, 2) := by decide +kernel
theorem dX8_makeVisit_79 : decode cX8_makeVisit 79 = .ok (.invokevirtual 58, 3) := by decide +kernel
theorem dX8_makeVisit_82 : decode cX8_makeVisit 82 = .ok (.return_, 1) := by decide +kernel
theorem dX8_makeAnew_0 : decode cX8_makeAnew 0 = .ok (.aload_n 0, 1) := by decide +kernel
theorem dX8_makeAnew_1 : decode cX8_makeAnew 1 = .ok (.iconst 1, 1) := by decide +kernel
theorem dX8_makeAnew_2 : decode cX8_makeAnew 2 = .ok (.invokestatic 62, 3) := by decide +kernel
theorem dX8_makeAnew_5 : decode cX8_makeAnew 5 = .ok (.astore_n 1, 1) := by decide +kernel
theorem dX8_makeAnew_6 : decode cX8_makeAnew 6 = .ok (.aload_n 1, 1) := by decide +kernel
theorem dX8_makeAnew_7 : decode cX8_makeAnew 7 = .ok (.ifnonnull 9, 3) := by decide +kernel
theorem dX8_makeAnew_10 : decode cX8_makeAnew 10 = .ok (.aload_n 0, 1) := by decide +kernel
theorem dX8_makeAnew_11 : decode cX8_makeAnew 11 = .ok (.iconst 0, 1) := by decide +kernel
theorem dX8_makeAnew_12 : decode cX8_makeAnew 12 = .ok (.invokestatic 62, 3) := by decide +kernel
theorem dX8_makeAnew_15 : decode cX8_makeAnew 15 = .ok (.astore_n 1, 1) := by decide +kernel
theorem dX8_makeAnew_16 : decode cX8_makeAnew 16 = .ok (.aload_n 1, 1) := by decide +kernel
theorem dX8_makeAnew_17 : decode cX8_makeAnew 17 = .ok (.ifnonnull 5, 3) := by decide +kernel
theorem dX8_makeAnew_20 : decode cX8_makeAnew 20 = .ok (.aconst_null, 1) := by decide +kernel
theorem dX8_makeAnew_21 : decode cX8_makeAnew 21 = .ok (.areturn, 1) := by decide +kernel
theorem dX8_makeAnew_22 : decode cX8_makeAnew 22 = .ok (.aload_n 0, 1) := by decide +kernel
theorem dX8_makeAnew_23 : decode cX8_makeAnew 23 = .ok (.dup, 1) := by decide +kernel
theorem dX8_makeAnew_24 : decode cX8_makeAnew 24 = .ok (.getfield 25, 3) := by decide +kernel
theorem dX8_makeAnew_27 : decode cX8_makeAnew 27 = .ok (.aload_n 0, 1) := by decide +kernel
theorem dX8_makeAnew_28 : decode cX8_makeAnew 28 = .ok (.getfield 66, 3) := by decide +kernel
theorem dX8_makeAnew_31 : decode cX8_makeAnew 31 = .ok (.bipush 6, 2) := by decide +kernel
theorem dX8_makeAnew_33 : decode cX8_makeAnew 33 = .ok (.iconst 2, 1) := by decide +kernel
theorem dX8_makeAnew_34 : decode cX8_makeAnew 34 = .ok (.aload_n 1, 1) := by decide +kernel
theorem dX8_makeAnew_35 : decode cX8_makeAnew 35 = .ok (.getfield 53, 3) := by decide +kernel
theorem dX8_makeAnew_38 : decode cX8_makeAnew 38 = .ok (.imul, 1) := by decide +kernel
theorem dX8_makeAnew_39 : decode cX8_makeAnew 39 = .ok (.iadd, 1) := by decide +kernel
theorem dX8_makeAnew_40 : decode cX8_makeAnew 40 = .ok (.imul, 1) := by decide +kernel
theorem dX8_makeAnew_41 : decode cX8_makeAnew 41 = .ok (.iadd, 1) := by decide +kernel
theorem dX8_makeAnew_42 : decode cX8_makeAnew 42 = .ok (.putfield 25, 3) := by decide +kernel
theorem dX8_makeAnew_45 : decode cX8_makeAnew 45 = .ok (.aload_n 1, 1) := by decide +kernel
theorem dX8_makeAnew_46 : decode cX8_makeAnew 46 = .ok (.getfield 69, 3) := by decide +kernel
theorem dX8_makeAnew_49 : decode cX8_makeAnew 49 = .ok (.ifCond .ne 16, 3) := by decide +kernel
theorem dX8_makeAnew_52 : decode cX8_makeAnew 52 = .ok (.aload_n 1, 1) := by decide +kernel
theorem dX8_makeAnew_53 : decode cX8_makeAnew 53 = .ok (.iconst 1, 1) := by decide +kernel
theorem dX8_makeAnew_54 : decode cX8_makeAnew 54 = .ok (.putfield 69, 3) := by decide +kernel
theorem dX8_makeAnew_57 : decode cX8_makeAnew 57 = .ok (.aload_n 1, 1) := by decide +kernel
theorem dX8_makeAnew_58 : decode cX8_makeAnew 58 = .ok (.aload_n 1, 1) := by decide +kernel
theorem dX8_makeAnew_59 : decode cX8_makeAnew 59 = .ok (.getfield 53, 3) := by decide +kernel
theorem dX8_makeAnew_62 : decode cX8_makeAnew 62 = .ok (.putfield 73, 3) := by decide +kernel
theorem dX8_makeAnew_65 : decode cX8_makeAnew 65 = .ok (.aload_n 0, 1) := by decide +kernel
theorem dX8_makeAnew_66 : decode cX8_makeAnew 66 = .ok (.aload_n 1, 1) := by decide +kernel
theorem dX8_makeAnew_67 : decode cX8_makeAnew 67 = .ok (.getfield 53, 3) := by decide +kernel
theorem dX8_makeAnew_70 : decode cX8_makeAnew 70 = .ok (.putfield 9, 3) := by decide +kernel
theorem dX8_makeAnew_73 : decode cX8_makeAnew 73 = .ok (.aload_n 0, 1) := by decide +kernel
theorem dX8_makeAnew_74 : decode cX8_makeAnew 74 = .ok (.getfield 76, 3) := by decide +kernel
theorem dX8_makeAnew_77 : decode cX8_makeAnew 77 = .ok (.dup, 1) := by decide +kernel
theorem dX8_makeAnew_78 : decode cX8_makeAnew 78 = .ok (.getfield 80, 3) := by decide +kernel
theorem dX8_makeAnew_81 : decode cX8_makeAnew 81 = .ok (.iconst 1, 1) := by decide +kernel
theorem dX8_makeAnew_82 : decode cX8_makeAnew 82 = .ok (.iadd, 1) := by decide +kernel
theorem dX8_makeAnew_83 : decode cX8_makeAnew 83 = .ok (.putfield 80, 3) := by decide +kernel
theorem dX8_makeAnew_86 : decode cX8_makeAnew 86 = .ok (.aload_n 1, 1) := by decide +kernel
theorem dX8_makeAnew_87 : decode cX8_makeAnew 87 = .ok (.areturn, 1) := by decide +kernel
theorem dX8_lowest_0 : decode cX8_lowest 0 = .ok (.iconst 0, 1) := by decide +kernel
theorem dX8_lowest_1 : decode cX8_lowest 1 = .ok (.istore_n 2, 1) := by decide +kernel
theorem dX8_lowest_2 : decode cX8_lowest 2 = .ok (.iload_n 2, 1) := by decide +kernel
theorem dX8_lowest_3 : decode cX8_lowest 3 = .ok (.aload_n 0, 1) := by decide +kernel
theorem dX8_lowest_4 : decode cX8_lowest 4 = .ok (.getfield 85, 3) := by decide +kernel
theorem dX8_lowest_7 : decode cX8_lowest 7 = .ok (.if_icmp .ge 39, 3) := by decide +kernel
theorem dX8_lowest_10 : decode cX8_lowest 10 = .ok (.aload_n 0, 1) := by decide +kernel
theorem dX8_lowest_11 : decode cX8_lowest 11 = .ok (.iload_n 2, 1) := by decide +kernel
theorem dX8_lowest_12 : decode cX8_lowest 12 = .ok (.invokevirtual 88, 3) := by decide +kernel
theorem dX8_lowest_15 : decode cX8_lowest 15 = .ok (.astore_n 3, 1) := by decide +kernel
theorem dX8_lowest_16 : decode cX8_lowest 16 = .ok (.aload_n 3, 1) := by decide +kernel
theorem dX8_lowest_17 : decode cX8_lowest 17 = .ok (.ifnull 23, 3) := by decide +kernel
theorem dX8_lowest_20 : decode cX8_lowest 20 = .ok (.aload_n 3, 1) := by decide +kernel
theorem dX8_lowest_21 : decode cX8_lowest 21 = .ok (.getfield 91, 3) := by decide +kernel
theorem dX8_lowest_24 : decode cX8_lowest 24 = .ok (.ifCond .eq 16, 3) := by decide +kernel
theorem dX8_lowest_27 : decode cX8_lowest 27 = .ok (.aload_n 3, 1) := by decide +kernel
theorem dX8_lowest_28 : decode cX8_lowest 28 = .ok (.getfield 69, 3) := by decide +kernel
theorem dX8_lowest_31 : decode cX8_lowest 31 = .ok (.ifCond .ne 7, 3) := by decide +kernel
theorem dX8_lowest_34 : decode cX8_lowest 34 = .ok (.iload_n 1, 1) := by decide +kernel
theorem dX8_lowest_35 : decode cX8_lowest 35 = .ok (.ifCond .ne 5, 3) := by decide +kernel
theorem dX8_lowest_38 : decode cX8_lowest 38 = .ok (.aload_n 3, 1) := by decide +kernel
theorem dX8_lowest_39 : decode cX8_lowest 39 = .ok (.areturn, 1) := by decide +kernel
theorem dX8_lowest_40 : decode cX8_lowest 40 = .ok (.iinc 2 1, 3) := by decide +kernel
theorem dX8_lowest_43 : decode cX8_lowest 43 = .ok (.goto (-41), 3) := by decide +kernel
theorem dX8_lowest_46 : decode cX8_lowest 46 = .ok (.aconst_null, 1) := by decide +kernel
theorem dX8_lowest_47 : decode cX8_lowest 47 = .ok (.areturn, 1) := by decide +kernel
theorem dX8_beginVisit_0 : decode cX8_beginVisit 0 = .ok (.aload_n 1, 1) := by decide +kernel
theorem dX8_beginVisit_1 : decode cX8_beginVisit 1 = .ok (.getfield 94, 3) := by decide +kernel
theorem dX8_beginVisit_4 : decode cX8_beginVisit 4 = .ok (.iconst (-1), 1) := by decide +kernel
theorem dX8_beginVisit_5 : decode cX8_beginVisit 5 = .ok (.if_icmp .ne 7, 3) := by decide +kernel
theorem dX8_beginVisit_8 : decode cX8_beginVisit 8 = .ok (.iconst 0, 1) := by decide +kernel
theorem dX8_beginVisit_9 : decode cX8_beginVisit 9 = .ok (.goto 12, 3) := by decide +kernel
theorem dX8_beginVisit_12 : decode cX8_beginVisit 12 = .ok (.aload_n 0, 1) := by decide +kernel
theorem dX8_beginVisit_13 : decode cX8_beginVisit 13 = .ok (.getfield 25, 3) := by decide +kernel
theorem dX8_beginVisit_16 : decode cX8_beginVisit 16 = .ok (.aload_n 1, 1) := by decide +kernel
theorem dX8_beginVisit_17 : decode cX8_beginVisit 17 = .ok (.getfield 94, 3) := by decide +kernel
theorem dX8_beginVisit_20 : decode cX8_beginVisit 20 = .ok (.isub, 1) := by decide +kernel
theorem dX8_beginVisit_21 : decode cX8_beginVisit 21 = .ok (.istore_n 2, 1) := by decide +kernel
theorem dX8_beginVisit_22 : decode cX8_beginVisit 22 = .ok (.aload_n 1, 1) := by decide +kernel
theorem dX8_beginVisit_23 : decode cX8_beginVisit 23 = .ok (.aload_n 0, 1) := by decide +kernel
theorem dX8_beginVisit_24 : decode cX8_beginVisit 24 = .ok (.getfield 25, 3) := by decide +kernel
theorem dX8_beginVisit_27 : decode cX8_beginVisit 27 = .ok (.putfield 94, 3) := by decide +kernel
theorem dX8_beginVisit_30 : decode cX8_beginVisit 30 = .ok (.aload_n 1, 1) := by decide +kernel
theorem dX8_beginVisit_31 : decode cX8_beginVisit 31 = .ok (.dup, 1) := by decide +kernel
theorem dX8_beginVisit_32 : decode cX8_beginVisit 32 = .ok (.getfield 97, 3) := by decide +kernel
theorem dX8_beginVisit_35 : decode cX8_beginVisit 35 = .ok (.iconst 1, 1) := by decide +kernel
theorem dX8_beginVisit_36 : decode cX8_beginVisit 36 = .ok (.iadd, 1) := by decide +kernel
theorem dX8_beginVisit_37 : decode cX8_beginVisit 37 = .ok (.putfield 97, 3) := by decide +kernel
theorem dX8_beginVisit_40 : decode cX8_beginVisit 40 = .ok (.aload_n 0, 1) := by decide +kernel
theorem dX8_beginVisit_41 : decode cX8_beginVisit 41 = .ok (.getfield 76, 3) := by decide +kernel
theorem dX8_beginVisit_44 : decode cX8_beginVisit 44 = .ok (.dup, 1) := by decide +kernel
theorem dX8_beginVisit_45 : decode cX8_beginVisit 45 = .ok (.getfield 100, 3) := by decide +kernel
theorem dX8_beginVisit_48 : decode cX8_beginVisit 48 = .ok (.iconst 1, 1) := by decide +kernel
theorem dX8_beginVisit_49 : decode cX8_beginVisit 49 = .ok (.iadd, 1) := by decide +kernel
theorem dX8_beginVisit_50 : decode cX8_beginVisit 50 = .ok (.putfield 100, 3) := by decide +kernel
theorem dX8_beginVisit_53 : decode cX8_beginVisit 53 = .ok (.aload_n 0, 1) := by decide +kernel
theorem dX8_beginVisit_54 : decode cX8_beginVisit 54 = .ok (.getfield 76, 3) := by decide +kernel
theorem dX8_beginVisit_57 : decode cX8_beginVisit 57 = .ok (.aload_n 0, 1) := by decide +kernel
theorem dX8_beginVisit_58 : decode cX8_beginVisit 58 = .ok (.getfield 76, 3) := by decide +kernel
theorem dX8_beginVisit_61 : decode cX8_beginVisit 61 = .ok (.getfield 101, 3) := by decide +kernel
theorem dX8_beginVisit_64 : decode cX8_beginVisit 64 = .ok (.iload_n 2, 1) := by decide +kernel
theorem dX8_beginVisit_65 : decode cX8_beginVisit 65 = .ok (.invokestatic 104, 3) := by decide +kernel
theorem dX8_beginVisit_68 : decode cX8_beginVisit 68 = .ok (.putfield 101, 3) := by decide +kernel
theorem dX8_beginVisit_71 : decode cX8_beginVisit 71 = .ok (.iload_n 2, 1) := by decide +kernel
theorem dX8_beginVisit_72 : decode cX8_beginVisit 72 = .ok (.ireturn, 1) := by decide +kernel
theorem dX8_sendMessages_0 : decode cX8_sendMessages 0 = .ok (.aload_n 0, 1) := by decide +kernel
theorem dX8_sendMessages_1 : decode cX8_sendMessages 1 = .ok (.getfield 25, 3) := by decide +kernel
theorem dX8_sendMessages_4 : decode cX8_sendMessages 4 = .ok (.istore_n 3, 1) := by decide +kernel
theorem dX8_sendMessages_5 : decode cX8_sendMessages 5 = .ok (.iconst 0, 1) := by decide +kernel
theorem dX8_sendMessages_6 : decode cX8_sendMessages 6 = .ok (.istore 4, 2) := by decide +kernel
theorem dX8_sendMessages_8 : decode cX8_sendMessages 8 = .ok (.aload_n 0, 1) := by decide +kernel
theorem dX8_sendMessages_9 : decode cX8_sendMessages 9 = .ok (.getfield 110, 3) := by decide +kernel
theorem dX8_sendMessages_12 : decode cX8_sendMessages 12 = .ok (.aload_n 1, 1) := by decide +kernel
theorem dX8_sendMessages_13 : decode cX8_sendMessages 13 = .ok (.getfield 114, 3) := by decide +kernel
theorem dX8_sendMessages_16 : decode cX8_sendMessages 16 = .ok (.invokevirtual 117, 3) := by decide +kernel
theorem dX8_sendMessages_19 : decode cX8_sendMessages 19 = .ok (.istore 5, 2) := by decide +kernel
theorem dX8_sendMessages_21 : decode cX8_sendMessages 21 = .ok (.iload 4, 2) := by decide +kernel
theorem dX8_sendMessages_23 : decode cX8_sendMessages 23 = .ok (.bipush 100, 2) := by decide +kernel
theorem dX8_sendMessages_25 : decode cX8_sendMessages 25 = .ok (.if_icmp .ge 48, 3) := by decide +kernel
theorem dX8_sendMessages_28 : decode cX8_sendMessages 28 = .ok (.aload_n 1, 1) := by decide +kernel
theorem dX8_sendMessages_29 : decode cX8_sendMessages 29 = .ok (.getfield 123, 3) := by decide +kernel
theorem dX8_sendMessages_32 : decode cX8_sendMessages 32 = .ok (.ifCond .le 41, 3) := by decide +kernel
theorem dX8_sendMessages_35 : decode cX8_sendMessages 35 = .ok (.iload 5, 2) := by decide +kernel
theorem dX8_sendMessages_37 : decode cX8_sendMessages 37 = .ok (.ifCond .ne 16, 3) := by decide +kernel
theorem dX8_sendMessages_40 : decode cX8_sendMessages 40 = .ok (.aload_n 0, 1) := by decide +kernel
theorem dX8_sendMessages_41 : decode cX8_sendMessages 41 = .ok (.getfield 25, 3) := by decide +kernel
theorem dX8_sendMessages_44 : decode cX8_sendMessages 44 = .ok (.iload_n 3, 1) := by decide +kernel
theorem dX8_sendMessages_45 : decode cX8_sendMessages 45 = .ok (.isub, 1) := by decide +kernel
theorem dX8_sendMessages_46 : decode cX8_sendMessages 46 = .ok (.iload_n 2, 1) := by decide +kernel
theorem dX8_sendMessages_47 : decode cX8_sendMessages 47 = .ok (.if_icmp .lt 6, 3) := by decide +kernel
theorem dX8_sendMessages_50 : decode cX8_sendMessages 50 = .ok (.goto 23, 3) := by decide +kernel
theorem dX8_sendMessages_53 : decode cX8_sendMessages 53 = .ok (.aload_n 0, 1) := by decide +kernel
theorem dX8_sendMessages_54 : decode cX8_sendMessages 54 = .ok (.aload_n 1, 1) := by decide +kernel
theorem dX8_sendMessages_55 : decode cX8_sendMessages 55 = .ok (.invokestatic 126, 3) := by decide +kernel
theorem dX8_sendMessages_58 : decode cX8_sendMessages 58 = .ok (.ifCond .ne 6, 3) := by decide +kernel
theorem dX8_sendMessages_61 : decode cX8_sendMessages 61 = .ok (.goto 12, 3) := by decide +kernel
theorem dX8_sendMessages_64 : decode cX8_sendMessages 64 = .ok (.iconst 0, 1) := by decide +kernel
theorem dX8_sendMessages_65 : decode cX8_sendMessages 65 = .ok (.istore 5, 2) := by decide +kernel
theorem dX8_sendMessages_67 : decode cX8_sendMessages 67 = .ok (.iinc 4 1, 3) := by decide +kernel
theorem dX8_sendMessages_70 : decode cX8_sendMessages 70 = .ok (.goto (-49), 3) := by decide +kernel
theorem dX8_sendMessages_73 : decode cX8_sendMessages 73 = .ok (.iload 4, 2) := by decide +kernel
theorem dX8_sendMessages_75 : decode cX8_sendMessages 75 = .ok (.ireturn, 1) := by decide +kernel
theorem dX8_sendFirst_0 : decode cX8_sendFirst 0 = .ok (.aload_n 0, 1) := by decide +kernel
theorem dX8_sendFirst_1 : decode cX8_sendFirst 1 = .ok (.getfield 110, 3) := by decide +kernel
theorem dX8_sendFirst_4 : decode cX8_sendFirst 4 = .ok (.aload_n 1, 1) := by decide +kernel
theorem dX8_sendFirst_5 : decode cX8_sendFirst 5 = .ok (.getfield 114, 3) := by decide +kernel
theorem dX8_sendFirst_8 : decode cX8_sendFirst 8 = .ok (.iconst 0, 1) := by decide +kernel
theorem dX8_sendFirst_9 : decode cX8_sendFirst 9 = .ok (.invokevirtual 129, 3) := by decide +kernel
theorem dX8_sendFirst_12 : decode cX8_sendFirst 12 = .ok (.istore_n 2, 1) := by decide +kernel
theorem dX8_sendFirst_13 : decode cX8_sendFirst 13 = .ok (.aload_n 0, 1) := by decide +kernel
theorem dX8_sendFirst_14 : decode cX8_sendFirst 14 = .ok (.getfield 25, 3) := by decide +kernel
theorem dX8_sendFirst_17 : decode cX8_sendFirst 17 = .ok (.istore_n 3, 1) := by decide +kernel
theorem dX8_sendFirst_18 : decode cX8_sendFirst 18 = .ok (.aload_n 0, 1) := by decide +kernel
theorem dX8_sendFirst_19 : decode cX8_sendFirst 19 = .ok (.iload_n 2, 1) := by decide +kernel
theorem dX8_sendFirst_20 : decode cX8_sendFirst 20 = .ok (.invokevirtual 132, 3) := by decide +kernel
theorem dX8_sendFirst_23 : decode cX8_sendFirst 23 = .ok (.ifCond .ne 5, 3) := by decide +kernel
theorem dX8_sendFirst_26 : decode cX8_sendFirst 26 = .ok (.iconst 0, 1) := by decide +kernel
theorem dX8_sendFirst_27 : decode cX8_sendFirst 27 = .ok (.ireturn, 1) := by decide +kernel
theorem dX8_sendFirst_28 : decode cX8_sendFirst 28 = .ok (.aload_n 0, 1) := by decide +kernel
theorem dX8_sendFirst_29 : decode cX8_sendFirst 29 = .ok (.getfield 76, 3) := by decide +kernel
theorem dX8_sendFirst_32 : decode cX8_sendFirst 32 = .ok (.iload_n 2, 1) := by decide +kernel
theorem dX8_sendFirst_33 : decode cX8_sendFirst 33 = .ok (.aload_n 0, 1) := by decide +kernel
theorem dX8_sendFirst_34 : decode cX8_sendFirst 34 = .ok (.getfield 110, 3) := by decide +kernel
theorem dX8_sendFirst_37 : decode cX8_sendFirst 37 = .ok (.aload_n 1, 1) := by decide +kernel
theorem dX8_sendFirst_38 : decode cX8_sendFirst 38 = .ok (.iload_n 3, 1) := by decide +kernel
theorem dX8_sendFirst_39 : decode cX8_sendFirst 39 = .ok (.invokevirtual 135, 3) := by decide +kernel
theorem dX8_sendFirst_42 : decode cX8_sendFirst 42 = .ok (.invokevirtual 139, 3) := by decide +kernel
theorem dX8_sendFirst_45 : decode cX8_sendFirst 45 = .ok (.iconst 1, 1) := by decide +kernel
theorem dX8_sendFirst_46 : decode cX8_sendFirst 46 = .ok (.ireturn, 1) := by decide +kernel
theorem dX8_pollGap_0 : decode cX8_pollGap 0 = .ok (.aload_n 0, 1) := by decide +kernel
theorem dX8_pollGap_1 : decode cX8_pollGap 1 = .ok (.getfield 143, 3) := by decide +kernel
theorem dX8_pollGap_4 : decode cX8_pollGap 4 = .ok (.iconst 1, 1) := by decide +kernel
theorem dX8_pollGap_5 : decode cX8_pollGap 5 = .ok (.if_icmp .lt 15, 3) := by decide +kernel
theorem dX8_pollGap_8 : decode cX8_pollGap 8 = .ok (.aload_n 1, 1) := by decide +kernel
theorem dX8_pollGap_9 : decode cX8_pollGap 9 = .ok (.getfield 97, 3) := by decide +kernel
theorem dX8_pollGap_12 : decode cX8_pollGap 12 = .ok (.aload_n 0, 1) := by decide +kernel
theorem dX8_pollGap_13 : decode cX8_pollGap 13 = .ok (.getfield 143, 3) := by decide +kernel
theorem dX8_pollGap_16 : decode cX8_pollGap 16 = .ok (.irem, 1) := by decide +kernel
theorem dX8_pollGap_17 : decode cX8_pollGap 17 = .ok (.ifCond .eq 4, 3) := by decide +kernel
theorem dX8_pollGap_20 : decode cX8_pollGap 20 = .ok (.return_, 1) := by decide +kernel
theorem dX8_pollGap_21 : decode cX8_pollGap 21 = .ok (.aload_n 1, 1) := by decide +kernel
theorem dX8_pollGap_22 : decode cX8_pollGap 22 = .ok (.getfield 73, 3) := by decide +kernel
theorem dX8_pollGap_25 : decode cX8_pollGap 25 = .ok (.aload_n 1, 1) := by decide +kernel
theorem dX8_pollGap_26 : decode cX8_pollGap 26 = .ok (.getfield 53, 3) := by decide +kernel
theorem dX8_pollGap_29 : decode cX8_pollGap 29 = .ok (.isub, 1) := by decide +kernel
theorem dX8_pollGap_30 : decode cX8_pollGap 30 = .ok (.iconst 1, 1) := by decide +kernel
theorem dX8_pollGap_31 : decode cX8_pollGap 31 = .ok (.isub, 1) := by decide +kernel
theorem dX8_pollGap_32 : decode cX8_pollGap 32 = .ok (.bipush 31, 2) := by decide +kernel
theorem dX8_pollGap_34 : decode cX8_pollGap 34 = .ok (.iand, 1) := by decide +kernel
theorem dX8_pollGap_35 : decode cX8_pollGap 35 = .ok (.istore_n 2, 1) := by decide +kernel
theorem dX8_pollGap_36 : decode cX8_pollGap 36 = .ok (.iload_n 2, 1) := by decide +kernel
theorem dX8_pollGap_37 : decode cX8_pollGap 37 = .ok (.ifCond .ne 4, 3) := by decide +kernel
theorem dX8_pollGap_40 : decode cX8_pollGap 40 = .ok (.return_, 1) := by decide +kernel
theorem dX8_pollGap_41 : decode cX8_pollGap 41 = .ok (.aload_n 1, 1) := by decide +kernel
theorem dX8_pollGap_42 : decode cX8_pollGap 42 = .ok (.getfield 146, 3) := by decide +kernel
theorem dX8_pollGap_45 : decode cX8_pollGap 45 = .ok (.invokestatic 149, 3) := by decide +kernel
theorem dX8_pollGap_48 : decode cX8_pollGap 48 = .ok (.aload_n 1, 1) := by decide +kernel
theorem dX8_pollGap_49 : decode cX8_pollGap 49 = .ok (.getfield 53, 3) := by decide +kernel
theorem dX8_pollGap_52 : decode cX8_pollGap 52 = .ok (.isub, 1) := by decide +kernel
theorem dX8_pollGap_53 : decode cX8_pollGap 53 = .ok (.bipush 31, 2) := by decide +kernel
theorem dX8_pollGap_55 : decode cX8_pollGap 55 = .ok (.iand, 1) := by decide +kernel
theorem dX8_pollGap_56 : decode cX8_pollGap 56 = .ok (.istore_n 3, 1) := by decide +kernel
theorem dX8_pollGap_57 : decode cX8_pollGap 57 = .ok (.iload_n 3, 1) := by decide +kernel
theorem dX8_pollGap_58 : decode cX8_pollGap 58 = .ok (.iconst 1, 1) := by decide +kernel
theorem dX8_pollGap_59 : decode cX8_pollGap 59 = .ok (.if_icmp .lt 12, 3) := by decide +kernel
theorem dX8_pollGap_62 : decode cX8_pollGap 62 = .ok (.iload_n 3, 1) := by decide +kernel
theorem dX8_pollGap_63 : decode cX8_pollGap 63 = .ok (.iload_n 2, 1) := by decide +kernel
theorem dX8_pollGap_64 : decode cX8_pollGap 64 = .ok (.if_icmp .gt 7, 3) := by decide +kernel
theorem dX8_pollGap_67 : decode cX8_pollGap 67 = .ok (.iconst 1, 1) := by decide +kernel
theorem dX8_pollGap_68 : decode cX8_pollGap 68 = .ok (.goto 4, 3) := by decide +kernel
theorem dX8_pollGap_71 : decode cX8_pollGap 71 = .ok (.iconst 0, 1) := by decide +kernel
theorem dX8_pollGap_72 : decode cX8_pollGap 72 = .ok (.istore 4, 2) := by decide +kernel
theorem dX8_pollGap_74 : decode cX8_pollGap 74 = .ok (.aload_n 1, 1) := by decide +kernel
theorem dX8_pollGap_75 : decode cX8_pollGap 75 = .ok (.iload 4, 2) := by decide +kernel
theorem dX8_pollGap_77 : decode cX8_pollGap 77 = .ok (.ifCond .eq 13, 3) := by decide +kernel
theorem dX8_pollGap_80 : decode cX8_pollGap 80 = .ok (.aload_n 1, 1) := by decide +kernel
theorem dX8_pollGap_81 : decode cX8_pollGap 81 = .ok (.getfield 146, 3) := by decide +kernel
theorem dX8_pollGap_84 : decode cX8_pollGap 84 = .ok (.invokestatic 149, 3) := by decide +kernel
theorem dX8_pollGap_87 : decode cX8_pollGap 87 = .ok (.goto 10, 3) := by decide +kernel
theorem dX8_pollGap_90 : decode cX8_pollGap 90 = .ok (.aload_n 1, 1) := by decide +kernel
theorem dX8_pollGap_91 : decode cX8_pollGap 91 = .ok (.getfield 53, 3) := by decide +kernel
theorem dX8_pollGap_94 : decode cX8_pollGap 94 = .ok (.invokestatic 149, 3) := by decide +kernel
theorem dX8_pollGap_97 : decode cX8_pollGap 97 = .ok (.putfield 146, 3) := by decide +kernel
theorem dX8_pollGap_100 : decode cX8_pollGap 100 = .ok (.aload_n 0, 1) := by decide +kernel
theorem dX8_pollGap_101 : decode cX8_pollGap 101 = .ok (.aload_n 1, 1) := by decide +kernel
theorem dX8_pollGap_102 : decode cX8_pollGap 102 = .ok (.invokestatic 153, 3) := by decide +kernel
theorem dX8_pollGap_105 : decode cX8_pollGap 105 = .ok (.ifCond .ne 16, 3) := by decide +kernel
theorem dX8_pollGap_108 : decode cX8_pollGap 108 = .ok (.aload_n 0, 1) := by decide +kernel
theorem dX8_pollGap_109 : decode cX8_pollGap 109 = .ok (.dup, 1) := by decide +kernel
theorem dX8_pollGap_110 : decode cX8_pollGap 110 = .ok (.getfield 25, 3) := by decide +kernel
theorem dX8_pollGap_113 : decode cX8_pollGap 113 = .ok (.aload_n 0, 1) := by decide +kernel
theorem dX8_pollGap_114 : decode cX8_pollGap 114 = .ok (.getfield 66, 3) := by decide +kernel
theorem dX8_pollGap_117 : decode cX8_pollGap 117 = .ok (.iadd, 1) := by decide +kernel
theorem dX8_pollGap_118 : decode cX8_pollGap 118 = .ok (.putfield 25, 3) := by decide +kernel
theorem dX8_pollGap_121 : decode cX8_pollGap 121 = .ok (.return_, 1) := by decide +kernel
theorem dX8_comesIn_0 : decode cX8_comesIn 0 = .ok (.aload_n 0, 1) := by decide +kernel
theorem dX8_comesIn_1 : decode cX8_comesIn 1 = .ok (.iconst 1, 1) := by decide +kernel
theorem dX8_comesIn_2 : decode cX8_comesIn 2 = .ok (.invokevirtual 132, 3) := by decide +kernel
theorem dX8_comesIn_5 : decode cX8_comesIn 5 = .ok (.ifCond .eq 14, 3) := by decide +kernel
theorem dX8_comesIn_8 : decode cX8_comesIn 8 = .ok (.aload_n 0, 1) := by decide +kernel
theorem dX8_comesIn_9 : decode cX8_comesIn 9 = .ok (.aload_n 1, 1) := by decide +kernel
theorem dX8_comesIn_10 : decode cX8_comesIn 10 = .ok (.getfield 146, 3) := by decide +kernel
theorem dX8_comesIn_13 : decode cX8_comesIn 13 = .ok (.invokevirtual 15, 3) := by decide +kernel
theorem dX8_comesIn_16 : decode cX8_comesIn 16 = .ok (.goto 4, 3) := by decide +kernel
theorem dX8_comesIn_19 : decode cX8_comesIn 19 = .ok (.aconst_null, 1) := by decide +kernel
theorem dX8_comesIn_20 : decode cX8_comesIn 20 = .ok (.astore_n 2, 1) := by decide +kernel
theorem dX8_comesIn_21 : decode cX8_comesIn 21 = .ok (.aload_n 2, 1) := by decide +kernel
theorem dX8_comesIn_22 : decode cX8_comesIn 22 = .ok (.ifnull 17, 3) := by decide +kernel
theorem dX8_comesIn_25 : decode cX8_comesIn 25 = .ok (.aload_n 2, 1) := by decide +kernel
theorem dX8_comesIn_26 : decode cX8_comesIn 26 = .ok (.getfield 91, 3) := by decide +kernel
theorem dX8_comesIn_29 : decode cX8_comesIn 29 = .ok (.ifCond .eq 10, 3) := by decide +kernel
theorem dX8_comesIn_32 : decode cX8_comesIn 32 = .ok (.aload_n 2, 1) := by decide +kernel
theorem dX8_comesIn_33 : decode cX8_comesIn 33 = .ok (.getfield 69, 3) := by decide +kernel
theorem dX8_comesIn_36 : decode cX8_comesIn 36 = .ok (.ifCond .eq 5, 3) := by decide +kernel
theorem dX8_comesIn_39 : decode cX8_comesIn 39 = .ok (.iconst 0, 1) := by decide +kernel
theorem dX8_comesIn_40 : decode cX8_comesIn 40 = .ok (.ireturn, 1) := by decide +kernel
theorem dX8_comesIn_41 : decode cX8_comesIn 41 = .ok (.aload_n 0, 1) := by decide +kernel
theorem dX8_comesIn_42 : decode cX8_comesIn 42 = .ok (.iconst 1, 1) := by decide +kernel
theorem dX8_comesIn_43 : decode cX8_comesIn 43 = .ok (.invokevirtual 132, 3) := by decide +kernel
theorem dX8_comesIn_46 : decode cX8_comesIn 46 = .ok (.ifCond .ne 5, 3) := by decide +kernel
theorem dX8_comesIn_49 : decode cX8_comesIn 49 = .ok (.iconst 0, 1) := by decide +kernel
theorem dX8_comesIn_50 : decode cX8_comesIn 50 = .ok (.ireturn, 1) := by decide +kernel
theorem dX8_comesIn_51 : decode cX8_comesIn 51 = .ok (.aload_n 2, 1) := by decide +kernel
theorem dX8_comesIn_52 : decode cX8_comesIn 52 = .ok (.iconst 1, 1) := by decide +kernel
theorem dX8_comesIn_53 : decode cX8_comesIn 53 = .ok (.putfield 69, 3) := by decide +kernel
theorem dX8_comesIn_56 : decode cX8_comesIn 56 = .ok (.aload_n 2, 1) := by decide +kernel
theorem dX8_comesIn_57 : decode cX8_comesIn 57 = .ok (.aload_n 1, 1) := by decide +kernel
theorem dX8_comesIn_58 : decode cX8_comesIn 58 = .ok (.getfield 73, 3) := by decide +kernel
theorem dX8_comesIn_61 : decode cX8_comesIn 61 = .ok (.putfield 73, 3) := by decide +kernel
theorem dX8_comesIn_64 : decode cX8_comesIn 64 = .ok (.aload_n 2, 1) := by decide +kernel
theorem dX8_comesIn_65 : decode cX8_comesIn 65 = .ok (.aload_n 2, 1) := by decide +kernel
theorem dX8_comesIn_66 : decode cX8_comesIn 66 = .ok (.getfield 53, 3) := by decide +kernel
theorem dX8_comesIn_69 : decode cX8_comesIn 69 = .ok (.putfield 146, 3) := by decide +kernel
theorem dX8_comesIn_72 : decode cX8_comesIn 72 = .ok (.aload_n 1, 1) := by decide +kernel
theorem dX8_comesIn_73 : decode cX8_comesIn 73 = .ok (.aload_n 2, 1) := by decide +kernel
theorem dX8_comesIn_74 : decode cX8_comesIn 74 = .ok (.getfield 53, 3) := by decide +kernel
theorem dX8_comesIn_77 : decode cX8_comesIn 77 = .ok (.putfield 73, 3) := by decide +kernel
theorem dX8_comesIn_80 : decode cX8_comesIn 80 = .ok (.aload_n 0, 1) := by decide +kernel
theorem dX8_comesIn_81 : decode cX8_comesIn 81 = .ok (.getfield 76, 3) := by decide +kernel
theorem dX8_comesIn_84 : decode cX8_comesIn 84 = .ok (.dup, 1) := by decide +kernel
theorem dX8_comesIn_85 : decode cX8_comesIn 85 = .ok (.getfield 156, 3) := by decide +kernel
theorem dX8_comesIn_88 : decode cX8_comesIn 88 = .ok (.iconst 1, 1) := by decide +kernel
theorem dX8_comesIn_89 : decode cX8_comesIn 89 = .ok (.iadd, 1) := by decide +kernel
theorem dX8_comesIn_90 : decode cX8_comesIn 90 = .ok (.putfield 156, 3) := by decide +kernel
theorem dX8_comesIn_93 : decode cX8_comesIn 93 = .ok (.iconst 1, 1) := by decide +kernel
theorem dX8_comesIn_94 : decode cX8_comesIn 94 = .ok (.ireturn, 1) := by decide +kernel
theorem dX8_passToNext_0 : decode cX8_passToNext 0 = .ok (.iconst 0, 1) := by decide +kernel
theorem dX8_passToNext_1 : decode cX8_passToNext 1 = .ok (.istore_n 2, 1) := by decide +kernel
theorem dX8_passToNext_2 : decode cX8_passToNext 2 = .ok (.iload_n 2, 1) := by decide +kernel
theorem dX8_passToNext_3 : decode cX8_passToNext 3 = .ok (.iconst 3, 1) := by decide +kernel
theorem dX8_passToNext_4 : decode cX8_passToNext 4 = .ok (.if_icmp .ge 30, 3) := by decide +kernel
theorem dX8_passToNext_7 : decode cX8_passToNext 7 = .ok (.aload_n 0, 1) := by decide +kernel
theorem dX8_passToNext_8 : decode cX8_passToNext 8 = .ok (.aload_n 1, 1) := by decide +kernel
theorem dX8_passToNext_9 : decode cX8_passToNext 9 = .ok (.getfield 73, 3) := by decide +kernel
theorem dX8_passToNext_12 : decode cX8_passToNext 12 = .ok (.invokestatic 159, 3) := by decide +kernel
theorem dX8_passToNext_15 : decode cX8_passToNext 15 = .ok (.ifCond .eq 13, 3) := by decide +kernel
theorem dX8_passToNext_18 : decode cX8_passToNext 18 = .ok (.aload_n 0, 1) := by decide +kernel
theorem dX8_passToNext_19 : decode cX8_passToNext 19 = .ok (.aload_n 1, 1) := by decide +kernel
theorem dX8_passToNext_20 : decode cX8_passToNext 20 = .ok (.getfield 73, 3) := by decide +kernel
theorem dX8_passToNext_23 : decode cX8_passToNext 23 = .ok (.putfield 9, 3) := by decide +kernel
theorem dX8_passToNext_26 : decode cX8_passToNext 26 = .ok (.iconst 1, 1) := by decide +kernel
theorem dX8_passToNext_27 : decode cX8_passToNext 27 = .ok (.ireturn, 1) := by decide +kernel
theorem dX8_passToNext_28 : decode cX8_passToNext 28 = .ok (.iinc 2 1, 3) := by decide +kernel
theorem dX8_passToNext_31 : decode cX8_passToNext 31 = .ok (.goto (-29), 3) := by decide +kernel
theorem dX8_passToNext_34 : decode cX8_passToNext 34 = .ok (.iconst 0, 1) := by decide +kernel
theorem dX8_passToNext_35 : decode cX8_passToNext 35 = .ok (.ireturn, 1) := by decide +kernel
theorem dX8_reaches_0 : decode cX8_reaches 0 = .ok (.aload_n 0, 1) := by decide +kernel
theorem dX8_reaches_1 : decode cX8_reaches 1 = .ok (.iconst 1, 1) := by decide +kernel
theorem dX8_reaches_2 : decode cX8_reaches 2 = .ok (.invokevirtual 132, 3) := by decide +kernel
theorem dX8_reaches_5 : decode cX8_reaches 5 = .ok (.ifCond .eq 11, 3) := by decide +kernel
theorem dX8_reaches_8 : decode cX8_reaches 8 = .ok (.aload_n 0, 1) := by decide +kernel
theorem dX8_reaches_9 : decode cX8_reaches 9 = .ok (.iload_n 1, 1) := by decide +kernel
theorem dX8_reaches_10 : decode cX8_reaches 10 = .ok (.invokevirtual 15, 3) := by decide +kernel
theorem dX8_reaches_13 : decode cX8_reaches 13 = .ok (.goto 4, 3) := by decide +kernel
theorem dX8_reaches_16 : decode cX8_reaches 16 = .ok (.aconst_null, 1) := by decide +kernel
theorem dX8_reaches_17 : decode cX8_reaches 17 = .ok (.astore_n 2, 1) := by decide +kernel
theorem dX8_reaches_18 : decode cX8_reaches 18 = .ok (.aload_n 2, 1) := by decide +kernel
theorem dX8_reaches_19 : decode cX8_reaches 19 = .ok (.ifnull 19, 3) := by decide +kernel
theorem dX8_reaches_22 : decode cX8_reaches 22 = .ok (.aload_n 2, 1) := by decide +kernel
theorem dX8_reaches_23 : decode cX8_reaches 23 = .ok (.getfield 91, 3) := by decide +kernel
theorem dX8_reaches_26 : decode cX8_reaches 26 = .ok (.ifCond .eq 12, 3) := by decide +kernel
theorem dX8_reaches_29 : decode cX8_reaches 29 = .ok (.aload_n 2, 1) := by decide +kernel
theorem dX8_reaches_30 : decode cX8_reaches 30 = .ok (.getfield 69, 3) := by decide +kernel
theorem dX8_reaches_33 : decode cX8_reaches 33 = .ok (.ifCond .eq 5, 3) := by decide +kernel
theorem dX8_reaches_36 : decode cX8_reaches 36 = .ok (.iconst 1, 1) := by decide +kernel
theorem dX8_reaches_37 : decode cX8_reaches 37 = .ok (.ireturn, 1) := by decide +kernel
theorem dX8_reaches_38 : decode cX8_reaches 38 = .ok (.aload_n 0, 1) := by decide +kernel
theorem dX8_reaches_39 : decode cX8_reaches 39 = .ok (.dup, 1) := by decide +kernel
theorem dX8_reaches_40 : decode cX8_reaches 40 = .ok (.getfield 25, 3) := by decide +kernel
theorem dX8_reaches_43 : decode cX8_reaches 43 = .ok (.aload_n 0, 1) := by decide +kernel
theorem dX8_reaches_44 : decode cX8_reaches 44 = .ok (.getfield 66, 3) := by decide +kernel
theorem dX8_reaches_47 : decode cX8_reaches 47 = .ok (.iadd, 1) := by decide +kernel
theorem dX8_reaches_48 : decode cX8_reaches 48 = .ok (.putfield 25, 3) := by decide +kernel
theorem dX8_reaches_51 : decode cX8_reaches 51 = .ok (.iconst 0, 1) := by decide +kernel
theorem dX8_reaches_52 : decode cX8_reaches 52 = .ok (.ireturn, 1) := by decide +kernel
theorem dX8_dropSilent_0 : decode cX8_dropSilent 0 = .ok (.aload_n 0, 1) := by decide +kernel
theorem dX8_dropSilent_1 : decode cX8_dropSilent 1 = .ok (.aload_n 1, 1) := by decide +kernel
theorem dX8_dropSilent_2 : decode cX8_dropSilent 2 = .ok (.getfield 73, 3) := by decide +kernel
theorem dX8_dropSilent_5 : decode cX8_dropSilent 5 = .ok (.invokevirtual 15, 3) := by decide +kernel
theorem dX8_dropSilent_8 : decode cX8_dropSilent 8 = .ok (.astore_n 2, 1) := by decide +kernel
theorem dX8_dropSilent_9 : decode cX8_dropSilent 9 = .ok (.aload_n 2, 1) := by decide +kernel
theorem dX8_dropSilent_10 : decode cX8_dropSilent 10 = .ok (.ifnull 33, 3) := by decide +kernel
theorem dX8_dropSilent_13 : decode cX8_dropSilent 13 = .ok (.aload_n 2, 1) := by decide +kernel
theorem dX8_dropSilent_14 : decode cX8_dropSilent 14 = .ok (.aload_n 1, 1) := by decide +kernel
theorem dX8_dropSilent_15 : decode cX8_dropSilent 15 = .ok (.if_acmp .eq 28, 3) := by decide +kernel
theorem dX8_dropSilent_18 : decode cX8_dropSilent 18 = .ok (.aload_n 2, 1) := by decide +kernel
theorem dX8_dropSilent_19 : decode cX8_dropSilent 19 = .ok (.getfield 69, 3) := by decide +kernel
theorem dX8_dropSilent_22 : decode cX8_dropSilent 22 = .ok (.ifCond .eq 21, 3) := by decide +kernel
theorem dX8_dropSilent_25 : decode cX8_dropSilent 25 = .ok (.aload_n 2, 1) := by decide +kernel
theorem dX8_dropSilent_26 : decode cX8_dropSilent 26 = .ok (.iconst 0, 1) := by decide +kernel
theorem dX8_dropSilent_27 : decode cX8_dropSilent 27 = .ok (.putfield 69, 3) := by decide +kernel
theorem dX8_dropSilent_30 : decode cX8_dropSilent 30 = .ok (.aload_n 0, 1) := by decide +kernel
theorem dX8_dropSilent_31 : decode cX8_dropSilent 31 = .ok (.getfield 76, 3) := by decide +kernel
theorem dX8_dropSilent_34 : decode cX8_dropSilent 34 = .ok (.dup, 1) := by decide +kernel
theorem dX8_dropSilent_35 : decode cX8_dropSilent 35 = .ok (.getfield 163, 3) := by decide +kernel
theorem dX8_dropSilent_38 : decode cX8_dropSilent 38 = .ok (.iconst 1, 1) := by decide +kernel
theorem dX8_dropSilent_39 : decode cX8_dropSilent 39 = .ok (.iadd, 1) := by decide +kernel
theorem dX8_dropSilent_40 : decode cX8_dropSilent 40 = .ok (.putfield 163, 3) := by decide +kernel
theorem dX8_dropSilent_43 : decode cX8_dropSilent 43 = .ok (.return_, 1) := by decide +kernel
theorem dX8_askOthers_0 : decode cX8_askOthers 0 = .ok (.aload_n 1, 1) := by decide +kernel
theorem dX8_askOthers_1 : decode cX8_askOthers 1 = .ok (.getfield 73, 3) := by decide +kernel
theorem dX8_askOthers_4 : decode cX8_askOthers 4 = .ok (.invokestatic 149, 3) := by decide +kernel
theorem dX8_askOthers_7 : decode cX8_askOthers 7 = .ok (.istore_n 2, 1) := by decide +kernel
theorem dX8_askOthers_8 : decode cX8_askOthers 8 = .ok (.iconst 0, 1) := by decide +kernel
theorem dX8_askOthers_9 : decode cX8_askOthers 9 = .ok (.istore_n 3, 1) := by decide +kernel
theorem dX8_askOthers_10 : decode cX8_askOthers 10 = .ok (.iload_n 3, 1) := by decide +kernel
theorem dX8_askOthers_11 : decode cX8_askOthers 11 = .ok (.bipush 31, 2) := by decide +kernel
theorem dX8_askOthers_13 : decode cX8_askOthers 13 = .ok (.if_icmp .gt 41, 3) := by decide +kernel
theorem dX8_askOthers_16 : decode cX8_askOthers 16 = .ok (.iload_n 2, 1) := by decide +kernel
theorem dX8_askOthers_17 : decode cX8_askOthers 17 = .ok (.aload_n 1, 1) := by decide +kernel
theorem dX8_askOthers_18 : decode cX8_askOthers 18 = .ok (.getfield 53, 3) := by decide +kernel
theorem dX8_askOthers_21 : decode cX8_askOthers 21 = .ok (.if_icmp .eq 33, 3) := by decide +kernel
theorem dX8_askOthers_24 : decode cX8_askOthers 24 = .ok (.aload_n 0, 1) := by decide +kernel
theorem dX8_askOthers_25 : decode cX8_askOthers 25 = .ok (.iload_n 2, 1) := by decide +kernel
theorem dX8_askOthers_26 : decode cX8_askOthers 26 = .ok (.invokestatic 159, 3) := by decide +kernel
theorem dX8_askOthers_29 : decode cX8_askOthers 29 = .ok (.ifCond .eq 14, 3) := by decide +kernel
theorem dX8_askOthers_32 : decode cX8_askOthers 32 = .ok (.aload_n 1, 1) := by decide +kernel
theorem dX8_askOthers_33 : decode cX8_askOthers 33 = .ok (.iload_n 2, 1) := by decide +kernel
theorem dX8_askOthers_34 : decode cX8_askOthers 34 = .ok (.putfield 73, 3) := by decide +kernel
theorem dX8_askOthers_37 : decode cX8_askOthers 37 = .ok (.aload_n 0, 1) := by decide +kernel
theorem dX8_askOthers_38 : decode cX8_askOthers 38 = .ok (.iload_n 2, 1) := by decide +kernel
theorem dX8_askOthers_39 : decode cX8_askOthers 39 = .ok (.putfield 9, 3) := by decide +kernel
theorem dX8_askOthers_42 : decode cX8_askOthers 42 = .ok (.return_, 1) := by decide +kernel
theorem dX8_askOthers_43 : decode cX8_askOthers 43 = .ok (.iload_n 2, 1) := by decide +kernel
theorem dX8_askOthers_44 : decode cX8_askOthers 44 = .ok (.invokestatic 149, 3) := by decide +kernel
theorem dX8_askOthers_47 : decode cX8_askOthers 47 = .ok (.istore_n 2, 1) := by decide +kernel
theorem dX8_askOthers_48 : decode cX8_askOthers 48 = .ok (.iinc 3 1, 3) := by decide +kernel
theorem dX8_askOthers_51 : decode cX8_askOthers 51 = .ok (.goto (-41), 3) := by decide +kernel
theorem dX8_askOthers_54 : decode cX8_askOthers 54 = .ok (.aload_n 1, 1) := by decide +kernel
theorem dX8_askOthers_55 : decode cX8_askOthers 55 = .ok (.aload_n 1, 1) := by decide +kernel
theorem dX8_askOthers_56 : decode cX8_askOthers 56 = .ok (.getfield 53, 3) := by decide +kernel
theorem dX8_askOthers_59 : decode cX8_askOthers 59 = .ok (.putfield 73, 3) := by decide +kernel
theorem dX8_askOthers_62 : decode cX8_askOthers 62 = .ok (.return_, 1) := by decide +kernel
theorem dX9_init_0 : decode cX9_init 0 = .ok (.aload_n 0, 1) := by decide +kernel
theorem dX9_init_1 : decode cX9_init 1 = .ok (.invokespecial 1, 3) := by decide +kernel
theorem dX9_init_4 : decode cX9_init 4 = .ok (.aload_n 0, 1) := by decide +kernel
theorem dX9_init_5 : decode cX9_init 5 = .ok (.new 7, 3) := by decide +kernel
theorem dX9_init_8 : decode cX9_init 8 = .ok (.dup, 1) := by decide +kernel
theorem dX9_init_9 : decode cX9_init 9 = .ok (.invokespecial 9, 3) := by decide +kernel
theorem dX9_init_12 : decode cX9_init 12 = .ok (.putfield 10, 3) := by decide +kernel
theorem dX9_init_15 : decode cX9_init 15 = .ok (.aload_n 0, 1) := by decide +kernel
theorem dX9_init_16 : decode cX9_init 16 = .ok (.new 7, 3) := by decide +kernel
theorem dX9_init_19 : decode cX9_init 19 = .ok (.dup, 1) := by decide +kernel
theorem dX9_init_20 : decode cX9_init 20 = .ok (.invokespecial 9, 3) := by decide +kernel
theorem dX9_init_23 : decode cX9_init 23 = .ok (.putfield 16, 3) := by decide +kernel
theorem dX9_init_26 : decode cX9_init 26 = .ok (.aload_n 0, 1) := by decide +kernel
theorem dX9_init_27 : decode cX9_init 27 = .ok (.new 19, 3) := by decide +kernel
theorem dX9_init_30 : decode cX9_init 30 = .ok (.dup, 1) := by decide +kernel
theorem dX9_init_31 : decode cX9_init 31 = .ok (.invokespecial 21, 3) := by decide +kernel
theorem dX9_init_34 : decode cX9_init 34 = .ok (.putfield 22, 3) := by decide +kernel
theorem dX9_init_37 : decode cX9_init 37 = .ok (.aload_n 0, 1) := by decide +kernel
theorem dX9_init_38 : decode cX9_init 38 = .ok (.bipush 120, 2) := by decide +kernel
theorem dX9_init_40 : decode cX9_init 40 = .ok (.newarray .byte, 2) := by decide +kernel
theorem dX9_init_42 : decode cX9_init 42 = .ok (.putfield 26, 3) := by decide +kernel
theorem dX9_init_45 : decode cX9_init 45 = .ok (.return_, 1) := by decide +kernel
theorem dX9_addStation_0 : decode cX9_addStation 0 = .ok (.iload_n 1, 1) := by decide +kernel
theorem dX9_addStation_1 : decode cX9_addStation 1 = .ok (.invokestatic 30, 3) := by decide +kernel
theorem dX9_addStation_4 : decode cX9_addStation 4 = .ok (.ifCond .ne 13, 3) := by decide +kernel
theorem dX9_addStation_7 : decode cX9_addStation 7 = .ok (.new 34, 3) := by decide +kernel
theorem dX9_addStation_10 : decode cX9_addStation 10 = .ok (.dup, 1) := by decide +kernel
theorem dX9_addStation_11 : decode cX9_addStation 11 = .ok (.ldc 36, 2) := by decide +kernel
theorem dX9_addStation_13 : decode cX9_addStation 13 = .ok (.invokespecial 38, 3) := by decide +kernel
theorem dX9_addStation_16 : decode cX9_addStation 16 = .ok (.athrow, 1) := by decide +kernel
theorem dX9_addStation_17 : decode cX9_addStation 17 = .ok (.aload_n 0, 1) := by decide +kernel
theorem dX9_addStation_18 : decode cX9_addStation 18 = .ok (.getfield 10, 3) := by decide +kernel
theorem dX9_addStation_21 : decode cX9_addStation 21 = .ok (.iload_n 1, 1) := by decide +kernel
theorem dX9_addStation_22 : decode cX9_addStation 22 = .ok (.invokevirtual 41, 3) := by decide +kernel
theorem dX9_addStation_25 : decode cX9_addStation 25 = .ok (.ifnonnull 13, 3) := by decide +kernel
theorem dX9_addStation_28 : decode cX9_addStation 28 = .ok (.aload_n 0, 1) := by decide +kernel
theorem dX9_addStation_29 : decode cX9_addStation 29 = .ok (.getfield 10, 3) := by decide +kernel
theorem dX9_addStation_32 : decode cX9_addStation 32 = .ok (.invokevirtual 45, 3) := by decide +kernel
theorem dX9_addStation_35 : decode cX9_addStation 35 = .ok (.ifCond .eq 13, 3) := by decide +kernel
theorem dX9_addStation_38 : decode cX9_addStation 38 = .ok (.new 49, 3) := by decide +kernel
theorem dX9_addStation_41 : decode cX9_addStation 41 = .ok (.dup, 1) := by decide +kernel
theorem dX9_addStation_42 : decode cX9_addStation 42 = .ok (.ldc 51, 2) := by decide +kernel
theorem dX9_addStation_44 : decode cX9_addStation 44 = .ok (.invokespecial 53, 3) := by decide +kernel
theorem dX9_addStation_47 : decode cX9_addStation 47 = .ok (.athrow, 1) := by decide +kernel
theorem dX9_addStation_48 : decode cX9_addStation 48 = .ok (.aload_n 0, 1) := by decide +kernel
theorem dX9_addStation_49 : decode cX9_addStation 49 = .ok (.getfield 22, 3) := by decide +kernel
theorem dX9_addStation_52 : decode cX9_addStation 52 = .ok (.aload_n 0, 1) := by decide +kernel
theorem dX9_addStation_53 : decode cX9_addStation 53 = .ok (.getfield 10, 3) := by decide +kernel
theorem dX9_addStation_56 : decode cX9_addStation 56 = .ok (.invokevirtual 54, 3) := by decide +kernel
theorem dX9_addStation_59 : decode cX9_addStation 59 = .ok (.aload_n 0, 1) := by decide +kernel
theorem dX9_addStation_60 : decode cX9_addStation 60 = .ok (.getfield 10, 3) := by decide +kernel
theorem dX9_addStation_63 : decode cX9_addStation 63 = .ok (.iload_n 1, 1) := by decide +kernel
theorem dX9_addStation_64 : decode cX9_addStation 64 = .ok (.invokevirtual 58, 3) := by decide +kernel
theorem dX9_addStation_67 : decode cX9_addStation 67 = .ok (.pop, 1) := by decide +kernel
theorem dX9_addStation_68 : decode cX9_addStation 68 = .ok (.aload_n 0, 1) := by decide +kernel
theorem dX9_addStation_69 : decode cX9_addStation 69 = .ok (.getfield 10, 3) := by decide +kernel
theorem dX9_addStation_72 : decode cX9_addStation 72 = .ok (.getfield 61, 3) := by decide +kernel
theorem dX9_addStation_75 : decode cX9_addStation 75 = .ok (.ireturn, 1) := by decide +kernel
theorem dX9_setOn_0 : decode cX9_setOn 0 = .ok (.aload_n 0, 1) := by decide +kernel
theorem dX9_setOn_1 : decode cX9_setOn 1 = .ok (.getfield 10, 3) := by decide +kernel
theorem dX9_setOn_4 : decode cX9_setOn 4 = .ok (.iload_n 1, 1) := by decide +kernel
theorem dX9_setOn_5 : decode cX9_setOn 5 = .ok (.invokevirtual 41, 3) := by decide +kernel
theorem dX9_setOn_8 : decode cX9_setOn 8 = .ok (.astore_n 3, 1) := by decide +kernel
theorem dX9_setOn_9 : decode cX9_setOn 9 = .ok (.aload_n 3, 1) := by decide +kernel
theorem dX9_setOn_10 : decode cX9_setOn 10 = .ok (.ifnonnull 13, 3) := by decide +kernel
theorem dX9_setOn_13 : decode cX9_setOn 13 = .ok (.new 65, 3) := by decide +kernel
theorem dX9_setOn_16 : decode cX9_setOn 16 = .ok (.dup, 1) := by decide +kernel
theorem dX9_setOn_17 : decode cX9_setOn 17 = .ok (.ldc 67, 2) := by decide +kernel
theorem dX9_setOn_19 : decode cX9_setOn 19 = .ok (.invokespecial 69, 3) := by decide +kernel
theorem dX9_setOn_22 : decode cX9_setOn 22 = .ok (.athrow, 1) := by decide +kernel
theorem dX9_setOn_23 : decode cX9_setOn 23 = .ok (.aload_n 3, 1) := by decide +kernel
theorem dX9_setOn_24 : decode cX9_setOn 24 = .ok (.getfield 70, 3) := by decide +kernel
theorem dX9_setOn_27 : decode cX9_setOn 27 = .ok (.istore 4, 2) := by decide +kernel
theorem dX9_setOn_29 : decode cX9_setOn 29 = .ok (.aload_n 0, 1) := by decide +kernel
theorem dX9_setOn_30 : decode cX9_setOn 30 = .ok (.getfield 22, 3) := by decide +kernel
theorem dX9_setOn_33 : decode cX9_setOn 33 = .ok (.aload_n 0, 1) := by decide +kernel
theorem dX9_setOn_34 : decode cX9_setOn 34 = .ok (.getfield 10, 3) := by decide +kernel
theorem dX9_setOn_37 : decode cX9_setOn 37 = .ok (.invokevirtual 54, 3) := by decide +kernel
theorem dX9_setOn_40 : decode cX9_setOn 40 = .ok (.aload_n 0, 1) := by decide +kernel
theorem dX9_setOn_41 : decode cX9_setOn 41 = .ok (.getfield 10, 3) := by decide +kernel
theorem dX9_setOn_44 : decode cX9_setOn 44 = .ok (.aload_n 3, 1) := by decide +kernel
theorem dX9_setOn_45 : decode cX9_setOn 45 = .ok (.iload_n 2, 1) := by decide +kernel
theorem dX9_setOn_46 : decode cX9_setOn 46 = .ok (.invokevirtual 76, 3) := by decide +kernel
theorem dX9_setOn_49 : decode cX9_setOn 49 = .ok (.iload 4, 2) := by decide +kernel
theorem dX9_setOn_51 : decode cX9_setOn 51 = .ok (.ireturn, 1) := by decide +kernel
theorem dX9_setTimes_0 : decode cX9_setTimes 0 = .ok (.iload_n 1, 1) := by decide +kernel
theorem dX9_setTimes_1 : decode cX9_setTimes 1 = .ok (.iconst 1, 1) := by decide +kernel
theorem dX9_setTimes_2 : decode cX9_setTimes 2 = .ok (.sipush 500, 3) := by decide +kernel
theorem dX9_setTimes_5 : decode cX9_setTimes 5 = .ok (.invokestatic 80, 3) := by decide +kernel
theorem dX9_setTimes_8 : decode cX9_setTimes 8 = .ok (.ifCond .eq 23, 3) := by decide +kernel
theorem dX9_setTimes_11 : decode cX9_setTimes 11 = .ok (.iload_n 2, 1) := by decide +kernel
theorem dX9_setTimes_12 : decode cX9_setTimes 12 = .ok (.iconst 1, 1) := by decide +kernel
theorem dX9_setTimes_13 : decode cX9_setTimes 13 = .ok (.bipush 20, 2) := by decide +kernel
theorem dX9_setTimes_15 : decode cX9_setTimes 15 = .ok (.invokestatic 80, 3) := by decide +kernel
theorem dX9_setTimes_18 : decode cX9_setTimes 18 = .ok (.ifCond .eq 13, 3) := by decide +kernel
theorem dX9_setTimes_21 : decode cX9_setTimes 21 = .ok (.iload_n 3, 1) := by decide +kernel
theorem dX9_setTimes_22 : decode cX9_setTimes 22 = .ok (.iconst 1, 1) := by decide +kernel
theorem dX9_setTimes_23 : decode cX9_setTimes 23 = .ok (.bipush 20, 2) := by decide +kernel
theorem dX9_setTimes_25 : decode cX9_setTimes 25 = .ok (.invokestatic 80, 3) := by decide +kernel
theorem dX9_setTimes_28 : decode cX9_setTimes 28 = .ok (.ifCond .ne 13, 3) := by decide +kernel
theorem dX9_setTimes_31 : decode cX9_setTimes 31 = .ok (.new 34, 3) := by decide +kernel
theorem dX9_setTimes_34 : decode cX9_setTimes 34 = .ok (.dup, 1) := by decide +kernel
theorem dX9_setTimes_35 : decode cX9_setTimes 35 = .ok (.ldc 84, 2) := by decide +kernel
theorem dX9_setTimes_37 : decode cX9_setTimes 37 = .ok (.invokespecial 38, 3) := by decide +kernel
theorem dX9_setTimes_40 : decode cX9_setTimes 40 = .ok (.athrow, 1) := by decide +kernel
theorem dX9_setTimes_41 : decode cX9_setTimes 41 = .ok (.aload_n 0, 1) := by decide +kernel
theorem dX9_setTimes_42 : decode cX9_setTimes 42 = .ok (.getfield 10, 3) := by decide +kernel
theorem dX9_setTimes_45 : decode cX9_setTimes 45 = .ok (.getfield 86, 3) := by decide +kernel
theorem dX9_setTimes_48 : decode cX9_setTimes 48 = .ok (.istore 4, 2) := by decide +kernel
theorem dX9_setTimes_50 : decode cX9_setTimes 50 = .ok (.aload_n 0, 1) := by decide +kernel
theorem dX9_setTimes_51 : decode cX9_setTimes 51 = .ok (.getfield 22, 3) := by decide +kernel
theorem dX9_setTimes_54 : decode cX9_setTimes 54 = .ok (.aload_n 0, 1) := by decide +kernel
theorem dX9_setTimes_55 : decode cX9_setTimes 55 = .ok (.getfield 10, 3) := by decide +kernel
theorem dX9_setTimes_58 : decode cX9_setTimes 58 = .ok (.invokevirtual 54, 3) := by decide +kernel
theorem dX9_setTimes_61 : decode cX9_setTimes 61 = .ok (.aload_n 0, 1) := by decide +kernel
theorem dX9_setTimes_62 : decode cX9_setTimes 62 = .ok (.getfield 10, 3) := by decide +kernel
theorem dX9_setTimes_65 : decode cX9_setTimes 65 = .ok (.iload_n 1, 1) := by decide +kernel
theorem dX9_setTimes_66 : decode cX9_setTimes 66 = .ok (.putfield 86, 3) := by decide +kernel
theorem dX9_setTimes_69 : decode cX9_setTimes 69 = .ok (.aload_n 0, 1) := by decide +kernel
theorem dX9_setTimes_70 : decode cX9_setTimes 70 = .ok (.getfield 10, 3) := by decide +kernel
theorem dX9_setTimes_73 : decode cX9_setTimes 73 = .ok (.iload_n 2, 1) := by decide +kernel
theorem dX9_setTimes_74 : decode cX9_setTimes 74 = .ok (.putfield 89, 3) := by decide +kernel
theorem dX9_setTimes_77 : decode cX9_setTimes 77 = .ok (.aload_n 0, 1) := by decide +kernel
theorem dX9_setTimes_78 : decode cX9_setTimes 78 = .ok (.getfield 10, 3) := by decide +kernel
theorem dX9_setTimes_81 : decode cX9_setTimes 81 = .ok (.iload_n 3, 1) := by decide +kernel
theorem dX9_setTimes_82 : decode cX9_setTimes 82 = .ok (.putfield 92, 3) := by decide +kernel
theorem dX9_setTimes_85 : decode cX9_setTimes 85 = .ok (.iload 4, 2) := by decide +kernel
theorem dX9_setTimes_87 : decode cX9_setTimes 87 = .ok (.ireturn, 1) := by decide +kernel
theorem dX9_give_0 : decode cX9_give 0 = .ok (.aload_n 0, 1) := by decide +kernel
theorem dX9_give_1 : decode cX9_give 1 = .ok (.getfield 10, 3) := by decide +kernel
theorem dX9_give_4 : decode cX9_give 4 = .ok (.iload_n 1, 1) := by decide +kernel
theorem dX9_give_5 : decode cX9_give 5 = .ok (.invokevirtual 41, 3) := by decide +kernel
theorem dX9_give_8 : decode cX9_give 8 = .ok (.astore 4, 2) := by decide +kernel
theorem dX9_give_10 : decode cX9_give 10 = .ok (.aload 4, 2) := by decide +kernel
theorem dX9_give_12 : decode cX9_give 12 = .ok (.ifnonnull 13, 3) := by decide +kernel
theorem dX9_give_15 : decode cX9_give 15 = .ok (.new 65, 3) := by decide +kernel
theorem dX9_give_18 : decode cX9_give 18 = .ok (.dup, 1) := by decide +kernel
theorem dX9_give_19 : decode cX9_give 19 = .ok (.ldc 67, 2) := by decide +kernel
theorem dX9_give_21 : decode cX9_give 21 = .ok (.invokespecial 69, 3) := by decide +kernel
theorem dX9_give_24 : decode cX9_give 24 = .ok (.athrow, 1) := by decide +kernel
theorem dX9_give_25 : decode cX9_give 25 = .ok (.iload_n 2, 1) := by decide +kernel
theorem dX9_give_26 : decode cX9_give 26 = .ok (.iconst 1, 1) := by decide +kernel
theorem dX9_give_27 : decode cX9_give 27 = .ok (.bipush 20, 2) := by decide +kernel
theorem dX9_give_29 : decode cX9_give 29 = .ok (.invokestatic 80, 3) := by decide +kernel
theorem dX9_give_32 : decode cX9_give 32 = .ok (.ifCond .eq 13, 3) := by decide +kernel
theorem dX9_give_35 : decode cX9_give 35 = .ok (.iload_n 3, 1) := by decide +kernel
theorem dX9_give_36 : decode cX9_give 36 = .ok (.iconst 0, 1) := by decide +kernel
theorem dX9_give_37 : decode cX9_give 37 = .ok (.bipush 9, 2) := by decide +kernel
theorem dX9_give_39 : decode cX9_give 39 = .ok (.invokestatic 80, 3) := by decide +kernel
theorem dX9_give_42 : decode cX9_give 42 = .ok (.ifCond .ne 13, 3) := by decide +kernel
theorem dX9_give_45 : decode cX9_give 45 = .ok (.new 34, 3) := by decide +kernel
theorem dX9_give_48 : decode cX9_give 48 = .ok (.dup, 1) := by decide +kernel
theorem dX9_give_49 : decode cX9_give 49 = .ok (.ldc 95, 2) := by decide +kernel
theorem dX9_give_51 : decode cX9_give 51 = .ok (.invokespecial 38, 3) := by decide +kernel
theorem dX9_give_54 : decode cX9_give 54 = .ok (.athrow, 1) := by decide +kernel
theorem dX9_give_55 : decode cX9_give 55 = .ok (.aload_n 0, 1) := by decide +kernel
theorem dX9_give_56 : decode cX9_give 56 = .ok (.getfield 10, 3) := by decide +kernel
theorem dX9_give_59 : decode cX9_give 59 = .ok (.getfield 97, 3) := by decide +kernel
theorem dX9_give_62 : decode cX9_give 62 = .ok (.invokevirtual 101, 3) := by decide +kernel
theorem dX9_give_65 : decode cX9_give 65 = .ok (.ifCond .eq 13, 3) := by decide +kernel
theorem dX9_give_68 : decode cX9_give 68 = .ok (.new 49, 3) := by decide +kernel
theorem dX9_give_71 : decode cX9_give 71 = .ok (.dup, 1) := by decide +kernel
theorem dX9_give_72 : decode cX9_give 72 = .ok (.ldc 104, 2) := by decide +kernel
theorem dX9_give_74 : decode cX9_give 74 = .ok (.invokespecial 53, 3) := by decide +kernel
theorem dX9_give_77 : decode cX9_give 77 = .ok (.athrow, 1) := by decide +kernel
theorem dX9_give_78 : decode cX9_give 78 = .ok (.aload_n 0, 1) := by decide +kernel
theorem dX9_give_79 : decode cX9_give 79 = .ok (.getfield 22, 3) := by decide +kernel
theorem dX9_give_82 : decode cX9_give 82 = .ok (.aload_n 0, 1) := by decide +kernel
theorem dX9_give_83 : decode cX9_give 83 = .ok (.getfield 10, 3) := by decide +kernel
theorem dX9_give_86 : decode cX9_give 86 = .ok (.invokevirtual 54, 3) := by decide +kernel
theorem dX9_give_89 : decode cX9_give 89 = .ok (.aload_n 0, 1) := by decide +kernel
theorem dX9_give_90 : decode cX9_give 90 = .ok (.getfield 10, 3) := by decide +kernel
theorem dX9_give_93 : decode cX9_give 93 = .ok (.getfield 97, 3) := by decide +kernel
theorem dX9_give_96 : decode cX9_give 96 = .ok (.aload 4, 2) := by decide +kernel
theorem dX9_give_98 : decode cX9_give 98 = .ok (.iload_n 2, 1) := by decide +kernel
theorem dX9_give_99 : decode cX9_give 99 = .ok (.iload_n 3, 1) := by decide +kernel
theorem dX9_give_100 : decode cX9_give 100 = .ok (.aload_n 0, 1) := by decide +kernel
theorem dX9_give_101 : decode cX9_give 101 = .ok (.getfield 10, 3) := by decide +kernel
theorem dX9_give_104 : decode cX9_give 104 = .ok (.getfield 106, 3) := by decide +kernel
theorem dX9_give_107 : decode cX9_give 107 = .ok (.invokevirtual 109, 3) := by decide +kernel
theorem dX9_give_110 : decode cX9_give 110 = .ok (.ireturn, 1) := by decide +kernel
theorem dX9_addNoise_0 : decode cX9_addNoise 0 = .ok (.iload_n 2, 1) := by decide +kernel
theorem dX9_addNoise_1 : decode cX9_addNoise 1 = .ok (.iconst 0, 1) := by decide +kernel
theorem dX9_addNoise_2 : decode cX9_addNoise 2 = .ok (.ldc 113, 2) := by decide +kernel
theorem dX9_addNoise_4 : decode cX9_addNoise 4 = .ok (.invokestatic 80, 3) := by decide +kernel
theorem dX9_addNoise_7 : decode cX9_addNoise 7 = .ok (.ifCond .eq 12, 3) := by decide +kernel
theorem dX9_addNoise_10 : decode cX9_addNoise 10 = .ok (.iload_n 1, 1) := by decide +kernel
theorem dX9_addNoise_11 : decode cX9_addNoise 11 = .ok (.iconst 0, 1) := by decide +kernel
theorem dX9_addNoise_12 : decode cX9_addNoise 12 = .ok (.iload_n 2, 1) := by decide +kernel
theorem dX9_addNoise_13 : decode cX9_addNoise 13 = .ok (.invokestatic 80, 3) := by decide +kernel
theorem dX9_addNoise_16 : decode cX9_addNoise 16 = .ok (.ifCond .ne 13, 3) := by decide +kernel
theorem dX9_addNoise_19 : decode cX9_addNoise 19 = .ok (.new 34, 3) := by decide +kernel
theorem dX9_addNoise_22 : decode cX9_addNoise 22 = .ok (.dup, 1) := by decide +kernel
theorem dX9_addNoise_23 : decode cX9_addNoise 23 = .ok (.ldc 114, 2) := by decide +kernel
theorem dX9_addNoise_25 : decode cX9_addNoise 25 = .ok (.invokespecial 38, 3) := by decide +kernel
theorem dX9_addNoise_28 : decode cX9_addNoise 28 = .ok (.athrow, 1) := by decide +kernel
theorem dX9_addNoise_29 : decode cX9_addNoise 29 = .ok (.aload_n 0, 1) := by decide +kernel
theorem dX9_addNoise_30 : decode cX9_addNoise 30 = .ok (.getfield 10, 3) := by decide +kernel
theorem dX9_addNoise_33 : decode cX9_addNoise 33 = .ok (.getfield 116, 3) := by decide +kernel
theorem dX9_addNoise_36 : decode cX9_addNoise 36 = .ok (.invokevirtual 120, 3) := by decide +kernel
theorem dX9_addNoise_39 : decode cX9_addNoise 39 = .ok (.ifCond .eq 13, 3) := by decide +kernel
theorem dX9_addNoise_42 : decode cX9_addNoise 42 = .ok (.new 49, 3) := by decide +kernel
theorem dX9_addNoise_45 : decode cX9_addNoise 45 = .ok (.dup, 1) := by decide +kernel
theorem dX9_addNoise_46 : decode cX9_addNoise 46 = .ok (.ldc 123, 2) := by decide +kernel
theorem dX9_addNoise_48 : decode cX9_addNoise 48 = .ok (.invokespecial 53, 3) := by decide +kernel
theorem dX9_addNoise_51 : decode cX9_addNoise 51 = .ok (.athrow, 1) := by decide +kernel
theorem dX9_addNoise_52 : decode cX9_addNoise 52 = .ok (.aload_n 0, 1) := by decide +kernel
theorem dX9_addNoise_53 : decode cX9_addNoise 53 = .ok (.getfield 22, 3) := by decide +kernel
theorem dX9_addNoise_56 : decode cX9_addNoise 56 = .ok (.aload_n 0, 1) := by decide +kernel
theorem dX9_addNoise_57 : decode cX9_addNoise 57 = .ok (.getfield 10, 3) := by decide +kernel
theorem dX9_addNoise_60 : decode cX9_addNoise 60 = .ok (.invokevirtual 54, 3) := by decide +kernel
theorem dX9_addNoise_63 : decode cX9_addNoise 63 = .ok (.aload_n 0, 1) := by decide +kernel
theorem dX9_addNoise_64 : decode cX9_addNoise 64 = .ok (.getfield 10, 3) := by decide +kernel
theorem dX9_addNoise_67 : decode cX9_addNoise 67 = .ok (.getfield 116, 3) := by decide +kernel
theorem dX9_addNoise_70 : decode cX9_addNoise 70 = .ok (.iload_n 1, 1) := by decide +kernel
theorem dX9_addNoise_71 : decode cX9_addNoise 71 = .ok (.iload_n 2, 1) := by decide +kernel
theorem dX9_addNoise_72 : decode cX9_addNoise 72 = .ok (.invokevirtual 125, 3) := by decide +kernel
theorem dX9_addNoise_75 : decode cX9_addNoise 75 = .ok (.aload_n 0, 1) := by decide +kernel
theorem dX9_addNoise_76 : decode cX9_addNoise 76 = .ok (.getfield 10, 3) := by decide +kernel
theorem dX9_addNoise_79 : decode cX9_addNoise 79 = .ok (.getfield 116, 3) := by decide +kernel
theorem dX9_addNoise_82 : decode cX9_addNoise 82 = .ok (.getfield 128, 3) := by decide +kernel
theorem dX9_addNoise_85 : decode cX9_addNoise 85 = .ok (.ireturn, 1) := by decide +kernel
theorem dX9_run_0 : decode cX9_run 0 = .ok (.iload_n 1, 1) := by decide +kernel
theorem dX9_run_1 : decode cX9_run 1 = .ok (.iconst 0, 1) := by decide +kernel
theorem dX9_run_2 : decode cX9_run 2 = .ok (.sipush 200, 3) := by decide +kernel
theorem dX9_run_5 : decode cX9_run 5 = .ok (.invokestatic 80, 3) := by decide +kernel
theorem dX9_run_8 : decode cX9_run 8 = .ok (.ifCond .ne 13, 3) := by decide +kernel
theorem dX9_run_11 : decode cX9_run 11 = .ok (.new 34, 3) := by decide +kernel
theorem dX9_run_14 : decode cX9_run 14 = .ok (.dup, 1) := by decide +kernel
theorem dX9_run_15 : decode cX9_run 15 = .ok (.ldc 131, 2) := by decide +kernel
theorem dX9_run_17 : decode cX9_run 17 = .ok (.invokespecial 38, 3) := by decide +kernel
theorem dX9_run_20 : decode cX9_run 20 = .ok (.athrow, 1) := by decide +kernel
theorem dX9_run_21 : decode cX9_run 21 = .ok (.aload_n 0, 1) := by decide +kernel
theorem dX9_run_22 : decode cX9_run 22 = .ok (.getfield 10, 3) := by decide +kernel
theorem dX9_run_25 : decode cX9_run 25 = .ok (.invokevirtual 133, 3) := by decide +kernel
theorem dX9_run_28 : decode cX9_run 28 = .ok (.ifCond .eq 13, 3) := by decide +kernel
theorem dX9_run_31 : decode cX9_run 31 = .ok (.new 49, 3) := by decide +kernel
theorem dX9_run_34 : decode cX9_run 34 = .ok (.dup, 1) := by decide +kernel
theorem dX9_run_35 : decode cX9_run 35 = .ok (.ldc 136, 2) := by decide +kernel
theorem dX9_run_37 : decode cX9_run 37 = .ok (.invokespecial 53, 3) := by decide +kernel
theorem dX9_run_40 : decode cX9_run 40 = .ok (.athrow, 1) := by decide +kernel
theorem dX9_run_41 : decode cX9_run 41 = .ok (.aload_n 0, 1) := by decide +kernel
theorem dX9_run_42 : decode cX9_run 42 = .ok (.getfield 22, 3) := by decide +kernel
theorem dX9_run_45 : decode cX9_run 45 = .ok (.aload_n 0, 1) := by decide +kernel
theorem dX9_run_46 : decode cX9_run 46 = .ok (.getfield 10, 3) := by decide +kernel
theorem dX9_run_49 : decode cX9_run 49 = .ok (.invokevirtual 54, 3) := by decide +kernel
theorem dX9_run_52 : decode cX9_run 52 = .ok (.iconst 0, 1) := by decide +kernel
theorem dX9_run_53 : decode cX9_run 53 = .ok (.istore_n 2, 1) := by decide +kernel
theorem dX9_run_54 : decode cX9_run 54 = .ok (.iload_n 2, 1) := by decide +kernel
theorem dX9_run_55 : decode cX9_run 55 = .ok (.iload_n 1, 1) := by decide +kernel
theorem dX9_run_56 : decode cX9_run 56 = .ok (.if_icmp .ge 16, 3) := by decide +kernel
theorem dX9_run_59 : decode cX9_run 59 = .ok (.aload_n 0, 1) := by decide +kernel
theorem dX9_run_60 : decode cX9_run 60 = .ok (.getfield 10, 3) := by decide +kernel
theorem dX9_run_63 : decode cX9_run 63 = .ok (.invokestatic 138, 3) := by decide +kernel
theorem dX9_run_66 : decode cX9_run 66 = .ok (.iinc 2 1, 3) := by decide +kernel
theorem dX9_run_69 : decode cX9_run 69 = .ok (.goto (-15), 3) := by decide +kernel
theorem dX9_run_72 : decode cX9_run 72 = .ok (.aload_n 0, 1) := by decide +kernel
theorem dX9_run_73 : decode cX9_run 73 = .ok (.getfield 10, 3) := by decide +kernel
theorem dX9_run_76 : decode cX9_run 76 = .ok (.getfield 106, 3) := by decide +kernel
theorem dX9_run_79 : decode cX9_run 79 = .ok (.ireturn, 1) := by decide +kernel
theorem dX9_loseToken_0 : decode cX9_loseToken 0 = .ok (.aload_n 0, 1) := by decide +kernel
theorem dX9_loseToken_1 : decode cX9_loseToken 1 = .ok (.getfield 10, 3) := by decide +kernel
theorem dX9_loseToken_4 : decode cX9_loseToken 4 = .ok (.getfield 143, 3) := by decide +kernel
theorem dX9_loseToken_7 : decode cX9_loseToken 7 = .ok (.istore_n 1, 1) := by decide +kernel
theorem dX9_loseToken_8 : decode cX9_loseToken 8 = .ok (.aload_n 0, 1) := by decide +kernel
theorem dX9_loseToken_9 : decode cX9_loseToken 9 = .ok (.getfield 22, 3) := by decide +kernel
theorem dX9_loseToken_12 : decode cX9_loseToken 12 = .ok (.aload_n 0, 1) := by decide +kernel
theorem dX9_loseToken_13 : decode cX9_loseToken 13 = .ok (.getfield 10, 3) := by decide +kernel
theorem dX9_loseToken_16 : decode cX9_loseToken 16 = .ok (.invokevirtual 54, 3) := by decide +kernel
theorem dX9_loseToken_19 : decode cX9_loseToken 19 = .ok (.aload_n 0, 1) := by decide +kernel
theorem dX9_loseToken_20 : decode cX9_loseToken 20 = .ok (.getfield 10, 3) := by decide +kernel
theorem dX9_loseToken_23 : decode cX9_loseToken 23 = .ok (.iconst (-1), 1) := by decide +kernel
theorem dX9_loseToken_24 : decode cX9_loseToken 24 = .ok (.putfield 143, 3) := by decide +kernel
theorem dX9_loseToken_27 : decode cX9_loseToken 27 = .ok (.iload_n 1, 1) := by decide +kernel
theorem dX9_loseToken_28 : decode cX9_loseToken 28 = .ok (.ireturn, 1) := by decide +kernel
theorem dX9_setting_0 : decode cX9_setting 0 = .ok (.iload_n 1, 1) := by decide +kernel
theorem dX9_setting_1 : decode cX9_setting 1 = .ok (.iconst 0, 1) := by decide +kernel
theorem dX9_setting_2 : decode cX9_setting 2 = .ok (.bipush 8, 2) := by decide +kernel
theorem dX9_setting_4 : decode cX9_setting 4 = .ok (.invokestatic 80, 3) := by decide +kernel
theorem dX9_setting_7 : decode cX9_setting 7 = .ok (.ifCond .ne 13, 3) := by decide +kernel
theorem dX9_setting_10 : decode cX9_setting 10 = .ok (.new 34, 3) := by decide +kernel
theorem dX9_setting_13 : decode cX9_setting 13 = .ok (.dup, 1) := by decide +kernel
theorem dX9_setting_14 : decode cX9_setting 14 = .ok (.ldc 146, 2) := by decide +kernel
theorem dX9_setting_16 : decode cX9_setting 16 = .ok (.invokespecial 38, 3) := by decide +kernel
theorem dX9_setting_19 : decode cX9_setting 19 = .ok (.athrow, 1) := by decide +kernel
theorem dX9_setting_20 : decode cX9_setting 20 = .ok (.aload_n 0, 1) := by decide +kernel
theorem dX9_setting_21 : decode cX9_setting 21 = .ok (.getfield 10, 3) := by decide +kernel
theorem dX9_setting_24 : decode cX9_setting 24 = .ok (.iload_n 1, 1) := by decide +kernel
theorem dX9_setting_25 : decode cX9_setting 25 = .ok (.invokevirtual 148, 3) := by decide +kernel
theorem dX9_setting_28 : decode cX9_setting 28 = .ok (.ireturn, 1) := by decide +kernel
theorem dX9_station_0 : decode cX9_station 0 = .ok (.aload_n 0, 1) := by decide +kernel
theorem dX9_station_1 : decode cX9_station 1 = .ok (.getfield 10, 3) := by decide +kernel
theorem dX9_station_4 : decode cX9_station 4 = .ok (.iload_n 1, 1) := by decide +kernel
theorem dX9_station_5 : decode cX9_station 5 = .ok (.invokevirtual 41, 3) := by decide +kernel
theorem dX9_station_8 : decode cX9_station 8 = .ok (.astore_n 3, 1) := by decide +kernel
theorem dX9_station_9 : decode cX9_station 9 = .ok (.aload_n 3, 1) := by decide +kernel
theorem dX9_station_10 : decode cX9_station 10 = .ok (.ifnonnull 13, 3) := by decide +kernel
theorem dX9_station_13 : decode cX9_station 13 = .ok (.new 65, 3) := by decide +kernel
theorem dX9_station_16 : decode cX9_station 16 = .ok (.dup, 1) := by decide +kernel
theorem dX9_station_17 : decode cX9_station 17 = .ok (.ldc 67, 2) := by decide +kernel
theorem dX9_station_19 : decode cX9_station 19 = .ok (.invokespecial 69, 3) := by decide +kernel
theorem dX9_station_22 : decode cX9_station 22 = .ok (.athrow, 1) := by decide +kernel
theorem dX9_station_23 : decode cX9_station 23 = .ok (.iload_n 2, 1) := by decide +kernel
theorem dX9_station_24 : decode cX9_station 24 = .ok (.iconst 0, 1) := by decide +kernel
theorem dX9_station_25 : decode cX9_station 25 = .ok (.bipush 6, 2) := by decide +kernel
theorem dX9_station_27 : decode cX9_station 27 = .ok (.invokestatic 80, 3) := by decide +kernel
theorem dX9_station_30 : decode cX9_station 30 = .ok (.ifCond .ne 13, 3) := by decide +kernel
theorem dX9_station_33 : decode cX9_station 33 = .ok (.new 34, 3) := by decide +kernel
theorem dX9_station_36 : decode cX9_station 36 = .ok (.dup, 1) := by decide +kernel
theorem dX9_station_37 : decode cX9_station 37 = .ok (.ldc 152, 2) := by decide +kernel
theorem dX9_station_39 : decode cX9_station 39 = .ok (.invokespecial 38, 3) := by decide +kernel
theorem dX9_station_42 : decode cX9_station 42 = .ok (.athrow, 1) := by decide +kernel
theorem dX9_station_43 : decode cX9_station 43 = .ok (.aload_n 3, 1) := by decide +kernel
theorem dX9_station_44 : decode cX9_station 44 = .ok (.iload_n 2, 1) := by decide +kernel
theorem dX9_station_45 : decode cX9_station 45 = .ok (.invokevirtual 154, 3) := by decide +kernel
theorem dX9_station_48 : decode cX9_station 48 = .ok (.ireturn, 1) := by decide +kernel
theorem dX9_addressAt_0 : decode cX9_addressAt 0 = .ok (.aload_n 0, 1) := by decide +kernel
theorem dX9_addressAt_1 : decode cX9_addressAt 1 = .ok (.getfield 10, 3) := by decide +kernel
theorem dX9_addressAt_4 : decode cX9_addressAt 4 = .ok (.iload_n 1, 1) := by decide +kernel
theorem dX9_addressAt_5 : decode cX9_addressAt 5 = .ok (.invokevirtual 157, 3) := by decide +kernel
theorem dX9_addressAt_8 : decode cX9_addressAt 8 = .ok (.astore_n 2, 1) := by decide +kernel
theorem dX9_addressAt_9 : decode cX9_addressAt 9 = .ok (.aload_n 2, 1) := by decide +kernel
theorem dX9_addressAt_10 : decode cX9_addressAt 10 = .ok (.ifnonnull 13, 3) := by decide +kernel
theorem dX9_addressAt_13 : decode cX9_addressAt 13 = .ok (.new 160, 3) := by decide +kernel
theorem dX9_addressAt_16 : decode cX9_addressAt 16 = .ok (.dup, 1) := by decide +kernel
theorem dX9_addressAt_17 : decode cX9_addressAt 17 = .ok (.ldc 162, 2) := by decide +kernel
theorem dX9_addressAt_19 : decode cX9_addressAt 19 = .ok (.invokespecial 164, 3) := by decide +kernel
theorem dX9_addressAt_22 : decode cX9_addressAt 22 = .ok (.athrow, 1) := by decide +kernel
theorem dX9_addressAt_23 : decode cX9_addressAt 23 = .ok (.aload_n 2, 1) := by decide +kernel
theorem dX9_addressAt_24 : decode cX9_addressAt 24 = .ok (.getfield 165, 3) := by decide +kernel
theorem dX9_addressAt_27 : decode cX9_addressAt 27 = .ok (.ireturn, 1) := by decide +kernel
theorem dX9_queued_0 : decode cX9_queued 0 = .ok (.aload_n 0, 1) := by decide +kernel
theorem dX9_queued_1 : decode cX9_queued 1 = .ok (.getfield 10, 3) := by decide +kernel
theorem dX9_queued_4 : decode cX9_queued 4 = .ok (.iload_n 1, 1) := by decide +kernel
theorem dX9_queued_5 : decode cX9_queued 5 = .ok (.invokevirtual 41, 3) := by decide +kernel
theorem dX9_queued_8 : decode cX9_queued 8 = .ok (.astore_n 3, 1) := by decide +kernel
theorem dX9_queued_9 : decode cX9_queued 9 = .ok (.aload_n 3, 1) := by decide +kernel
theorem dX9_queued_10 : decode cX9_queued 10 = .ok (.ifnonnull 13, 3) := by decide +kernel
theorem dX9_queued_13 : decode cX9_queued 13 = .ok (.new 65, 3) := by decide +kernel
theorem dX9_queued_16 : decode cX9_queued 16 = .ok (.dup, 1) := by decide +kernel
theorem dX9_queued_17 : decode cX9_queued 17 = .ok (.ldc 67, 2) := by decide +kernel
theorem dX9_queued_19 : decode cX9_queued 19 = .ok (.invokespecial 69, 3) := by decide +kernel
theorem dX9_queued_22 : decode cX9_queued 22 = .ok (.athrow, 1) := by decide +kernel
theorem dX9_queued_23 : decode cX9_queued 23 = .ok (.iload_n 2, 1) := by decide +kernel
theorem dX9_queued_24 : decode cX9_queued 24 = .ok (.iconst 0, 1) := by decide +kernel
theorem dX9_queued_25 : decode cX9_queued 25 = .ok (.aload_n 3, 1) := by decide +kernel
theorem dX9_queued_26 : decode cX9_queued 26 = .ok (.getfield 168, 3) := by decide +kernel
theorem dX9_queued_29 : decode cX9_queued 29 = .ok (.iconst 1, 1) := by decide +kernel
theorem dX9_queued_30 : decode cX9_queued 30 = .ok (.isub, 1) := by decide +kernel
theorem dX9_queued_31 : decode cX9_queued 31 = .ok (.invokestatic 80, 3) := by decide +kernel
theorem dX9_queued_34 : decode cX9_queued 34 = .ok (.ifCond .ne 13, 3) := by decide +kernel
theorem dX9_queued_37 : decode cX9_queued 37 = .ok (.new 160, 3) := by decide +kernel
theorem dX9_queued_40 : decode cX9_queued 40 = .ok (.dup, 1) := by decide +kernel
theorem dX9_queued_41 : decode cX9_queued 41 = .ok (.ldc 171, 2) := by decide +kernel
theorem dX9_queued_43 : decode cX9_queued 43 = .ok (.invokespecial 164, 3) := by decide +kernel
theorem dX9_queued_46 : decode cX9_queued 46 = .ok (.athrow, 1) := by decide +kernel
theorem dX9_queued_47 : decode cX9_queued 47 = .ok (.aload_n 0, 1) := by decide +kernel
theorem dX9_queued_48 : decode cX9_queued 48 = .ok (.getfield 10, 3) := by decide +kernel
theorem dX9_queued_51 : decode cX9_queued 51 = .ok (.getfield 97, 3) := by decide +kernel
theorem dX9_queued_54 : decode cX9_queued 54 = .ok (.aload_n 3, 1) := by decide +kernel
theorem dX9_queued_55 : decode cX9_queued 55 = .ok (.iload_n 2, 1) := by decide +kernel
theorem dX9_queued_56 : decode cX9_queued 56 = .ok (.invokevirtual 173, 3) := by decide +kernel
theorem dX9_queued_59 : decode cX9_queued 59 = .ok (.ireturn, 1) := by decide +kernel
theorem dX9_message_0 : decode cX9_message 0 = .ok (.aload_n 0, 1) := by decide +kernel
theorem dX9_message_1 : decode cX9_message 1 = .ok (.getfield 10, 3) := by decide +kernel
theorem dX9_message_4 : decode cX9_message 4 = .ok (.getfield 97, 3) := by decide +kernel
theorem dX9_message_7 : decode cX9_message 7 = .ok (.iload_n 1, 1) := by decide +kernel
theorem dX9_message_8 : decode cX9_message 8 = .ok (.invokevirtual 177, 3) := by decide +kernel
theorem dX9_message_11 : decode cX9_message 11 = .ok (.ifCond .ne 13, 3) := by decide +kernel
theorem dX9_message_14 : decode cX9_message 14 = .ok (.new 160, 3) := by decide +kernel
theorem dX9_message_17 : decode cX9_message 17 = .ok (.dup, 1) := by decide +kernel
theorem dX9_message_18 : decode cX9_message 18 = .ok (.ldc 180, 2) := by decide +kernel
theorem dX9_message_20 : decode cX9_message 20 = .ok (.invokespecial 164, 3) := by decide +kernel
theorem dX9_message_23 : decode cX9_message 23 = .ok (.athrow, 1) := by decide +kernel
theorem dX9_message_24 : decode cX9_message 24 = .ok (.iload_n 2, 1) := by decide +kernel
theorem dX9_message_25 : decode cX9_message 25 = .ok (.iconst 0, 1) := by decide +kernel
theorem dX9_message_26 : decode cX9_message 26 = .ok (.iconst 4, 1) := by decide +kernel
theorem dX9_message_27 : decode cX9_message 27 = .ok (.invokestatic 80, 3) := by decide +kernel
theorem dX9_message_30 : decode cX9_message 30 = .ok (.ifCond .ne 13, 3) := by decide +kernel
theorem dX9_message_33 : decode cX9_message 33 = .ok (.new 34, 3) := by decide +kernel
theorem dX9_message_36 : decode cX9_message 36 = .ok (.dup, 1) := by decide +kernel
theorem dX9_message_37 : decode cX9_message 37 = .ok (.ldc 182, 2) := by decide +kernel
theorem dX9_message_39 : decode cX9_message 39 = .ok (.invokespecial 38, 3) := by decide +kernel
theorem dX9_message_42 : decode cX9_message 42 = .ok (.athrow, 1) := by decide +kernel
theorem dX9_message_43 : decode cX9_message 43 = .ok (.aload_n 0, 1) := by decide +kernel
theorem dX9_message_44 : decode cX9_message 44 = .ok (.getfield 10, 3) := by decide +kernel
theorem dX9_message_47 : decode cX9_message 47 = .ok (.getfield 97, 3) := by decide +kernel
theorem dX9_message_50 : decode cX9_message 50 = .ok (.iload_n 1, 1) := by decide +kernel
theorem dX9_message_51 : decode cX9_message 51 = .ok (.iload_n 2, 1) := by decide +kernel
theorem dX9_message_52 : decode cX9_message 52 = .ok (.invokevirtual 184, 3) := by decide +kernel
theorem dX9_message_55 : decode cX9_message 55 = .ok (.ireturn, 1) := by decide +kernel
theorem dX9_count_0 : decode cX9_count 0 = .ok (.iload_n 1, 1) := by decide +kernel
theorem dX9_count_1 : decode cX9_count 1 = .ok (.iconst 0, 1) := by decide +kernel
theorem dX9_count_2 : decode cX9_count 2 = .ok (.bipush 6, 2) := by decide +kernel
theorem dX9_count_4 : decode cX9_count 4 = .ok (.invokestatic 80, 3) := by decide +kernel
theorem dX9_count_7 : decode cX9_count 7 = .ok (.ifCond .ne 13, 3) := by decide +kernel
theorem dX9_count_10 : decode cX9_count 10 = .ok (.new 34, 3) := by decide +kernel
theorem dX9_count_13 : decode cX9_count 13 = .ok (.dup, 1) := by decide +kernel
theorem dX9_count_14 : decode cX9_count 14 = .ok (.ldc 189, 2) := by decide +kernel
theorem dX9_count_16 : decode cX9_count 16 = .ok (.invokespecial 38, 3) := by decide +kernel
theorem dX9_count_19 : decode cX9_count 19 = .ok (.athrow, 1) := by decide +kernel
theorem dX9_count_20 : decode cX9_count 20 = .ok (.aload_n 0, 1) := by decide +kernel
theorem dX9_count_21 : decode cX9_count 21 = .ok (.getfield 10, 3) := by decide +kernel
theorem dX9_count_24 : decode cX9_count 24 = .ok (.getfield 191, 3) := by decide +kernel
theorem dX9_count_27 : decode cX9_count 27 = .ok (.iload_n 1, 1) := by decide +kernel
theorem dX9_count_28 : decode cX9_count 28 = .ok (.invokevirtual 195, 3) := by decide +kernel
theorem dX9_count_31 : decode cX9_count 31 = .ok (.ireturn, 1) := by decide +kernel
theorem dX9_isNoisy_0 : decode cX9_isNoisy 0 = .ok (.iload_n 1, 1) := by decide +kernel
theorem dX9_isNoisy_1 : decode cX9_isNoisy 1 = .ok (.iconst 0, 1) := by decide +kernel
theorem dX9_isNoisy_2 : decode cX9_isNoisy 2 = .ok (.ldc 113, 2) := by decide +kernel
theorem dX9_isNoisy_4 : decode cX9_isNoisy 4 = .ok (.invokestatic 80, 3) := by decide +kernel
theorem dX9_isNoisy_7 : decode cX9_isNoisy 7 = .ok (.ifCond .ne 13, 3) := by decide +kernel
theorem dX9_isNoisy_10 : decode cX9_isNoisy 10 = .ok (.new 34, 3) := by decide +kernel
theorem dX9_isNoisy_13 : decode cX9_isNoisy 13 = .ok (.dup, 1) := by decide +kernel
theorem dX9_isNoisy_14 : decode cX9_isNoisy 14 = .ok (.ldc 196, 2) := by decide +kernel
theorem dX9_isNoisy_16 : decode cX9_isNoisy 16 = .ok (.invokespecial 38, 3) := by decide +kernel
theorem dX9_isNoisy_19 : decode cX9_isNoisy 19 = .ok (.athrow, 1) := by decide +kernel
theorem dX9_isNoisy_20 : decode cX9_isNoisy 20 = .ok (.aload_n 0, 1) := by decide +kernel
theorem dX9_isNoisy_21 : decode cX9_isNoisy 21 = .ok (.getfield 10, 3) := by decide +kernel
theorem dX9_isNoisy_24 : decode cX9_isNoisy 24 = .ok (.getfield 116, 3) := by decide +kernel
theorem dX9_isNoisy_27 : decode cX9_isNoisy 27 = .ok (.iload_n 1, 1) := by decide +kernel
theorem dX9_isNoisy_28 : decode cX9_isNoisy 28 = .ok (.iload_n 1, 1) := by decide +kernel
theorem dX9_isNoisy_29 : decode cX9_isNoisy 29 = .ok (.invokevirtual 198, 3) := by decide +kernel
theorem dX9_isNoisy_32 : decode cX9_isNoisy 32 = .ok (.ireturn, 1) := by decide +kernel
theorem dX9_logged_0 : decode cX9_logged 0 = .ok (.aload_n 0, 1) := by decide +kernel
theorem dX9_logged_1 : decode cX9_logged 1 = .ok (.getfield 10, 3) := by decide +kernel
theorem dX9_logged_4 : decode cX9_logged 4 = .ok (.invokevirtual 202, 3) := by decide +kernel
theorem dX9_logged_7 : decode cX9_logged 7 = .ok (.ireturn, 1) := by decide +kernel
theorem dX9_visit_0 : decode cX9_visit 0 = .ok (.iload_n 1, 1) := by decide +kernel
theorem dX9_visit_1 : decode cX9_visit 1 = .ok (.iconst 0, 1) := by decide +kernel
theorem dX9_visit_2 : decode cX9_visit 2 = .ok (.aload_n 0, 1) := by decide +kernel
theorem dX9_visit_3 : decode cX9_visit 3 = .ok (.getfield 10, 3) := by decide +kernel
theorem dX9_visit_6 : decode cX9_visit 6 = .ok (.invokevirtual 202, 3) := by decide +kernel
theorem dX9_visit_9 : decode cX9_visit 9 = .ok (.iconst 1, 1) := by decide +kernel
theorem dX9_visit_10 : decode cX9_visit 10 = .ok (.isub, 1) := by decide +kernel
theorem dX9_visit_11 : decode cX9_visit 11 = .ok (.invokestatic 80, 3) := by decide +kernel
theorem dX9_visit_14 : decode cX9_visit 14 = .ok (.ifCond .ne 13, 3) := by decide +kernel
theorem dX9_visit_17 : decode cX9_visit 17 = .ok (.new 160, 3) := by decide +kernel
theorem dX9_visit_20 : decode cX9_visit 20 = .ok (.dup, 1) := by decide +kernel
theorem dX9_visit_21 : decode cX9_visit 21 = .ok (.ldc 206, 2) := by decide +kernel
theorem dX9_visit_23 : decode cX9_visit 23 = .ok (.invokespecial 164, 3) := by decide +kernel
theorem dX9_visit_26 : decode cX9_visit 26 = .ok (.athrow, 1) := by decide +kernel
theorem dX9_visit_27 : decode cX9_visit 27 = .ok (.iload_n 2, 1) := by decide +kernel
theorem dX9_visit_28 : decode cX9_visit 28 = .ok (.iconst 0, 1) := by decide +kernel
theorem dX9_visit_29 : decode cX9_visit 29 = .ok (.iconst 3, 1) := by decide +kernel
theorem dX9_visit_30 : decode cX9_visit 30 = .ok (.invokestatic 80, 3) := by decide +kernel
theorem dX9_visit_33 : decode cX9_visit 33 = .ok (.ifCond .ne 13, 3) := by decide +kernel
theorem dX9_visit_36 : decode cX9_visit 36 = .ok (.new 34, 3) := by decide +kernel
theorem dX9_visit_39 : decode cX9_visit 39 = .ok (.dup, 1) := by decide +kernel
theorem dX9_visit_40 : decode cX9_visit 40 = .ok (.ldc 208, 2) := by decide +kernel
theorem dX9_visit_42 : decode cX9_visit 42 = .ok (.invokespecial 38, 3) := by decide +kernel
theorem dX9_visit_45 : decode cX9_visit 45 = .ok (.athrow, 1) := by decide +kernel
theorem dX9_visit_46 : decode cX9_visit 46 = .ok (.aload_n 0, 1) := by decide +kernel
theorem dX9_visit_47 : decode cX9_visit 47 = .ok (.getfield 10, 3) := by decide +kernel
theorem dX9_visit_50 : decode cX9_visit 50 = .ok (.iload_n 1, 1) := by decide +kernel
theorem dX9_visit_51 : decode cX9_visit 51 = .ok (.iload_n 2, 1) := by decide +kernel
theorem dX9_visit_52 : decode cX9_visit 52 = .ok (.invokevirtual 210, 3) := by decide +kernel
theorem dX9_visit_55 : decode cX9_visit 55 = .ok (.ireturn, 1) := by decide +kernel
theorem dX9_greatestRotation_0 : decode cX9_greatestRotation 0 = .ok (.aload_n 0, 1) := by decide +kernel
theorem dX9_greatestRotation_1 : decode cX9_greatestRotation 1 = .ok (.getfield 10, 3) := by decide +kernel
theorem dX9_greatestRotation_4 : decode cX9_greatestRotation 4 = .ok (.getfield 191, 3) := by decide +kernel
theorem dX9_greatestRotation_7 : decode cX9_greatestRotation 7 = .ok (.getfield 213, 3) := by decide +kernel
theorem dX9_greatestRotation_10 : decode cX9_greatestRotation 10 = .ok (.ireturn, 1) := by decide +kernel
theorem dX9_waits_0 : decode cX9_waits 0 = .ok (.aload_n 0, 1) := by decide +kernel
theorem dX9_waits_1 : decode cX9_waits 1 = .ok (.getfield 10, 3) := by decide +kernel
theorem dX9_waits_4 : decode cX9_waits 4 = .ok (.getfield 191, 3) := by decide +kernel
theorem dX9_waits_7 : decode cX9_waits 7 = .ok (.astore_n 2, 1) := by decide +kernel
theorem dX9_waits_8 : decode cX9_waits 8 = .ok (.aload_n 2, 1) := by decide +kernel
theorem dX9_waits_9 : decode cX9_waits 9 = .ok (.getfield 216, 3) := by decide +kernel
theorem dX9_waits_12 : decode cX9_waits 12 = .ok (.ifCond .ne 5, 3) := by decide +kernel
theorem dX9_waits_15 : decode cX9_waits 15 = .ok (.dconst 0, 1) := by decide +kernel
theorem dX9_waits_16 : decode cX9_waits 16 = .ok (.dreturn, 1) := by decide +kernel
theorem dX9_waits_17 : decode cX9_waits 17 = .ok (.iload_n 1, 1) := by decide +kernel
theorem dX9_waits_18 : decode cX9_waits 18 = .ok (.ifCond .eq 11, 3) := by decide +kernel
theorem dX9_waits_21 : decode cX9_waits 21 = .ok (.aload_n 2, 1) := by decide +kernel
theorem dX9_waits_22 : decode cX9_waits 22 = .ok (.getfield 219, 3) := by decide +kernel
theorem dX9_waits_25 : decode cX9_waits 25 = .ok (.i2d, 1) := by decide +kernel
theorem dX9_waits_26 : decode cX9_waits 26 = .ok (.goto 14, 3) := by decide +kernel
theorem dX9_waits_29 : decode cX9_waits 29 = .ok (.aload_n 2, 1) := by decide +kernel
theorem dX9_waits_30 : decode cX9_waits 30 = .ok (.getfield 222, 3) := by decide +kernel
theorem dX9_waits_33 : decode cX9_waits 33 = .ok (.l2d, 1) := by decide +kernel
theorem dX9_waits_34 : decode cX9_waits 34 = .ok (.aload_n 2, 1) := by decide +kernel
theorem dX9_waits_35 : decode cX9_waits 35 = .ok (.getfield 216, 3) := by decide +kernel
theorem dX9_waits_38 : decode cX9_waits 38 = .ok (.i2d, 1) := by decide +kernel
theorem dX9_waits_39 : decode cX9_waits 39 = .ok (.ddiv, 1) := by decide +kernel
theorem dX9_waits_40 : decode cX9_waits 40 = .ok (.dreturn, 1) := by decide +kernel
theorem dX9_use_0 : decode cX9_use 0 = .ok (.aload_n 0, 1) := by decide +kernel
theorem dX9_use_1 : decode cX9_use 1 = .ok (.getfield 10, 3) := by decide +kernel
theorem dX9_use_4 : decode cX9_use 4 = .ok (.getfield 106, 3) := by decide +kernel
theorem dX9_use_7 : decode cX9_use 7 = .ok (.ifCond .ne 7, 3) := by decide +kernel
theorem dX9_use_10 : decode cX9_use 10 = .ok (.dconst 0, 1) := by decide +kernel
theorem dX9_use_11 : decode cX9_use 11 = .ok (.goto 23, 3) := by decide +kernel
theorem dX9_use_14 : decode cX9_use 14 = .ok (.aload_n 0, 1) := by decide +kernel
theorem dX9_use_15 : decode cX9_use 15 = .ok (.getfield 10, 3) := by decide +kernel
theorem dX9_use_18 : decode cX9_use 18 = .ok (.getfield 191, 3) := by decide +kernel
theorem dX9_use_21 : decode cX9_use 21 = .ok (.getfield 226, 3) := by decide +kernel
theorem dX9_use_24 : decode cX9_use 24 = .ok (.i2d, 1) := by decide +kernel
theorem dX9_use_25 : decode cX9_use 25 = .ok (.aload_n 0, 1) := by decide +kernel
theorem dX9_use_26 : decode cX9_use 26 = .ok (.getfield 10, 3) := by decide +kernel
theorem dX9_use_29 : decode cX9_use 29 = .ok (.getfield 106, 3) := by decide +kernel
theorem dX9_use_32 : decode cX9_use 32 = .ok (.i2d, 1) := by decide +kernel
theorem dX9_use_33 : decode cX9_use 33 = .ok (.ddiv, 1) := by decide +kernel
theorem dX9_use_34 : decode cX9_use 34 = .ok (.dreturn, 1) := by decide +kernel
theorem dX9_waitOf_0 : decode cX9_waitOf 0 = .ok (.aload_n 0, 1) := by decide +kernel
theorem dX9_waitOf_1 : decode cX9_waitOf 1 = .ok (.getfield 10, 3) := by decide +kernel
theorem dX9_waitOf_4 : decode cX9_waitOf 4 = .ok (.getfield 97, 3) := by decide +kernel
theorem dX9_waitOf_7 : decode cX9_waitOf 7 = .ok (.iload_n 1, 1) := by decide +kernel
theorem dX9_waitOf_8 : decode cX9_waitOf 8 = .ok (.invokevirtual 177, 3) := by decide +kernel
theorem dX9_waitOf_11 : decode cX9_waitOf 11 = .ok (.ifCond .ne 13, 3) := by decide +kernel
theorem dX9_waitOf_14 : decode cX9_waitOf 14 = .ok (.new 160, 3) := by decide +kernel
theorem dX9_waitOf_17 : decode cX9_waitOf 17 = .ok (.dup, 1) := by decide +kernel
theorem dX9_waitOf_18 : decode cX9_waitOf 18 = .ok (.ldc 180, 2) := by decide +kernel
theorem dX9_waitOf_20 : decode cX9_waitOf 20 = .ok (.invokespecial 164, 3) := by decide +kernel
theorem dX9_waitOf_23 : decode cX9_waitOf 23 = .ok (.athrow, 1) := by decide +kernel
theorem dX9_waitOf_24 : decode cX9_waitOf 24 = .ok (.aload_n 0, 1) := by decide +kernel
theorem dX9_waitOf_25 : decode cX9_waitOf 25 = .ok (.getfield 10, 3) := by decide +kernel
theorem dX9_waitOf_28 : decode cX9_waitOf 28 = .ok (.getfield 97, 3) := by decide +kernel
theorem dX9_waitOf_31 : decode cX9_waitOf 31 = .ok (.iload_n 1, 1) := by decide +kernel
theorem dX9_waitOf_32 : decode cX9_waitOf 32 = .ok (.iconst 4, 1) := by decide +kernel
theorem dX9_waitOf_33 : decode cX9_waitOf 33 = .ok (.invokevirtual 184, 3) := by decide +kernel
theorem dX9_waitOf_36 : decode cX9_waitOf 36 = .ok (.iconst (-1), 1) := by decide +kernel
theorem dX9_waitOf_37 : decode cX9_waitOf 37 = .ok (.if_icmp .ne 13, 3) := by decide +kernel
theorem dX9_waitOf_40 : decode cX9_waitOf 40 = .ok (.aload_n 0, 1) := by decide +kernel
theorem dX9_waitOf_41 : decode cX9_waitOf 41 = .ok (.getfield 10, 3) := by decide +kernel
theorem dX9_waitOf_44 : decode cX9_waitOf 44 = .ok (.invokevirtual 133, 3) := by decide +kernel
theorem dX9_waitOf_47 : decode cX9_waitOf 47 = .ok (.ifCond .eq 13, 3) := by decide +kernel
theorem dX9_waitOf_50 : decode cX9_waitOf 50 = .ok (.new 49, 3) := by decide +kernel
theorem dX9_waitOf_53 : decode cX9_waitOf 53 = .ok (.dup, 1) := by decide +kernel
theorem dX9_waitOf_54 : decode cX9_waitOf 54 = .ok (.ldc 229, 2) := by decide +kernel
theorem dX9_waitOf_56 : decode cX9_waitOf 56 = .ok (.invokespecial 53, 3) := by decide +kernel
theorem dX9_waitOf_59 : decode cX9_waitOf 59 = .ok (.athrow, 1) := by decide +kernel
theorem dX9_waitOf_60 : decode cX9_waitOf 60 = .ok (.aload_n 0, 1) := by decide +kernel
theorem dX9_waitOf_61 : decode cX9_waitOf 61 = .ok (.getfield 16, 3) := by decide +kernel
theorem dX9_waitOf_64 : decode cX9_waitOf 64 = .ok (.aload_n 0, 1) := by decide +kernel
theorem dX9_waitOf_65 : decode cX9_waitOf 65 = .ok (.getfield 10, 3) := by decide +kernel
theorem dX9_waitOf_68 : decode cX9_waitOf 68 = .ok (.invokevirtual 231, 3) := by decide +kernel
theorem dX9_waitOf_71 : decode cX9_waitOf 71 = .ok (.iconst (-1), 1) := by decide +kernel
theorem dX9_waitOf_72 : decode cX9_waitOf 72 = .ok (.istore_n 2, 1) := by decide +kernel
theorem dX9_waitOf_73 : decode cX9_waitOf 73 = .ok (.iconst 0, 1) := by decide +kernel
theorem dX9_waitOf_74 : decode cX9_waitOf 74 = .ok (.istore_n 3, 1) := by decide +kernel
theorem dX9_waitOf_75 : decode cX9_waitOf 75 = .ok (.iload_n 3, 1) := by decide +kernel
theorem dX9_waitOf_76 : decode cX9_waitOf 76 = .ok (.sipush 300, 3) := by decide +kernel
theorem dX9_waitOf_79 : decode cX9_waitOf 79 = .ok (.if_icmp .ge 34, 3) := by decide +kernel
theorem dX9_waitOf_82 : decode cX9_waitOf 82 = .ok (.iload_n 2, 1) := by decide +kernel
theorem dX9_waitOf_83 : decode cX9_waitOf 83 = .ok (.iconst (-1), 1) := by decide +kernel
theorem dX9_waitOf_84 : decode cX9_waitOf 84 = .ok (.if_icmp .ne 29, 3) := by decide +kernel
theorem dX9_waitOf_87 : decode cX9_waitOf 87 = .ok (.aload_n 0, 1) := by decide +kernel
theorem dX9_waitOf_88 : decode cX9_waitOf 88 = .ok (.getfield 16, 3) := by decide +kernel
theorem dX9_waitOf_91 : decode cX9_waitOf 91 = .ok (.invokestatic 138, 3) := by decide +kernel
theorem dX9_waitOf_94 : decode cX9_waitOf 94 = .ok (.aload_n 0, 1) := by decide +kernel
theorem dX9_waitOf_95 : decode cX9_waitOf 95 = .ok (.getfield 16, 3) := by decide +kernel
theorem dX9_waitOf_98 : decode cX9_waitOf 98 = .ok (.getfield 97, 3) := by decide +kernel
theorem dX9_waitOf_101 : decode cX9_waitOf 101 = .ok (.iload_n 1, 1) := by decide +kernel
theorem dX9_waitOf_102 : decode cX9_waitOf 102 = .ok (.iconst 4, 1) := by decide +kernel
theorem dX9_waitOf_103 : decode cX9_waitOf 103 = .ok (.invokevirtual 184, 3) := by decide +kernel
theorem dX9_waitOf_106 : decode cX9_waitOf 106 = .ok (.istore_n 2, 1) := by decide +kernel
theorem dX9_waitOf_107 : decode cX9_waitOf 107 = .ok (.iinc 3 1, 3) := by decide +kernel
theorem dX9_waitOf_110 : decode cX9_waitOf 110 = .ok (.goto (-35), 3) := by decide +kernel
theorem dX9_waitOf_113 : decode cX9_waitOf 113 = .ok (.iload_n 2, 1) := by decide +kernel
theorem dX9_waitOf_114 : decode cX9_waitOf 114 = .ok (.ireturn, 1) := by decide +kernel
theorem dX9_completeAfter_0 : decode cX9_completeAfter 0 = .ok (.aload_n 0, 1) := by decide +kernel
theorem dX9_completeAfter_1 : decode cX9_completeAfter 1 = .ok (.getfield 10, 3) := by decide +kernel
theorem dX9_completeAfter_4 : decode cX9_completeAfter 4 = .ok (.invokevirtual 133, 3) := by decide +kernel
theorem dX9_completeAfter_7 : decode cX9_completeAfter 7 = .ok (.ifCond .eq 13, 3) := by decide +kernel
theorem dX9_completeAfter_10 : decode cX9_completeAfter 10 = .ok (.new 49, 3) := by decide +kernel
theorem dX9_completeAfter_13 : decode cX9_completeAfter 13 = .ok (.dup, 1) := by decide +kernel
theorem dX9_completeAfter_14 : decode cX9_completeAfter 14 = .ok (.ldc 136, 2) := by decide +kernel
theorem dX9_completeAfter_16 : decode cX9_completeAfter 16 = .ok (.invokespecial 53, 3) := by decide +kernel
theorem dX9_completeAfter_19 : decode cX9_completeAfter 19 = .ok (.athrow, 1) := by decide +kernel
theorem dX9_completeAfter_20 : decode cX9_completeAfter 20 = .ok (.aload_n 0, 1) := by decide +kernel
theorem dX9_completeAfter_21 : decode cX9_completeAfter 21 = .ok (.getfield 16, 3) := by decide +kernel
theorem dX9_completeAfter_24 : decode cX9_completeAfter 24 = .ok (.aload_n 0, 1) := by decide +kernel
theorem dX9_completeAfter_25 : decode cX9_completeAfter 25 = .ok (.getfield 10, 3) := by decide +kernel
theorem dX9_completeAfter_28 : decode cX9_completeAfter 28 = .ok (.invokevirtual 231, 3) := by decide +kernel
theorem dX9_completeAfter_31 : decode cX9_completeAfter 31 = .ok (.iconst 0, 1) := by decide +kernel
theorem dX9_completeAfter_32 : decode cX9_completeAfter 32 = .ok (.istore_n 1, 1) := by decide +kernel
theorem dX9_completeAfter_33 : decode cX9_completeAfter 33 = .ok (.iload_n 1, 1) := by decide +kernel
theorem dX9_completeAfter_34 : decode cX9_completeAfter 34 = .ok (.sipush 300, 3) := by decide +kernel
theorem dX9_completeAfter_37 : decode cX9_completeAfter 37 = .ok (.if_icmp .ge 28, 3) := by decide +kernel
theorem dX9_completeAfter_40 : decode cX9_completeAfter 40 = .ok (.aload_n 0, 1) := by decide +kernel
theorem dX9_completeAfter_41 : decode cX9_completeAfter 41 = .ok (.getfield 16, 3) := by decide +kernel
theorem dX9_completeAfter_44 : decode cX9_completeAfter 44 = .ok (.invokevirtual 234, 3) := by decide +kernel
theorem dX9_completeAfter_47 : decode cX9_completeAfter 47 = .ok (.ifCond .eq 5, 3) := by decide +kernel
theorem dX9_completeAfter_50 : decode cX9_completeAfter 50 = .ok (.iload_n 1, 1) := by decide +kernel
theorem dX9_completeAfter_51 : decode cX9_completeAfter 51 = .ok (.ireturn, 1) := by decide +kernel
theorem dX9_completeAfter_52 : decode cX9_completeAfter 52 = .ok (.aload_n 0, 1) := by decide +kernel
theorem dX9_completeAfter_53 : decode cX9_completeAfter 53 = .ok (.getfield 16, 3) := by decide +kernel
theorem dX9_completeAfter_56 : decode cX9_completeAfter 56 = .ok (.invokestatic 138, 3) := by decide +kernel
theorem dX9_completeAfter_59 : decode cX9_completeAfter 59 = .ok (.iinc 1 1, 3) := by decide +kernel
theorem dX9_completeAfter_62 : decode cX9_completeAfter 62 = .ok (.goto (-29), 3) := by decide +kernel
theorem dX9_completeAfter_65 : decode cX9_completeAfter 65 = .ok (.aload_n 0, 1) := by decide +kernel
theorem dX9_completeAfter_66 : decode cX9_completeAfter 66 = .ok (.getfield 16, 3) := by decide +kernel
theorem dX9_completeAfter_69 : decode cX9_completeAfter 69 = .ok (.invokevirtual 234, 3) := by decide +kernel
theorem dX9_completeAfter_72 : decode cX9_completeAfter 72 = .ok (.ifCond .eq 9, 3) := by decide +kernel
theorem dX9_completeAfter_75 : decode cX9_completeAfter 75 = .ok (.sipush 300, 3) := by decide +kernel
theorem dX9_completeAfter_78 : decode cX9_completeAfter 78 = .ok (.goto 4, 3) := by decide +kernel
theorem dX9_completeAfter_81 : decode cX9_completeAfter 81 = .ok (.iconst (-1), 1) := by decide +kernel
theorem dX9_completeAfter_82 : decode cX9_completeAfter 82 = .ok (.ireturn, 1) := by decide +kernel
theorem dX9_leastTarget_0 : decode cX9_leastTarget 0 = .ok (.iload_n 1, 1) := by decide +kernel
theorem dX9_leastTarget_1 : decode cX9_leastTarget 1 = .ok (.iconst 0, 1) := by decide +kernel
theorem dX9_leastTarget_2 : decode cX9_leastTarget 2 = .ok (.bipush 100, 2) := by decide +kernel
theorem dX9_leastTarget_4 : decode cX9_leastTarget 4 = .ok (.invokestatic 80, 3) := by decide +kernel
theorem dX9_leastTarget_7 : decode cX9_leastTarget 7 = .ok (.ifCond .ne 13, 3) := by decide +kernel
theorem dX9_leastTarget_10 : decode cX9_leastTarget 10 = .ok (.new 34, 3) := by decide +kernel
theorem dX9_leastTarget_13 : decode cX9_leastTarget 13 = .ok (.dup, 1) := by decide +kernel
theorem dX9_leastTarget_14 : decode cX9_leastTarget 14 = .ok (.ldc 131, 2) := by decide +kernel
theorem dX9_leastTarget_16 : decode cX9_leastTarget 16 = .ok (.invokespecial 38, 3) := by decide +kernel
theorem dX9_leastTarget_19 : decode cX9_leastTarget 19 = .ok (.athrow, 1) := by decide +kernel
theorem dX9_leastTarget_20 : decode cX9_leastTarget 20 = .ok (.aload_n 0, 1) := by decide +kernel
theorem dX9_leastTarget_21 : decode cX9_leastTarget 21 = .ok (.getfield 10, 3) := by decide +kernel
theorem dX9_leastTarget_24 : decode cX9_leastTarget 24 = .ok (.invokevirtual 133, 3) := by decide +kernel
theorem dX9_leastTarget_27 : decode cX9_leastTarget 27 = .ok (.ifCond .eq 13, 3) := by decide +kernel
theorem dX9_leastTarget_30 : decode cX9_leastTarget 30 = .ok (.new 49, 3) := by decide +kernel
theorem dX9_leastTarget_33 : decode cX9_leastTarget 33 = .ok (.dup, 1) := by decide +kernel
theorem dX9_leastTarget_34 : decode cX9_leastTarget 34 = .ok (.ldc 136, 2) := by decide +kernel
theorem dX9_leastTarget_36 : decode cX9_leastTarget 36 = .ok (.invokespecial 53, 3) := by decide +kernel
theorem dX9_leastTarget_39 : decode cX9_leastTarget 39 = .ok (.athrow, 1) := by decide +kernel
theorem dX9_leastTarget_40 : decode cX9_leastTarget 40 = .ok (.bipush 20, 2) := by decide +kernel
theorem dX9_leastTarget_42 : decode cX9_leastTarget 42 = .ok (.istore_n 2, 1) := by decide +kernel
theorem dX9_leastTarget_43 : decode cX9_leastTarget 43 = .ok (.iload_n 2, 1) := by decide +kernel
theorem dX9_leastTarget_44 : decode cX9_leastTarget 44 = .ok (.sipush 400, 3) := by decide +kernel
theorem dX9_leastTarget_47 : decode cX9_leastTarget 47 = .ok (.if_icmp .gt 20, 3) := by decide +kernel
theorem dX9_leastTarget_50 : decode cX9_leastTarget 50 = .ok (.aload_n 0, 1) := by decide +kernel
theorem dX9_leastTarget_51 : decode cX9_leastTarget 51 = .ok (.iload_n 2, 1) := by decide +kernel
theorem dX9_leastTarget_52 : decode cX9_leastTarget 52 = .ok (.iload_n 1, 1) := by decide +kernel
theorem dX9_leastTarget_53 : decode cX9_leastTarget 53 = .ok (.invokevirtual 237, 3) := by decide +kernel
theorem dX9_leastTarget_56 : decode cX9_leastTarget 56 = .ok (.ifCond .eq 5, 3) := by decide +kernel
theorem dX9_leastTarget_59 : decode cX9_leastTarget 59 = .ok (.iload_n 2, 1) := by decide +kernel
theorem dX9_leastTarget_60 : decode cX9_leastTarget 60 = .ok (.ireturn, 1) := by decide +kernel
theorem dX9_leastTarget_61 : decode cX9_leastTarget 61 = .ok (.iinc 2 20, 3) := by decide +kernel
theorem dX9_leastTarget_64 : decode cX9_leastTarget 64 = .ok (.goto (-21), 3) := by decide +kernel
theorem dX9_leastTarget_67 : decode cX9_leastTarget 67 = .ok (.iconst (-1), 1) := by decide +kernel
theorem dX9_leastTarget_68 : decode cX9_leastTarget 68 = .ok (.ireturn, 1) := by decide +kernel
theorem dX9_append_0 : decode cX9_append 0 = .ok (.iload_n 1, 1) := by decide +kernel
theorem dX9_append_1 : decode cX9_append 1 = .ok (.iconst 0, 1) := by decide +kernel
theorem dX9_append_2 : decode cX9_append 2 = .ok (.bipush 127, 2) := by decide +kernel
theorem dX9_append_4 : decode cX9_append 4 = .ok (.invokestatic 80, 3) := by decide +kernel
theorem dX9_append_7 : decode cX9_append 7 = .ok (.ifCond .ne 13, 3) := by decide +kernel
theorem dX9_append_10 : decode cX9_append 10 = .ok (.new 34, 3) := by decide +kernel
theorem dX9_append_13 : decode cX9_append 13 = .ok (.dup, 1) := by decide +kernel
theorem dX9_append_14 : decode cX9_append 14 = .ok (.ldc 240, 2) := by decide +kernel
theorem dX9_append_16 : decode cX9_append 16 = .ok (.invokespecial 38, 3) := by decide +kernel
theorem dX9_append_19 : decode cX9_append 19 = .ok (.athrow, 1) := by decide +kernel
theorem dX9_append_20 : decode cX9_append 20 = .ok (.aload_n 0, 1) := by decide +kernel
theorem dX9_append_21 : decode cX9_append 21 = .ok (.getfield 242, 3) := by decide +kernel
theorem dX9_append_24 : decode cX9_append 24 = .ok (.iconst 0, 1) := by decide +kernel
theorem dX9_append_25 : decode cX9_append 25 = .ok (.aload_n 0, 1) := by decide +kernel
theorem dX9_append_26 : decode cX9_append 26 = .ok (.getfield 26, 3) := by decide +kernel
theorem dX9_append_29 : decode cX9_append 29 = .ok (.arraylength, 1) := by decide +kernel
theorem dX9_append_30 : decode cX9_append 30 = .ok (.iconst 1, 1) := by decide +kernel
theorem dX9_append_31 : decode cX9_append 31 = .ok (.isub, 1) := by decide +kernel
theorem dX9_append_32 : decode cX9_append 32 = .ok (.invokestatic 80, 3) := by decide +kernel
theorem dX9_append_35 : decode cX9_append 35 = .ok (.ifCond .ne 13, 3) := by decide +kernel
theorem dX9_append_38 : decode cX9_append 38 = .ok (.new 49, 3) := by decide +kernel
theorem dX9_append_41 : decode cX9_append 41 = .ok (.dup, 1) := by decide +kernel
theorem dX9_append_42 : decode cX9_append 42 = .ok (.ldc 245, 2) := by decide +kernel
theorem dX9_append_44 : decode cX9_append 44 = .ok (.invokespecial 53, 3) := by decide +kernel
theorem dX9_append_47 : decode cX9_append 47 = .ok (.athrow, 1) := by decide +kernel
theorem dX9_append_48 : decode cX9_append 48 = .ok (.aload_n 0, 1) := by decide +kernel
theorem dX9_append_49 : decode cX9_append 49 = .ok (.getfield 26, 3) := by decide +kernel
theorem dX9_append_52 : decode cX9_append 52 = .ok (.aload_n 0, 1) := by decide +kernel
theorem dX9_append_53 : decode cX9_append 53 = .ok (.getfield 242, 3) := by decide +kernel
theorem dX9_append_56 : decode cX9_append 56 = .ok (.iload_n 1, 1) := by decide +kernel
theorem dX9_append_57 : decode cX9_append 57 = .ok (.i2b, 1) := by decide +kernel
theorem dX9_append_58 : decode cX9_append 58 = .ok (.bastore, 1) := by decide +kernel
theorem dX9_append_59 : decode cX9_append 59 = .ok (.aload_n 0, 1) := by decide +kernel
theorem dX9_append_60 : decode cX9_append 60 = .ok (.dup, 1) := by decide +kernel
theorem dX9_append_61 : decode cX9_append 61 = .ok (.getfield 242, 3) := by decide +kernel
theorem dX9_append_64 : decode cX9_append 64 = .ok (.iconst 1, 1) := by decide +kernel
theorem dX9_append_65 : decode cX9_append 65 = .ok (.iadd, 1) := by decide +kernel
theorem dX9_append_66 : decode cX9_append 66 = .ok (.putfield 242, 3) := by decide +kernel
theorem dX9_append_69 : decode cX9_append 69 = .ok (.aload_n 0, 1) := by decide +kernel
theorem dX9_append_70 : decode cX9_append 70 = .ok (.getfield 242, 3) := by decide +kernel
theorem dX9_append_73 : decode cX9_append 73 = .ok (.ireturn, 1) := by decide +kernel
theorem dX9_clearText_0 : decode cX9_clearText 0 = .ok (.aload_n 0, 1) := by decide +kernel
theorem dX9_clearText_1 : decode cX9_clearText 1 = .ok (.getfield 242, 3) := by decide +kernel
theorem dX9_clearText_4 : decode cX9_clearText 4 = .ok (.istore_n 1, 1) := by decide +kernel
theorem dX9_clearText_5 : decode cX9_clearText 5 = .ok (.aload_n 0, 1) := by decide +kernel
theorem dX9_clearText_6 : decode cX9_clearText 6 = .ok (.iconst 0, 1) := by decide +kernel
theorem dX9_clearText_7 : decode cX9_clearText 7 = .ok (.putfield 242, 3) := by decide +kernel
theorem dX9_clearText_10 : decode cX9_clearText 10 = .ok (.iload_n 1, 1) := by decide +kernel
theorem dX9_clearText_11 : decode cX9_clearText 11 = .ok (.ireturn, 1) := by decide +kernel
theorem dX9_parse_0 : decode cX9_parse 0 = .ok (.aload_n 0, 1) := by decide +kernel
theorem dX9_parse_1 : decode cX9_parse 1 = .ok (.getfield 16, 3) := by decide +kernel
theorem dX9_parse_4 : decode cX9_parse 4 = .ok (.invokevirtual 247, 3) := by decide +kernel
theorem dX9_parse_7 : decode cX9_parse 7 = .ok (.aload_n 0, 1) := by decide +kernel
theorem dX9_parse_8 : decode cX9_parse 8 = .ok (.getfield 16, 3) := by decide +kernel
theorem dX9_parse_11 : decode cX9_parse 11 = .ok (.aload_n 0, 1) := by decide +kernel
theorem dX9_parse_12 : decode cX9_parse 12 = .ok (.getfield 10, 3) := by decide +kernel
theorem dX9_parse_15 : decode cX9_parse 15 = .ok (.invokevirtual 250, 3) := by decide +kernel
theorem dX9_parse_18 : decode cX9_parse 18 = .ok (.new 253, 3) := by decide +kernel
theorem dX9_parse_21 : decode cX9_parse 21 = .ok (.dup, 1) := by decide +kernel
theorem dX9_parse_22 : decode cX9_parse 22 = .ok (.aload_n 0, 1) := by decide +kernel
theorem dX9_parse_23 : decode cX9_parse 23 = .ok (.getfield 26, 3) := by decide +kernel
theorem dX9_parse_26 : decode cX9_parse 26 = .ok (.aload_n 0, 1) := by decide +kernel
theorem dX9_parse_27 : decode cX9_parse 27 = .ok (.getfield 242, 3) := by decide +kernel
theorem dX9_parse_30 : decode cX9_parse 30 = .ok (.aload_n 0, 1) := by decide +kernel
theorem dX9_parse_31 : decode cX9_parse 31 = .ok (.getfield 16, 3) := by decide +kernel
theorem dX9_parse_34 : decode cX9_parse 34 = .ok (.invokespecial 255, 3) := by decide +kernel
theorem dX9_parse_37 : decode cX9_parse 37 = .ok (.astore_n 1, 1) := by decide +kernel
theorem dX9_parse_38 : decode cX9_parse 38 = .ok (.aload_n 1, 1) := by decide +kernel
theorem dX9_parse_39 : decode cX9_parse 39 = .ok (.invokevirtual 258, 3) := by decide +kernel
theorem dX9_parse_42 : decode cX9_parse 42 = .ok (.istore_n 2, 1) := by decide +kernel
theorem dX9_parse_43 : decode cX9_parse 43 = .ok (.iload_n 2, 1) := by decide +kernel
theorem dX9_parse_44 : decode cX9_parse 44 = .ok (.iconst (-1), 1) := by decide +kernel
theorem dX9_parse_45 : decode cX9_parse 45 = .ok (.if_icmp .ne 11, 3) := by decide +kernel
theorem dX9_parse_48 : decode cX9_parse 48 = .ok (.bipush (-10), 2) := by decide +kernel
theorem dX9_parse_50 : decode cX9_parse 50 = .ok (.aload_n 1, 1) := by decide +kernel
theorem dX9_parse_51 : decode cX9_parse 51 = .ok (.getfield 261, 3) := by decide +kernel
theorem dX9_parse_54 : decode cX9_parse 54 = .ok (.isub, 1) := by decide +kernel
theorem dX9_parse_55 : decode cX9_parse 55 = .ok (.ireturn, 1) := by decide +kernel
theorem dX9_parse_56 : decode cX9_parse 56 = .ok (.aload_n 0, 1) := by decide +kernel
theorem dX9_parse_57 : decode cX9_parse 57 = .ok (.getfield 22, 3) := by decide +kernel
theorem dX9_parse_60 : decode cX9_parse 60 = .ok (.aload_n 0, 1) := by decide +kernel
theorem dX9_parse_61 : decode cX9_parse 61 = .ok (.getfield 10, 3) := by decide +kernel
theorem dX9_parse_64 : decode cX9_parse 64 = .ok (.invokevirtual 54, 3) := by decide +kernel
theorem dX9_parse_67 : decode cX9_parse 67 = .ok (.aload_n 0, 1) := by decide +kernel
theorem dX9_parse_68 : decode cX9_parse 68 = .ok (.getfield 10, 3) := by decide +kernel
theorem dX9_parse_71 : decode cX9_parse 71 = .ok (.aload_n 0, 1) := by decide +kernel
theorem dX9_parse_72 : decode cX9_parse 72 = .ok (.getfield 16, 3) := by decide +kernel
theorem dX9_parse_75 : decode cX9_parse 75 = .ok (.invokevirtual 231, 3) := by decide +kernel
theorem dX9_parse_78 : decode cX9_parse 78 = .ok (.iload_n 2, 1) := by decide +kernel
theorem dX9_parse_79 : decode cX9_parse 79 = .ok (.ireturn, 1) := by decide +kernel
theorem dX9_undo_0 : decode cX9_undo 0 = .ok (.aload_n 0, 1) := by decide +kernel
theorem dX9_undo_1 : decode cX9_undo 1 = .ok (.getfield 22, 3) := by decide +kernel
theorem dX9_undo_4 : decode cX9_undo 4 = .ok (.getfield 264, 3) := by decide +kernel
theorem dX9_undo_7 : decode cX9_undo 7 = .ok (.ifCond .ne 14, 3) := by decide +kernel
theorem dX9_undo_10 : decode cX9_undo 10 = .ok (.new 49, 3) := by decide +kernel
theorem dX9_undo_13 : decode cX9_undo 13 = .ok (.dup, 1) := by decide +kernel
theorem dX9_undo_14 : decode cX9_undo 14 = .ok (.ldc_w 267, 3) := by decide +kernel
theorem dX9_undo_17 : decode cX9_undo 17 = .ok (.invokespecial 53, 3) := by decide +kernel
theorem dX9_undo_20 : decode cX9_undo 20 = .ok (.athrow, 1) := by decide +kernel
theorem dX9_undo_21 : decode cX9_undo 21 = .ok (.aload_n 0, 1) := by decide +kernel
theorem dX9_undo_22 : decode cX9_undo 22 = .ok (.getfield 22, 3) := by decide +kernel
theorem dX9_undo_25 : decode cX9_undo 25 = .ok (.aload_n 0, 1) := by decide +kernel
theorem dX9_undo_26 : decode cX9_undo 26 = .ok (.getfield 10, 3) := by decide +kernel
theorem dX9_undo_29 : decode cX9_undo 29 = .ok (.invokevirtual 269, 3) := by decide +kernel
theorem dX9_undo_32 : decode cX9_undo 32 = .ok (.aload_n 0, 1) := by decide +kernel
theorem dX9_undo_33 : decode cX9_undo 33 = .ok (.getfield 22, 3) := by decide +kernel
theorem dX9_undo_36 : decode cX9_undo 36 = .ok (.getfield 264, 3) := by decide +kernel
theorem dX9_undo_39 : decode cX9_undo 39 = .ok (.ireturn, 1) := by decide +kernel
theorem dX9_digest_0 : decode cX9_digest 0 = .ok (.ldc2_w 272, 3) := by decide +kernel
theorem dX9_digest_3 : decode cX9_digest 3 = .ok (.aload_n 0, 1) := by decide +kernel
theorem dX9_digest_4 : decode cX9_digest 4 = .ok (.getfield 242, 3) := by decide +kernel
theorem dX9_digest_7 : decode cX9_digest 7 = .ok (.i2l, 1) := by decide +kernel
theorem dX9_digest_8 : decode cX9_digest 8 = .ok (.invokestatic 274, 3) := by decide +kernel
theorem dX9_digest_11 : decode cX9_digest 11 = .ok (.lstore_n 1, 1) := by decide +kernel
theorem dX9_digest_12 : decode cX9_digest 12 = .ok (.aload_n 0, 1) := by decide +kernel
theorem dX9_digest_13 : decode cX9_digest 13 = .ok (.getfield 10, 3) := by decide +kernel
theorem dX9_digest_16 : decode cX9_digest 16 = .ok (.lload_n 1, 1) := by decide +kernel
theorem dX9_digest_17 : decode cX9_digest 17 = .ok (.invokevirtual 278, 3) := by decide +kernel
theorem dX9_digest_20 : decode cX9_digest 20 = .ok (.lstore_n 1, 1) := by decide +kernel
theorem dX9_digest_21 : decode cX9_digest 21 = .ok (.lload_n 1, 1) := by decide +kernel
theorem dX9_digest_22 : decode cX9_digest 22 = .ok (.aload_n 0, 1) := by decide +kernel
theorem dX9_digest_23 : decode cX9_digest 23 = .ok (.getfield 22, 3) := by decide +kernel
theorem dX9_digest_26 : decode cX9_digest 26 = .ok (.getfield 264, 3) := by decide +kernel
theorem dX9_digest_29 : decode cX9_digest 29 = .ok (.i2l, 1) := by decide +kernel
theorem dX9_digest_30 : decode cX9_digest 30 = .ok (.invokestatic 274, 3) := by decide +kernel
theorem dX9_digest_33 : decode cX9_digest 33 = .ok (.lreturn, 1) := by decide +kernel
theorem dX9_isWithin_0 : decode cX9_isWithin 0 = .ok (.iload_n 0, 1) := by decide +kernel
theorem dX9_isWithin_1 : decode cX9_isWithin 1 = .ok (.iload_n 1, 1) := by decide +kernel
theorem dX9_isWithin_2 : decode cX9_isWithin 2 = .ok (.if_icmp .lt 12, 3) := by decide +kernel
theorem dX9_isWithin_5 : decode cX9_isWithin 5 = .ok (.iload_n 0, 1) := by decide +kernel
theorem dX9_isWithin_6 : decode cX9_isWithin 6 = .ok (.iload_n 2, 1) := by decide +kernel
theorem dX9_isWithin_7 : decode cX9_isWithin 7 = .ok (.if_icmp .gt 7, 3) := by decide +kernel
theorem dX9_isWithin_10 : decode cX9_isWithin 10 = .ok (.iconst 1, 1) := by decide +kernel
theorem dX9_isWithin_11 : decode cX9_isWithin 11 = .ok (.goto 4, 3) := by decide +kernel
theorem dX9_isWithin_14 : decode cX9_isWithin 14 = .ok (.iconst 0, 1) := by decide +kernel
theorem dX9_isWithin_15 : decode cX9_isWithin 15 = .ok (.ireturn, 1) := by decide +kernel
theorem dX9_isAddress_0 : decode cX9_isAddress 0 = .ok (.iload_n 0, 1) := by decide +kernel
theorem dX9_isAddress_1 : decode cX9_isAddress 1 = .ok (.iconst 0, 1) := by decide +kernel
theorem dX9_isAddress_2 : decode cX9_isAddress 2 = .ok (.bipush 31, 2) := by decide +kernel
theorem dX9_isAddress_4 : decode cX9_isAddress 4 = .ok (.invokestatic 80, 3) := by decide +kernel
theorem dX9_isAddress_7 : decode cX9_isAddress 7 = .ok (.ireturn, 1) := by decide +kernel
theorem dX9_addressBehind_0 : decode cX9_addressBehind 0 = .ok (.iload_n 0, 1) := by decide +kernel
theorem dX9_addressBehind_1 : decode cX9_addressBehind 1 = .ok (.iconst 1, 1) := by decide +kernel
theorem dX9_addressBehind_2 : decode cX9_addressBehind 2 = .ok (.iadd, 1) := by decide +kernel
theorem dX9_addressBehind_3 : decode cX9_addressBehind 3 = .ok (.bipush 31, 2) := by decide +kernel
theorem dX9_addressBehind_5 : decode cX9_addressBehind 5 = .ok (.iand, 1) := by decide +kernel
theorem dX9_addressBehind_6 : decode cX9_addressBehind 6 = .ok (.ireturn, 1) := by decide +kernel
theorem dX9_mixed_0 : decode cX9_mixed 0 = .ok (.ldc2_w 282, 3) := by decide +kernel
theorem dX9_mixed_3 : decode cX9_mixed 3 = .ok (.lload_n 0, 1) := by decide +kernel
theorem dX9_mixed_4 : decode cX9_mixed 4 = .ok (.lmul, 1) := by decide +kernel
theorem dX9_mixed_5 : decode cX9_mixed 5 = .ok (.lload_n 2, 1) := by decide +kernel
theorem dX9_mixed_6 : decode cX9_mixed 6 = .ok (.ladd, 1) := by decide +kernel
theorem dX9_mixed_7 : decode cX9_mixed 7 = .ok (.lreturn, 1) := by decide +kernel
theorem dX9_sendsAll_0 : decode cX9_sendsAll 0 = .ok (.aload_n 0, 1) := by decide +kernel
theorem dX9_sendsAll_1 : decode cX9_sendsAll 1 = .ok (.getfield 16, 3) := by decide +kernel
theorem dX9_sendsAll_4 : decode cX9_sendsAll 4 = .ok (.aload_n 0, 1) := by decide +kernel
theorem dX9_sendsAll_5 : decode cX9_sendsAll 5 = .ok (.getfield 10, 3) := by decide +kernel
theorem dX9_sendsAll_8 : decode cX9_sendsAll 8 = .ok (.invokevirtual 231, 3) := by decide +kernel
theorem dX9_sendsAll_11 : decode cX9_sendsAll 11 = .ok (.aload_n 0, 1) := by decide +kernel
theorem dX9_sendsAll_12 : decode cX9_sendsAll 12 = .ok (.getfield 16, 3) := by decide +kernel
theorem dX9_sendsAll_15 : decode cX9_sendsAll 15 = .ok (.iload_n 1, 1) := by decide +kernel
theorem dX9_sendsAll_16 : decode cX9_sendsAll 16 = .ok (.putfield 86, 3) := by decide +kernel
theorem dX9_sendsAll_19 : decode cX9_sendsAll 19 = .ok (.iconst 0, 1) := by decide +kernel
theorem dX9_sendsAll_20 : decode cX9_sendsAll 20 = .ok (.istore_n 3, 1) := by decide +kernel
theorem dX9_sendsAll_21 : decode cX9_sendsAll 21 = .ok (.iload_n 3, 1) := by decide +kernel
theorem dX9_sendsAll_22 : decode cX9_sendsAll 22 = .ok (.iload_n 2, 1) := by decide +kernel
theorem dX9_sendsAll_23 : decode cX9_sendsAll 23 = .ok (.if_icmp .ge 26, 3) := by decide +kernel
theorem dX9_sendsAll_26 : decode cX9_sendsAll 26 = .ok (.aload_n 0, 1) := by decide +kernel
theorem dX9_sendsAll_27 : decode cX9_sendsAll 27 = .ok (.getfield 16, 3) := by decide +kernel
theorem dX9_sendsAll_30 : decode cX9_sendsAll 30 = .ok (.invokevirtual 284, 3) := by decide +kernel
theorem dX9_sendsAll_33 : decode cX9_sendsAll 33 = .ok (.ifCond .eq 16, 3) := by decide +kernel
theorem dX9_sendsAll_36 : decode cX9_sendsAll 36 = .ok (.aload_n 0, 1) := by decide +kernel
theorem dX9_sendsAll_37 : decode cX9_sendsAll 37 = .ok (.getfield 16, 3) := by decide +kernel
theorem dX9_sendsAll_40 : decode cX9_sendsAll 40 = .ok (.invokestatic 138, 3) := by decide +kernel
theorem dX9_sendsAll_43 : decode cX9_sendsAll 43 = .ok (.iinc 3 1, 3) := by decide +kernel
theorem dX9_sendsAll_46 : decode cX9_sendsAll 46 = .ok (.goto (-25), 3) := by decide +kernel
theorem dX9_sendsAll_49 : decode cX9_sendsAll 49 = .ok (.aload_n 0, 1) := by decide +kernel
theorem dX9_sendsAll_50 : decode cX9_sendsAll 50 = .ok (.getfield 16, 3) := by decide +kernel
theorem dX9_sendsAll_53 : decode cX9_sendsAll 53 = .ok (.invokevirtual 284, 3) := by decide +kernel
theorem dX9_sendsAll_56 : decode cX9_sendsAll 56 = .ok (.ifCond .ne 7, 3) := by decide +kernel
theorem dX9_sendsAll_59 : decode cX9_sendsAll 59 = .ok (.iconst 1, 1) := by decide +kernel
theorem dX9_sendsAll_60 : decode cX9_sendsAll 60 = .ok (.goto 4, 3) := by decide +kernel
theorem dX9_sendsAll_63 : decode cX9_sendsAll 63 = .ok (.iconst 0, 1) := by decide +kernel
theorem dX9_sendsAll_64 : decode cX9_sendsAll 64 = .ok (.ireturn, 1) := by decide +kernel
theorem dX10_init_0 : decode cX10_init 0 = .ok (.aload_n 0, 1) := by decide +kernel
theorem dX10_init_1 : decode cX10_init 1 = .ok (.invokespecial 1, 3) := by decide +kernel
theorem dX10_init_4 : decode cX10_init 4 = .ok (.aload_n 0, 1) := by decide +kernel
theorem dX10_init_5 : decode cX10_init 5 = .ok (.sipush 942, 3) := by decide +kernel
theorem dX10_init_8 : decode cX10_init 8 = .ok (.newarray .int, 2) := by decide +kernel
theorem dX10_init_10 : decode cX10_init 10 = .ok (.putfield 7, 3) := by decide +kernel
theorem dX10_init_13 : decode cX10_init 13 = .ok (.aload_n 0, 1) := by decide +kernel
theorem dX10_init_14 : decode cX10_init 14 = .ok (.sipush 3768, 3) := by decide +kernel
theorem dX10_init_17 : decode cX10_init 17 = .ok (.newarray .int, 2) := by decide +kernel
theorem dX10_init_19 : decode cX10_init 19 = .ok (.putfield 13, 3) := by decide +kernel
theorem dX10_init_22 : decode cX10_init 22 = .ok (.aload_n 0, 1) := by decide +kernel
theorem dX10_init_23 : decode cX10_init 23 = .ok (.sipush 942, 3) := by decide +kernel
theorem dX10_init_26 : decode cX10_init 26 = .ok (.newarray .int, 2) := by decide +kernel
theorem dX10_init_28 : decode cX10_init 28 = .ok (.putfield 16, 3) := by decide +kernel
theorem dX10_init_31 : decode cX10_init 31 = .ok (.aload_n 0, 1) := by decide +kernel
theorem dX10_init_32 : decode cX10_init 32 = .ok (.bipush 120, 2) := by decide +kernel
theorem dX10_init_34 : decode cX10_init 34 = .ok (.newarray .int, 2) := by decide +kernel
theorem dX10_init_36 : decode cX10_init 36 = .ok (.putfield 19, 3) := by decide +kernel
theorem dX10_init_39 : decode cX10_init 39 = .ok (.aload_n 0, 1) := by decide +kernel
theorem dX10_init_40 : decode cX10_init 40 = .ok (.getfield 7, 3) := by decide +kernel
theorem dX10_init_43 : decode cX10_init 43 = .ok (.iconst 0, 1) := by decide +kernel
theorem dX10_init_44 : decode cX10_init 44 = .ok (.bipush 60, 2) := by decide +kernel
theorem dX10_init_46 : decode cX10_init 46 = .ok (.iastore, 1) := by decide +kernel
theorem dX10_init_47 : decode cX10_init 47 = .ok (.aload_n 0, 1) := by decide +kernel
theorem dX10_init_48 : decode cX10_init 48 = .ok (.getfield 7, 3) := by decide +kernel
theorem dX10_init_51 : decode cX10_init 51 = .ok (.iconst 1, 1) := by decide +kernel
theorem dX10_init_52 : decode cX10_init 52 = .ok (.iconst 4, 1) := by decide +kernel
theorem dX10_init_53 : decode cX10_init 53 = .ok (.iastore, 1) := by decide +kernel
theorem dX10_init_54 : decode cX10_init 54 = .ok (.aload_n 0, 1) := by decide +kernel
theorem dX10_init_55 : decode cX10_init 55 = .ok (.getfield 7, 3) := by decide +kernel
theorem dX10_init_58 : decode cX10_init 58 = .ok (.iconst 2, 1) := by decide +kernel
theorem dX10_init_59 : decode cX10_init 59 = .ok (.iconst 3, 1) := by decide +kernel
theorem dX10_init_60 : decode cX10_init 60 = .ok (.iastore, 1) := by decide +kernel
theorem dX10_init_61 : decode cX10_init 61 = .ok (.aload_n 0, 1) := by decide +kernel
theorem dX10_init_62 : decode cX10_init 62 = .ok (.getfield 7, 3) := by decide +kernel
theorem dX10_init_65 : decode cX10_init 65 = .ok (.iconst 4, 1) := by decide +kernel
theorem dX10_init_66 : decode cX10_init 66 = .ok (.iconst (-1), 1) := by decide +kernel
theorem dX10_init_67 : decode cX10_init 67 = .ok (.iastore, 1) := by decide +kernel
theorem dX10_init_68 : decode cX10_init 68 = .ok (.return_, 1) := by decide +kernel
theorem dX10_thrown_0 : decode cX10_thrown 0 = .ok (.aload_n 0, 1) := by decide +kernel
theorem dX10_thrown_1 : decode cX10_thrown 1 = .ok (.getfield 22, 3) := by decide +kernel
theorem dX10_thrown_4 : decode cX10_thrown 4 = .ok (.ireturn, 1) := by decide +kernel
theorem dX10_in_0 : decode cX10_in 0 = .ok (.lload_n 0, 1) := by decide +kernel
theorem dX10_in_1 : decode cX10_in 1 = .ok (.lload_n 2, 1) := by decide +kernel
theorem dX10_in_2 : decode cX10_in 2 = .ok (.lcmp, 1) := by decide +kernel
theorem dX10_in_3 : decode cX10_in 3 = .ok (.ifCond .lt 14, 3) := by decide +kernel
theorem dX10_in_6 : decode cX10_in 6 = .ok (.lload_n 0, 1) := by decide +kernel
theorem dX10_in_7 : decode cX10_in 7 = .ok (.lload 4, 2) := by decide +kernel
theorem dX10_in_9 : decode cX10_in 9 = .ok (.lcmp, 1) := by decide +kernel
theorem dX10_in_10 : decode cX10_in 10 = .ok (.ifCond .gt 7, 3) := by decide +kernel
theorem dX10_in_13 : decode cX10_in 13 = .ok (.iconst 1, 1) := by decide +kernel
theorem dX10_in_14 : decode cX10_in 14 = .ok (.goto 4, 3) := by decide +kernel
theorem dX10_in_17 : decode cX10_in 17 = .ok (.iconst 0, 1) := by decide +kernel
theorem dX10_in_18 : decode cX10_in 18 = .ok (.ireturn, 1) := by decide +kernel
theorem dX10_goes_0 : decode cX10_goes 0 = .ok (.aload_n 0, 1) := by decide +kernel
theorem dX10_goes_1 : decode cX10_goes 1 = .ok (.iload_n 1, 1) := by decide +kernel
theorem dX10_goes_2 : decode cX10_goes 2 = .ok (.ifCond .ne 7, 3) := by decide +kernel
theorem dX10_goes_5 : decode cX10_goes 5 = .ok (.iconst 1, 1) := by decide +kernel
theorem dX10_goes_6 : decode cX10_goes 6 = .ok (.goto 20, 3) := by decide +kernel
theorem dX10_goes_9 : decode cX10_goes 9 = .ok (.iload_n 2, 1) := by decide +kernel
theorem dX10_goes_10 : decode cX10_goes 10 = .ok (.ifCond .ne 7, 3) := by decide +kernel
theorem dX10_goes_13 : decode cX10_goes 13 = .ok (.iconst 2, 1) := by decide +kernel
theorem dX10_goes_14 : decode cX10_goes 14 = .ok (.goto 12, 3) := by decide +kernel
theorem dX10_goes_17 : decode cX10_goes 17 = .ok (.iload_n 3, 1) := by decide +kernel
theorem dX10_goes_18 : decode cX10_goes 18 = .ok (.ifCond .ne 7, 3) := by decide +kernel
theorem dX10_goes_21 : decode cX10_goes 21 = .ok (.iconst 3, 1) := by decide +kernel
theorem dX10_goes_22 : decode cX10_goes 22 = .ok (.goto 4, 3) := by decide +kernel
theorem dX10_goes_25 : decode cX10_goes 25 = .ok (.iconst 0, 1) := by decide +kernel
theorem dX10_goes_26 : decode cX10_goes 26 = .ok (.putfield 22, 3) := by decide +kernel
theorem dX10_goes_29 : decode cX10_goes 29 = .ok (.aload_n 0, 1) := by decide +kernel
theorem dX10_goes_30 : decode cX10_goes 30 = .ok (.getfield 22, 3) := by decide +kernel
theorem dX10_goes_33 : decode cX10_goes 33 = .ok (.ifCond .ne 7, 3) := by decide +kernel
theorem dX10_goes_36 : decode cX10_goes 36 = .ok (.iconst 1, 1) := by decide +kernel
theorem dX10_goes_37 : decode cX10_goes 37 = .ok (.goto 4, 3) := by decide +kernel
theorem dX10_goes_40 : decode cX10_goes 40 = .ok (.iconst 0, 1) := by decide +kernel
theorem dX10_goes_41 : decode cX10_goes 41 = .ok (.ireturn, 1) := by decide +kernel
theorem dX10_save_0 : decode cX10_save 0 = .ok (.aload_n 0, 1) := by decide +kernel
theorem dX10_save_1 : decode cX10_save 1 = .ok (.getfield 26, 3) := by decide +kernel
theorem dX10_save_4 : decode cX10_save 4 = .ok (.iconst 4, 1) := by decide +kernel
theorem dX10_save_5 : decode cX10_save 5 = .ok (.if_icmp .ne 44, 3) := by decide +kernel
theorem dX10_save_8 : decode cX10_save 8 = .ok (.iconst 0, 1) := by decide +kernel
theorem dX10_save_9 : decode cX10_save 9 = .ok (.istore_n 1, 1) := by decide +kernel
theorem dX10_save_10 : decode cX10_save 10 = .ok (.iload_n 1, 1) := by decide +kernel
theorem dX10_save_11 : decode cX10_save 11 = .ok (.sipush 2826, 3) := by decide +kernel
theorem dX10_save_14 : decode cX10_save 14 = .ok (.if_icmp .ge 25, 3) := by decide +kernel
theorem dX10_save_17 : decode cX10_save 17 = .ok (.aload_n 0, 1) := by decide +kernel
theorem dX10_save_18 : decode cX10_save 18 = .ok (.getfield 13, 3) := by decide +kernel
theorem dX10_save_21 : decode cX10_save 21 = .ok (.iload_n 1, 1) := by decide +kernel
theorem dX10_save_22 : decode cX10_save 22 = .ok (.aload_n 0, 1) := by decide +kernel
theorem dX10_save_23 : decode cX10_save 23 = .ok (.getfield 13, 3) := by decide +kernel
theorem dX10_save_26 : decode cX10_save 26 = .ok (.iload_n 1, 1) := by decide +kernel
theorem dX10_save_27 : decode cX10_save 27 = .ok (.sipush 942, 3) := by decide +kernel
theorem dX10_save_30 : decode cX10_save 30 = .ok (.iadd, 1) := by decide +kernel
theorem dX10_save_31 : decode cX10_save 31 = .ok (.iaload, 1) := by decide +kernel
theorem dX10_save_32 : decode cX10_save 32 = .ok (.iastore, 1) := by decide +kernel
theorem dX10_save_33 : decode cX10_save 33 = .ok (.iinc 1 1, 3) := by decide +kernel
theorem dX10_save_36 : decode cX10_save 36 = .ok (.goto (-26), 3) := by decide +kernel
theorem dX10_save_39 : decode cX10_save 39 = .ok (.aload_n 0, 1) := by decide +kernel
theorem dX10_save_40 : decode cX10_save 40 = .ok (.dup, 1) := by decide +kernel
theorem dX10_save_41 : decode cX10_save 41 = .ok (.getfield 26, 3) := by decide +kernel
theorem dX10_save_44 : decode cX10_save 44 = .ok (.iconst 1, 1) := by decide +kernel
theorem dX10_save_45 : decode cX10_save 45 = .ok (.isub, 1) := by decide +kernel
theorem dX10_save_46 : decode cX10_save 46 = .ok (.putfield 26, 3) := by decide +kernel
theorem dX10_save_49 : decode cX10_save 49 = .ok (.iconst 0, 1) := by decide +kernel
theorem dX10_save_50 : decode cX10_save 50 = .ok (.istore_n 1, 1) := by decide +kernel
theorem dX10_save_51 : decode cX10_save 51 = .ok (.iload_n 1, 1) := by decide +kernel
theorem dX10_save_52 : decode cX10_save 52 = .ok (.sipush 942, 3) := by decide +kernel
theorem dX10_save_55 : decode cX10_save 55 = .ok (.if_icmp .ge 30, 3) := by decide +kernel
theorem dX10_save_58 : decode cX10_save 58 = .ok (.aload_n 0, 1) := by decide +kernel
theorem dX10_save_59 : decode cX10_save 59 = .ok (.getfield 13, 3) := by decide +kernel
theorem dX10_save_62 : decode cX10_save 62 = .ok (.sipush 942, 3) := by decide +kernel
theorem dX10_save_65 : decode cX10_save 65 = .ok (.aload_n 0, 1) := by decide +kernel
theorem dX10_save_66 : decode cX10_save 66 = .ok (.getfield 26, 3) := by decide +kernel
theorem dX10_save_69 : decode cX10_save 69 = .ok (.imul, 1) := by decide +kernel
theorem dX10_save_70 : decode cX10_save 70 = .ok (.iload_n 1, 1) := by decide +kernel
theorem dX10_save_71 : decode cX10_save 71 = .ok (.iadd, 1) := by decide +kernel
theorem dX10_save_72 : decode cX10_save 72 = .ok (.aload_n 0, 1) := by decide +kernel
theorem dX10_save_73 : decode cX10_save 73 = .ok (.getfield 7, 3) := by decide +kernel
theorem dX10_save_76 : decode cX10_save 76 = .ok (.iload_n 1, 1) := by decide +kernel
theorem dX10_save_77 : decode cX10_save 77 = .ok (.iaload, 1) := by decide +kernel
theorem dX10_save_78 : decode cX10_save 78 = .ok (.iastore, 1) := by decide +kernel
theorem dX10_save_79 : decode cX10_save 79 = .ok (.iinc 1 1, 3) := by decide +kernel
theorem dX10_save_82 : decode cX10_save 82 = .ok (.goto (-31), 3) := by decide +kernel
theorem dX10_save_85 : decode cX10_save 85 = .ok (.aload_n 0, 1) := by decide +kernel
theorem dX10_save_86 : decode cX10_save 86 = .ok (.dup, 1) := by decide +kernel
theorem dX10_save_87 : decode cX10_save 87 = .ok (.getfield 26, 3) := by decide +kernel
theorem dX10_save_90 : decode cX10_save 90 = .ok (.iconst 1, 1) := by decide +kernel
theorem dX10_save_91 : decode cX10_save 91 = .ok (.iadd, 1) := by decide +kernel
theorem dX10_save_92 : decode cX10_save 92 = .ok (.putfield 26, 3) := by decide +kernel
theorem dX10_save_95 : decode cX10_save 95 = .ok (.return_, 1) := by decide +kernel
theorem dX10_lays_0 : decode cX10_lays 0 = .ok (.iconst 0, 1) := by decide +kernel
theorem dX10_lays_1 : decode cX10_lays 1 = .ok (.istore_n 1, 1) := by decide +kernel
theorem dX10_lays_2 : decode cX10_lays 2 = .ok (.iload_n 1, 1) := by decide +kernel
theorem dX10_lays_3 : decode cX10_lays 3 = .ok (.sipush 942, 3) := by decide +kernel
theorem dX10_lays_6 : decode cX10_lays 6 = .ok (.if_icmp .ge 21, 3) := by decide +kernel
theorem dX10_lays_9 : decode cX10_lays 9 = .ok (.aload_n 0, 1) := by decide +kernel
theorem dX10_lays_10 : decode cX10_lays 10 = .ok (.getfield 16, 3) := by decide +kernel
theorem dX10_lays_13 : decode cX10_lays 13 = .ok (.iload_n 1, 1) := by decide +kernel
theorem dX10_lays_14 : decode cX10_lays 14 = .ok (.aload_n 0, 1) := by decide +kernel
theorem dX10_lays_15 : decode cX10_lays 15 = .ok (.getfield 7, 3) := by decide +kernel
theorem dX10_lays_18 : decode cX10_lays 18 = .ok (.iload_n 1, 1) := by decide +kernel
theorem dX10_lays_19 : decode cX10_lays 19 = .ok (.iaload, 1) := by decide +kernel
theorem dX10_lays_20 : decode cX10_lays 20 = .ok (.iastore, 1) := by decide +kernel
theorem dX10_lays_21 : decode cX10_lays 21 = .ok (.iinc 1 1, 3) := by decide +kernel
theorem dX10_lays_24 : decode cX10_lays 24 = .ok (.goto (-22), 3) := by decide +kernel
theorem dX10_lays_27 : decode cX10_lays 27 = .ok (.return_, 1) := by decide +kernel
theorem dX10_takesBack_0 : decode cX10_takesBack 0 = .ok (.iconst 0, 1) := by decide +kernel
theorem dX10_takesBack_1 : decode cX10_takesBack 1 = .ok (.istore_n 1, 1) := by decide +kernel
theorem dX10_takesBack_2 : decode cX10_takesBack 2 = .ok (.iload_n 1, 1) := by decide +kernel
theorem dX10_takesBack_3 : decode cX10_takesBack 3 = .ok (.sipush 942, 3) := by decide +kernel
theorem dX10_takesBack_6 : decode cX10_takesBack 6 = .ok (.if_icmp .ge 21, 3) := by decide +kernel
theorem dX10_takesBack_9 : decode cX10_takesBack 9 = .ok (.aload_n 0, 1) := by decide +kernel
theorem dX10_takesBack_10 : decode cX10_takesBack 10 = .ok (.getfield 7, 3) := by decide +kernel
theorem dX10_takesBack_13 : decode cX10_takesBack 13 = .ok (.iload_n 1, 1) := by decide +kernel
theorem dX10_takesBack_14 : decode cX10_takesBack 14 = .ok (.aload_n 0, 1) := by decide +kernel
theorem dX10_takesBack_15 : decode cX10_takesBack 15 = .ok (.getfield 16, 3) := by decide +kernel
theorem dX10_takesBack_18 : decode cX10_takesBack 18 = .ok (.iload_n 1, 1) := by decide +kernel
theorem dX10_takesBack_19 : decode cX10_takesBack 19 = .ok (.iaload, 1) := by decide +kernel
theorem dX10_takesBack_20 : decode cX10_takesBack 20 = .ok (.iastore, 1) := by decide +kernel
theorem dX10_takesBack_21 : decode cX10_takesBack 21 = .ok (.iinc 1 1, 3) := by decide +kernel
theorem dX10_takesBack_24 : decode cX10_takesBack 24 = .ok (.goto (-22), 3) := by decide +kernel
theorem dX10_takesBack_27 : decode cX10_takesBack 27 = .ok (.return_, 1) := by decide +kernel
theorem dX10_at_0 : decode cX10_at 0 = .ok (.bipush 18, 2) := by decide +kernel
theorem dX10_at_2 : decode cX10_at 2 = .ok (.bipush 7, 2) := by decide +kernel
theorem dX10_at_4 : decode cX10_at 4 = .ok (.iload_n 0, 1) := by decide +kernel
theorem dX10_at_5 : decode cX10_at 5 = .ok (.imul, 1) := by decide +kernel
theorem dX10_at_6 : decode cX10_at 6 = .ok (.iadd, 1) := by decide +kernel
theorem dX10_at_7 : decode cX10_at 7 = .ok (.iload_n 1, 1) := by decide +kernel
theorem dX10_at_8 : decode cX10_at 8 = .ok (.iadd, 1) := by decide +kernel
theorem dX10_at_9 : decode cX10_at 9 = .ok (.ireturn, 1) := by decide +kernel
theorem dX10_of_0 : decode cX10_of 0 = .ok (.aload_n 0, 1) := by decide +kernel
theorem dX10_of_1 : decode cX10_of 1 = .ok (.getfield 7, 3) := by decide +kernel
theorem dX10_of_4 : decode cX10_of 4 = .ok (.iload_n 1, 1) := by decide +kernel
theorem dX10_of_5 : decode cX10_of 5 = .ok (.iload_n 2, 1) := by decide +kernel
theorem dX10_of_6 : decode cX10_of 6 = .ok (.invokestatic 29, 3) := by decide +kernel
theorem dX10_of_9 : decode cX10_of 9 = .ok (.iaload, 1) := by decide +kernel
theorem dX10_of_10 : decode cX10_of 10 = .ok (.ireturn, 1) := by decide +kernel
theorem dX10_isStation_0 : decode cX10_isStation 0 = .ok (.iload_n 1, 1) := by decide +kernel
theorem dX10_isStation_1 : decode cX10_isStation 1 = .ok (.i2l, 1) := by decide +kernel
theorem dX10_isStation_2 : decode cX10_isStation 2 = .ok (.lconst 0, 1) := by decide +kernel
theorem dX10_isStation_3 : decode cX10_isStation 3 = .ok (.ldc2_w 33, 3) := by decide +kernel
theorem dX10_isStation_6 : decode cX10_isStation 6 = .ok (.invokestatic 35, 3) := by decide +kernel
theorem dX10_isStation_9 : decode cX10_isStation 9 = .ok (.ifCond .eq 17, 3) := by decide +kernel
theorem dX10_isStation_12 : decode cX10_isStation 12 = .ok (.aload_n 0, 1) := by decide +kernel
theorem dX10_isStation_13 : decode cX10_isStation 13 = .ok (.iload_n 1, 1) := by decide +kernel
theorem dX10_isStation_14 : decode cX10_isStation 14 = .ok (.iconst 0, 1) := by decide +kernel
theorem dX10_isStation_15 : decode cX10_isStation 15 = .ok (.invokevirtual 39, 3) := by decide +kernel
theorem dX10_isStation_18 : decode cX10_isStation 18 = .ok (.iconst 1, 1) := by decide +kernel
theorem dX10_isStation_19 : decode cX10_isStation 19 = .ok (.if_icmp .ne 7, 3) := by decide +kernel
theorem dX10_isStation_22 : decode cX10_isStation 22 = .ok (.iconst 1, 1) := by decide +kernel
theorem dX10_isStation_23 : decode cX10_isStation 23 = .ok (.goto 4, 3) := by decide +kernel
theorem dX10_isStation_26 : decode cX10_isStation 26 = .ok (.iconst 0, 1) := by decide +kernel
theorem dX10_isStation_27 : decode cX10_isStation 27 = .ok (.ireturn, 1) := by decide +kernel
theorem dX10_isInRing_0 : decode cX10_isInRing 0 = .ok (.aload_n 0, 1) := by decide +kernel
theorem dX10_isInRing_1 : decode cX10_isInRing 1 = .ok (.iload_n 1, 1) := by decide +kernel
theorem dX10_isInRing_2 : decode cX10_isInRing 2 = .ok (.iconst 0, 1) := by decide +kernel
theorem dX10_isInRing_3 : decode cX10_isInRing 3 = .ok (.invokevirtual 39, 3) := by decide +kernel
theorem dX10_isInRing_6 : decode cX10_isInRing 6 = .ok (.iconst 1, 1) := by decide +kernel
theorem dX10_isInRing_7 : decode cX10_isInRing 7 = .ok (.if_icmp .ne 27, 3) := by decide +kernel
theorem dX10_isInRing_10 : decode cX10_isInRing 10 = .ok (.aload_n 0, 1) := by decide +kernel
theorem dX10_isInRing_11 : decode cX10_isInRing 11 = .ok (.iload_n 1, 1) := by decide +kernel
theorem dX10_isInRing_12 : decode cX10_isInRing 12 = .ok (.iconst 1, 1) := by decide +kernel
theorem dX10_isInRing_13 : decode cX10_isInRing 13 = .ok (.invokevirtual 39, 3) := by decide +kernel
theorem dX10_isInRing_16 : decode cX10_isInRing 16 = .ok (.iconst 1, 1) := by decide +kernel
theorem dX10_isInRing_17 : decode cX10_isInRing 17 = .ok (.if_icmp .ne 17, 3) := by decide +kernel
theorem dX10_isInRing_20 : decode cX10_isInRing 20 = .ok (.aload_n 0, 1) := by decide +kernel
theorem dX10_isInRing_21 : decode cX10_isInRing 21 = .ok (.iload_n 1, 1) := by decide +kernel
theorem dX10_isInRing_22 : decode cX10_isInRing 22 = .ok (.iconst 2, 1) := by decide +kernel
theorem dX10_isInRing_23 : decode cX10_isInRing 23 = .ok (.invokevirtual 39, 3) := by decide +kernel
theorem dX10_isInRing_26 : decode cX10_isInRing 26 = .ok (.iconst 1, 1) := by decide +kernel
theorem dX10_isInRing_27 : decode cX10_isInRing 27 = .ok (.if_icmp .ne 7, 3) := by decide +kernel
theorem dX10_isInRing_30 : decode cX10_isInRing 30 = .ok (.iconst 1, 1) := by decide +kernel
theorem dX10_isInRing_31 : decode cX10_isInRing 31 = .ok (.goto 4, 3) := by decide +kernel
theorem dX10_isInRing_34 : decode cX10_isInRing 34 = .ok (.iconst 0, 1) := by decide +kernel
theorem dX10_isInRing_35 : decode cX10_isInRing 35 = .ok (.ireturn, 1) := by decide +kernel
theorem dX10_inMessage_0 : decode cX10_inMessage 0 = .ok (.sipush 242, 3) := by decide +kernel
theorem dX10_inMessage_3 : decode cX10_inMessage 3 = .ok (.iconst 5, 1) := by decide +kernel
theorem dX10_inMessage_4 : decode cX10_inMessage 4 = .ok (.iload_n 0, 1) := by decide +kernel
theorem dX10_inMessage_5 : decode cX10_inMessage 5 = .ok (.imul, 1) := by decide +kernel
theorem dX10_inMessage_6 : decode cX10_inMessage 6 = .ok (.iadd, 1) := by decide +kernel
theorem dX10_inMessage_7 : decode cX10_inMessage 7 = .ok (.iload_n 1, 1) := by decide +kernel
theorem dX10_inMessage_8 : decode cX10_inMessage 8 = .ok (.iadd, 1) := by decide +kernel
theorem dX10_inMessage_9 : decode cX10_inMessage 9 = .ok (.ireturn, 1) := by decide +kernel
theorem dX10_ofMessage_0 : decode cX10_ofMessage 0 = .ok (.aload_n 0, 1) := by decide +kernel
theorem dX10_ofMessage_1 : decode cX10_ofMessage 1 = .ok (.getfield 7, 3) := by decide +kernel
theorem dX10_ofMessage_4 : decode cX10_ofMessage 4 = .ok (.iload_n 1, 1) := by decide +kernel
theorem dX10_ofMessage_5 : decode cX10_ofMessage 5 = .ok (.iload_n 2, 1) := by decide +kernel
theorem dX10_ofMessage_6 : decode cX10_ofMessage 6 = .ok (.invokestatic 42, 3) := by decide +kernel
theorem dX10_ofMessage_9 : decode cX10_ofMessage 9 = .ok (.iaload, 1) := by decide +kernel
theorem dX10_ofMessage_10 : decode cX10_ofMessage 10 = .ok (.ireturn, 1) := by decide +kernel
theorem dX10_stations_0 : decode cX10_stations 0 = .ok (.iconst 0, 1) := by decide +kernel
theorem dX10_stations_1 : decode cX10_stations 1 = .ok (.istore_n 1, 1) := by decide +kernel
theorem dX10_stations_2 : decode cX10_stations 2 = .ok (.iconst 0, 1) := by decide +kernel
theorem dX10_stations_3 : decode cX10_stations 3 = .ok (.istore_n 2, 1) := by decide +kernel
theorem dX10_stations_4 : decode cX10_stations 4 = .ok (.iload_n 2, 1) := by decide +kernel
theorem dX10_stations_5 : decode cX10_stations 5 = .ok (.bipush 32, 2) := by decide +kernel
theorem dX10_stations_7 : decode cX10_stations 7 = .ok (.if_icmp .ge 18, 3) := by decide +kernel
theorem dX10_stations_10 : decode cX10_stations 10 = .ok (.iload_n 1, 1) := by decide +kernel
theorem dX10_stations_11 : decode cX10_stations 11 = .ok (.aload_n 0, 1) := by decide +kernel
theorem dX10_stations_12 : decode cX10_stations 12 = .ok (.iload_n 2, 1) := by decide +kernel
theorem dX10_stations_13 : decode cX10_stations 13 = .ok (.iconst 0, 1) := by decide +kernel
theorem dX10_stations_14 : decode cX10_stations 14 = .ok (.invokevirtual 39, 3) := by decide +kernel
theorem dX10_stations_17 : decode cX10_stations 17 = .ok (.iadd, 1) := by decide +kernel
theorem dX10_stations_18 : decode cX10_stations 18 = .ok (.istore_n 1, 1) := by decide +kernel
theorem dX10_stations_19 : decode cX10_stations 19 = .ok (.iinc 2 1, 3) := by decide +kernel
theorem dX10_stations_22 : decode cX10_stations 22 = .ok (.goto (-18), 3) := by decide +kernel
theorem dX10_stations_25 : decode cX10_stations 25 = .ok (.iload_n 1, 1) := by decide +kernel
theorem dX10_stations_26 : decode cX10_stations 26 = .ok (.ireturn, 1) := by decide +kernel
theorem dX10_adds_0 : decode cX10_adds 0 = .ok (.aload_n 0, 1) := by decide +kernel
theorem dX10_adds_1 : decode cX10_adds 1 = .ok (.getfield 7, 3) := by decide +kernel
theorem dX10_adds_4 : decode cX10_adds 4 = .ok (.iload_n 1, 1) := by decide +kernel
theorem dX10_adds_5 : decode cX10_adds 5 = .ok (.iconst 0, 1) := by decide +kernel
theorem dX10_adds_6 : decode cX10_adds 6 = .ok (.invokestatic 29, 3) := by decide +kernel
theorem dX10_adds_9 : decode cX10_adds 9 = .ok (.iconst 1, 1) := by decide +kernel
theorem dX10_adds_10 : decode cX10_adds 10 = .ok (.iastore, 1) := by decide +kernel
theorem dX10_adds_11 : decode cX10_adds 11 = .ok (.aload_n 0, 1) := by decide +kernel
theorem dX10_adds_12 : decode cX10_adds 12 = .ok (.getfield 7, 3) := by decide +kernel
theorem dX10_adds_15 : decode cX10_adds 15 = .ok (.iload_n 1, 1) := by decide +kernel
theorem dX10_adds_16 : decode cX10_adds 16 = .ok (.iconst 1, 1) := by decide +kernel
theorem dX10_adds_17 : decode cX10_adds 17 = .ok (.invokestatic 29, 3) := by decide +kernel
theorem dX10_adds_20 : decode cX10_adds 20 = .ok (.iconst 1, 1) := by decide +kernel
theorem dX10_adds_21 : decode cX10_adds 21 = .ok (.iastore, 1) := by decide +kernel
theorem dX10_adds_22 : decode cX10_adds 22 = .ok (.aload_n 0, 1) := by decide +kernel
theorem dX10_adds_23 : decode cX10_adds 23 = .ok (.getfield 7, 3) := by decide +kernel
theorem dX10_adds_26 : decode cX10_adds 26 = .ok (.iload_n 1, 1) := by decide +kernel
theorem dX10_adds_27 : decode cX10_adds 27 = .ok (.iconst 2, 1) := by decide +kernel
theorem dX10_adds_28 : decode cX10_adds 28 = .ok (.invokestatic 29, 3) := by decide +kernel
theorem dX10_adds_31 : decode cX10_adds 31 = .ok (.iconst 0, 1) := by decide +kernel
theorem dX10_adds_32 : decode cX10_adds 32 = .ok (.iastore, 1) := by decide +kernel
theorem dX10_adds_33 : decode cX10_adds 33 = .ok (.aload_n 0, 1) := by decide +kernel
theorem dX10_adds_34 : decode cX10_adds 34 = .ok (.getfield 7, 3) := by decide +kernel
theorem dX10_adds_37 : decode cX10_adds 37 = .ok (.iload_n 1, 1) := by decide +kernel
theorem dX10_adds_38 : decode cX10_adds 38 = .ok (.iconst 3, 1) := by decide +kernel
theorem dX10_adds_39 : decode cX10_adds 39 = .ok (.invokestatic 29, 3) := by decide +kernel
theorem dX10_adds_42 : decode cX10_adds 42 = .ok (.iload_n 1, 1) := by decide +kernel
theorem dX10_adds_43 : decode cX10_adds 43 = .ok (.iastore, 1) := by decide +kernel
theorem dX10_adds_44 : decode cX10_adds 44 = .ok (.aload_n 0, 1) := by decide +kernel
theorem dX10_adds_45 : decode cX10_adds 45 = .ok (.getfield 7, 3) := by decide +kernel
theorem dX10_adds_48 : decode cX10_adds 48 = .ok (.iload_n 1, 1) := by decide +kernel
theorem dX10_adds_49 : decode cX10_adds 49 = .ok (.iconst 4, 1) := by decide +kernel
theorem dX10_adds_50 : decode cX10_adds 50 = .ok (.invokestatic 29, 3) := by decide +kernel
theorem dX10_adds_53 : decode cX10_adds 53 = .ok (.iload_n 1, 1) := by decide +kernel
theorem dX10_adds_54 : decode cX10_adds 54 = .ok (.iastore, 1) := by decide +kernel
theorem dX10_adds_55 : decode cX10_adds 55 = .ok (.aload_n 0, 1) := by decide +kernel
theorem dX10_adds_56 : decode cX10_adds 56 = .ok (.getfield 7, 3) := by decide +kernel
theorem dX10_adds_59 : decode cX10_adds 59 = .ok (.iload_n 1, 1) := by decide +kernel
theorem dX10_adds_60 : decode cX10_adds 60 = .ok (.iconst 5, 1) := by decide +kernel
theorem dX10_adds_61 : decode cX10_adds 61 = .ok (.invokestatic 29, 3) := by decide +kernel
theorem dX10_adds_64 : decode cX10_adds 64 = .ok (.iconst 0, 1) := by decide +kernel
theorem dX10_adds_65 : decode cX10_adds 65 = .ok (.iastore, 1) := by decide +kernel
theorem dX10_adds_66 : decode cX10_adds 66 = .ok (.aload_n 0, 1) := by decide +kernel
theorem dX10_adds_67 : decode cX10_adds 67 = .ok (.getfield 7, 3) := by decide +kernel
theorem dX10_adds_70 : decode cX10_adds 70 = .ok (.iload_n 1, 1) := by decide +kernel
theorem dX10_adds_71 : decode cX10_adds 71 = .ok (.bipush 6, 2) := by decide +kernel
theorem dX10_adds_73 : decode cX10_adds 73 = .ok (.invokestatic 29, 3) := by decide +kernel
theorem dX10_adds_76 : decode cX10_adds 76 = .ok (.iconst (-1), 1) := by decide +kernel
theorem dX10_adds_77 : decode cX10_adds 77 = .ok (.iastore, 1) := by decide +kernel
theorem dX10_adds_78 : decode cX10_adds 78 = .ok (.return_, 1) := by decide +kernel
theorem dX10_addStation_0 : decode cX10_addStation 0 = .ok (.iload_n 1, 1) := by decide +kernel
theorem dX10_addStation_1 : decode cX10_addStation 1 = .ok (.i2l, 1) := by decide +kernel
theorem dX10_addStation_2 : decode cX10_addStation 2 = .ok (.lconst 0, 1) := by decide +kernel
theorem dX10_addStation_3 : decode cX10_addStation 3 = .ok (.ldc2_w 33, 3) := by decide +kernel
theorem dX10_addStation_6 : decode cX10_addStation 6 = .ok (.invokestatic 35, 3) := by decide +kernel
theorem dX10_addStation_9 : decode cX10_addStation 9 = .ok (.istore_n 2, 1) := by decide +kernel
theorem dX10_addStation_10 : decode cX10_addStation 10 = .ok (.aload_n 0, 1) := by decide +kernel
theorem dX10_addStation_11 : decode cX10_addStation 11 = .ok (.iload_n 2, 1) := by decide +kernel
theorem dX10_addStation_12 : decode cX10_addStation 12 = .ok (.iload_n 2, 1) := by decide +kernel
theorem dX10_addStation_13 : decode cX10_addStation 13 = .ok (.ifCond .eq 24, 3) := by decide +kernel
theorem dX10_addStation_16 : decode cX10_addStation 16 = .ok (.aload_n 0, 1) := by decide +kernel
theorem dX10_addStation_17 : decode cX10_addStation 17 = .ok (.iload_n 1, 1) := by decide +kernel
theorem dX10_addStation_18 : decode cX10_addStation 18 = .ok (.invokevirtual 45, 3) := by decide +kernel
theorem dX10_addStation_21 : decode cX10_addStation 21 = .ok (.ifCond .ne 16, 3) := by decide +kernel
theorem dX10_addStation_24 : decode cX10_addStation 24 = .ok (.aload_n 0, 1) := by decide +kernel
theorem dX10_addStation_25 : decode cX10_addStation 25 = .ok (.invokevirtual 49, 3) := by decide +kernel
theorem dX10_addStation_28 : decode cX10_addStation 28 = .ok (.bipush 8, 2) := by decide +kernel
theorem dX10_addStation_30 : decode cX10_addStation 30 = .ok (.if_icmp .ge 7, 3) := by decide +kernel
theorem dX10_addStation_33 : decode cX10_addStation 33 = .ok (.iconst 1, 1) := by decide +kernel
theorem dX10_addStation_34 : decode cX10_addStation 34 = .ok (.goto 4, 3) := by decide +kernel
theorem dX10_addStation_37 : decode cX10_addStation 37 = .ok (.iconst 0, 1) := by decide +kernel
theorem dX10_addStation_38 : decode cX10_addStation 38 = .ok (.iconst 1, 1) := by decide +kernel
theorem dX10_addStation_39 : decode cX10_addStation 39 = .ok (.invokevirtual 53, 3) := by decide +kernel
theorem dX10_addStation_42 : decode cX10_addStation 42 = .ok (.ifCond .ne 5, 3) := by decide +kernel
theorem dX10_addStation_45 : decode cX10_addStation 45 = .ok (.iconst 0, 1) := by decide +kernel
theorem dX10_addStation_46 : decode cX10_addStation 46 = .ok (.ireturn, 1) := by decide +kernel
theorem dX10_addStation_47 : decode cX10_addStation 47 = .ok (.aload_n 0, 1) := by decide +kernel
theorem dX10_addStation_48 : decode cX10_addStation 48 = .ok (.invokevirtual 57, 3) := by decide +kernel
theorem dX10_addStation_51 : decode cX10_addStation 51 = .ok (.aload_n 0, 1) := by decide +kernel
theorem dX10_addStation_52 : decode cX10_addStation 52 = .ok (.iload_n 1, 1) := by decide +kernel
theorem dX10_addStation_53 : decode cX10_addStation 53 = .ok (.invokevirtual 60, 3) := by decide +kernel
theorem dX10_addStation_56 : decode cX10_addStation 56 = .ok (.aload_n 0, 1) := by decide +kernel
theorem dX10_addStation_57 : decode cX10_addStation 57 = .ok (.invokevirtual 49, 3) := by decide +kernel
theorem dX10_addStation_60 : decode cX10_addStation 60 = .ok (.ireturn, 1) := by decide +kernel
theorem dX10_setOn_0 : decode cX10_setOn 0 = .ok (.aload_n 0, 1) := by decide +kernel
theorem dX10_setOn_1 : decode cX10_setOn 1 = .ok (.aload_n 0, 1) := by decide +kernel
theorem dX10_setOn_2 : decode cX10_setOn 2 = .ok (.iload_n 1, 1) := by decide +kernel
theorem dX10_setOn_3 : decode cX10_setOn 3 = .ok (.invokevirtual 45, 3) := by decide +kernel
theorem dX10_setOn_6 : decode cX10_setOn 6 = .ok (.iconst 1, 1) := by decide +kernel
theorem dX10_setOn_7 : decode cX10_setOn 7 = .ok (.iconst 1, 1) := by decide +kernel
theorem dX10_setOn_8 : decode cX10_setOn 8 = .ok (.invokevirtual 53, 3) := by decide +kernel
theorem dX10_setOn_11 : decode cX10_setOn 11 = .ok (.ifCond .ne 5, 3) := by decide +kernel
theorem dX10_setOn_14 : decode cX10_setOn 14 = .ok (.iconst 0, 1) := by decide +kernel
theorem dX10_setOn_15 : decode cX10_setOn 15 = .ok (.ireturn, 1) := by decide +kernel
theorem dX10_setOn_16 : decode cX10_setOn 16 = .ok (.aload_n 0, 1) := by decide +kernel
theorem dX10_setOn_17 : decode cX10_setOn 17 = .ok (.invokevirtual 57, 3) := by decide +kernel
theorem dX10_setOn_20 : decode cX10_setOn 20 = .ok (.aload_n 0, 1) := by decide +kernel
theorem dX10_setOn_21 : decode cX10_setOn 21 = .ok (.iload_n 1, 1) := by decide +kernel
theorem dX10_setOn_22 : decode cX10_setOn 22 = .ok (.iconst 1, 1) := by decide +kernel
theorem dX10_setOn_23 : decode cX10_setOn 23 = .ok (.invokevirtual 39, 3) := by decide +kernel
theorem dX10_setOn_26 : decode cX10_setOn 26 = .ok (.iconst 1, 1) := by decide +kernel
theorem dX10_setOn_27 : decode cX10_setOn 27 = .ok (.if_icmp .ne 7, 3) := by decide +kernel
theorem dX10_setOn_30 : decode cX10_setOn 30 = .ok (.iconst 1, 1) := by decide +kernel
theorem dX10_setOn_31 : decode cX10_setOn 31 = .ok (.goto 4, 3) := by decide +kernel
theorem dX10_setOn_34 : decode cX10_setOn 34 = .ok (.iconst 0, 1) := by decide +kernel
theorem dX10_setOn_35 : decode cX10_setOn 35 = .ok (.istore_n 3, 1) := by decide +kernel
theorem dX10_setOn_36 : decode cX10_setOn 36 = .ok (.iload_n 3, 1) := by decide +kernel
theorem dX10_setOn_37 : decode cX10_setOn 37 = .ok (.ifCond .eq 55, 3) := by decide +kernel
theorem dX10_setOn_40 : decode cX10_setOn 40 = .ok (.iload_n 2, 1) := by decide +kernel
theorem dX10_setOn_41 : decode cX10_setOn 41 = .ok (.ifCond .ne 51, 3) := by decide +kernel
theorem dX10_setOn_44 : decode cX10_setOn 44 = .ok (.aload_n 0, 1) := by decide +kernel
theorem dX10_setOn_45 : decode cX10_setOn 45 = .ok (.getfield 7, 3) := by decide +kernel
theorem dX10_setOn_48 : decode cX10_setOn 48 = .ok (.iload_n 1, 1) := by decide +kernel
theorem dX10_setOn_49 : decode cX10_setOn 49 = .ok (.iconst 1, 1) := by decide +kernel
theorem dX10_setOn_50 : decode cX10_setOn 50 = .ok (.invokestatic 29, 3) := by decide +kernel
theorem dX10_setOn_53 : decode cX10_setOn 53 = .ok (.iconst 0, 1) := by decide +kernel
theorem dX10_setOn_54 : decode cX10_setOn 54 = .ok (.iastore, 1) := by decide +kernel
theorem dX10_setOn_55 : decode cX10_setOn 55 = .ok (.aload_n 0, 1) := by decide +kernel
theorem dX10_setOn_56 : decode cX10_setOn 56 = .ok (.getfield 7, 3) := by decide +kernel
theorem dX10_setOn_59 : decode cX10_setOn 59 = .ok (.iload_n 1, 1) := by decide +kernel
theorem dX10_setOn_60 : decode cX10_setOn 60 = .ok (.iconst 2, 1) := by decide +kernel
theorem dX10_setOn_61 : decode cX10_setOn 61 = .ok (.invokestatic 29, 3) := by decide +kernel
theorem dX10_setOn_64 : decode cX10_setOn 64 = .ok (.iconst 0, 1) := by decide +kernel
theorem dX10_setOn_65 : decode cX10_setOn 65 = .ok (.iastore, 1) := by decide +kernel
theorem dX10_setOn_66 : decode cX10_setOn 66 = .ok (.aload_n 0, 1) := by decide +kernel
theorem dX10_setOn_67 : decode cX10_setOn 67 = .ok (.getfield 7, 3) := by decide +kernel
theorem dX10_setOn_70 : decode cX10_setOn 70 = .ok (.iconst 4, 1) := by decide +kernel
theorem dX10_setOn_71 : decode cX10_setOn 71 = .ok (.aload_n 0, 1) := by decide +kernel
theorem dX10_setOn_72 : decode cX10_setOn 72 = .ok (.getfield 7, 3) := by decide +kernel
theorem dX10_setOn_75 : decode cX10_setOn 75 = .ok (.iconst 4, 1) := by decide +kernel
theorem dX10_setOn_76 : decode cX10_setOn 76 = .ok (.iaload, 1) := by decide +kernel
theorem dX10_setOn_77 : decode cX10_setOn 77 = .ok (.iload_n 1, 1) := by decide +kernel
theorem dX10_setOn_78 : decode cX10_setOn 78 = .ok (.if_icmp .ne 7, 3) := by decide +kernel
theorem dX10_setOn_81 : decode cX10_setOn 81 = .ok (.iconst (-1), 1) := by decide +kernel
theorem dX10_setOn_82 : decode cX10_setOn 82 = .ok (.goto 9, 3) := by decide +kernel
theorem dX10_setOn_85 : decode cX10_setOn 85 = .ok (.aload_n 0, 1) := by decide +kernel
theorem dX10_setOn_86 : decode cX10_setOn 86 = .ok (.getfield 7, 3) := by decide +kernel
theorem dX10_setOn_89 : decode cX10_setOn 89 = .ok (.iconst 4, 1) := by decide +kernel
theorem dX10_setOn_90 : decode cX10_setOn 90 = .ok (.iaload, 1) := by decide +kernel
theorem dX10_setOn_91 : decode cX10_setOn 91 = .ok (.iastore, 1) := by decide +kernel
theorem dX10_setOn_92 : decode cX10_setOn 92 = .ok (.iload_n 3, 1) := by decide +kernel
theorem dX10_setOn_93 : decode cX10_setOn 93 = .ok (.ifCond .ne 18, 3) := by decide +kernel
theorem dX10_setOn_96 : decode cX10_setOn 96 = .ok (.iload_n 2, 1) := by decide +kernel
theorem dX10_setOn_97 : decode cX10_setOn 97 = .ok (.ifCond .eq 14, 3) := by decide +kernel
theorem dX10_setOn_100 : decode cX10_setOn 100 = .ok (.aload_n 0, 1) := by decide +kernel
theorem dX10_setOn_101 : decode cX10_setOn 101 = .ok (.getfield 7, 3) := by decide +kernel
theorem dX10_setOn_104 : decode cX10_setOn 104 = .ok (.iload_n 1, 1) := by decide +kernel
theorem dX10_setOn_105 : decode cX10_setOn 105 = .ok (.iconst 1, 1) := by decide +kernel
theorem dX10_setOn_106 : decode cX10_setOn 106 = .ok (.invokestatic 29, 3) := by decide +kernel
theorem dX10_setOn_109 : decode cX10_setOn 109 = .ok (.iconst 1, 1) := by decide +kernel
theorem dX10_setOn_110 : decode cX10_setOn 110 = .ok (.iastore, 1) := by decide +kernel
theorem dX10_setOn_111 : decode cX10_setOn 111 = .ok (.iload_n 3, 1) := by decide +kernel
theorem dX10_setOn_112 : decode cX10_setOn 112 = .ok (.ireturn, 1) := by decide +kernel
theorem dX10_setTimes_0 : decode cX10_setTimes 0 = .ok (.aload_n 0, 1) := by decide +kernel
theorem dX10_setTimes_1 : decode cX10_setTimes 1 = .ok (.iload_n 1, 1) := by decide +kernel
theorem dX10_setTimes_2 : decode cX10_setTimes 2 = .ok (.i2l, 1) := by decide +kernel
theorem dX10_setTimes_3 : decode cX10_setTimes 3 = .ok (.lconst 1, 1) := by decide +kernel
theorem dX10_setTimes_4 : decode cX10_setTimes 4 = .ok (.ldc2_w 64, 3) := by decide +kernel
theorem dX10_setTimes_7 : decode cX10_setTimes 7 = .ok (.invokestatic 35, 3) := by decide +kernel
theorem dX10_setTimes_10 : decode cX10_setTimes 10 = .ok (.ifCond .eq 31, 3) := by decide +kernel
theorem dX10_setTimes_13 : decode cX10_setTimes 13 = .ok (.iload_n 2, 1) := by decide +kernel
theorem dX10_setTimes_14 : decode cX10_setTimes 14 = .ok (.i2l, 1) := by decide +kernel
theorem dX10_setTimes_15 : decode cX10_setTimes 15 = .ok (.lconst 1, 1) := by decide +kernel
theorem dX10_setTimes_16 : decode cX10_setTimes 16 = .ok (.ldc2_w 66, 3) := by decide +kernel
theorem dX10_setTimes_19 : decode cX10_setTimes 19 = .ok (.invokestatic 35, 3) := by decide +kernel
theorem dX10_setTimes_22 : decode cX10_setTimes 22 = .ok (.ifCond .eq 19, 3) := by decide +kernel
theorem dX10_setTimes_25 : decode cX10_setTimes 25 = .ok (.iload_n 3, 1) := by decide +kernel
theorem dX10_setTimes_26 : decode cX10_setTimes 26 = .ok (.i2l, 1) := by decide +kernel
theorem dX10_setTimes_27 : decode cX10_setTimes 27 = .ok (.lconst 1, 1) := by decide +kernel
theorem dX10_setTimes_28 : decode cX10_setTimes 28 = .ok (.ldc2_w 66, 3) := by decide +kernel
theorem dX10_setTimes_31 : decode cX10_setTimes 31 = .ok (.invokestatic 35, 3) := by decide +kernel
theorem dX10_setTimes_34 : decode cX10_setTimes 34 = .ok (.ifCond .eq 7, 3) := by decide +kernel
theorem dX10_setTimes_37 : decode cX10_setTimes 37 = .ok (.iconst 1, 1) := by decide +kernel
theorem dX10_setTimes_38 : decode cX10_setTimes 38 = .ok (.goto 4, 3) := by decide +kernel
theorem dX10_setTimes_41 : decode cX10_setTimes 41 = .ok (.iconst 0, 1) := by decide +kernel
theorem dX10_setTimes_42 : decode cX10_setTimes 42 = .ok (.iconst 1, 1) := by decide +kernel
theorem dX10_setTimes_43 : decode cX10_setTimes 43 = .ok (.iconst 1, 1) := by decide +kernel
theorem dX10_setTimes_44 : decode cX10_setTimes 44 = .ok (.invokevirtual 53, 3) := by decide +kernel
theorem dX10_setTimes_47 : decode cX10_setTimes 47 = .ok (.ifCond .ne 5, 3) := by decide +kernel
theorem dX10_setTimes_50 : decode cX10_setTimes 50 = .ok (.iconst 0, 1) := by decide +kernel
theorem dX10_setTimes_51 : decode cX10_setTimes 51 = .ok (.ireturn, 1) := by decide +kernel
theorem dX10_setTimes_52 : decode cX10_setTimes 52 = .ok (.aload_n 0, 1) := by decide +kernel
theorem dX10_setTimes_53 : decode cX10_setTimes 53 = .ok (.invokevirtual 57, 3) := by decide +kernel
theorem dX10_setTimes_56 : decode cX10_setTimes 56 = .ok (.aload_n 0, 1) := by decide +kernel
theorem dX10_setTimes_57 : decode cX10_setTimes 57 = .ok (.getfield 7, 3) := by decide +kernel
theorem dX10_setTimes_60 : decode cX10_setTimes 60 = .ok (.iconst 0, 1) := by decide +kernel
theorem dX10_setTimes_61 : decode cX10_setTimes 61 = .ok (.iaload, 1) := by decide +kernel
theorem dX10_setTimes_62 : decode cX10_setTimes 62 = .ok (.istore 4, 2) := by decide +kernel
theorem dX10_setTimes_64 : decode cX10_setTimes 64 = .ok (.aload_n 0, 1) := by decide +kernel
theorem dX10_setTimes_65 : decode cX10_setTimes 65 = .ok (.getfield 7, 3) := by decide +kernel
theorem dX10_setTimes_68 : decode cX10_setTimes 68 = .ok (.iconst 0, 1) := by decide +kernel
theorem dX10_setTimes_69 : decode cX10_setTimes 69 = .ok (.iload_n 1, 1) := by decide +kernel
theorem dX10_setTimes_70 : decode cX10_setTimes 70 = .ok (.iastore, 1) := by decide +kernel
theorem dX10_setTimes_71 : decode cX10_setTimes 71 = .ok (.aload_n 0, 1) := by decide +kernel
theorem dX10_setTimes_72 : decode cX10_setTimes 72 = .ok (.getfield 7, 3) := by decide +kernel
theorem dX10_setTimes_75 : decode cX10_setTimes 75 = .ok (.iconst 1, 1) := by decide +kernel
theorem dX10_setTimes_76 : decode cX10_setTimes 76 = .ok (.iload_n 2, 1) := by decide +kernel
theorem dX10_setTimes_77 : decode cX10_setTimes 77 = .ok (.iastore, 1) := by decide +kernel
theorem dX10_setTimes_78 : decode cX10_setTimes 78 = .ok (.aload_n 0, 1) := by decide +kernel
theorem dX10_setTimes_79 : decode cX10_setTimes 79 = .ok (.getfield 7, 3) := by decide +kernel
theorem dX10_setTimes_82 : decode cX10_setTimes 82 = .ok (.iconst 2, 1) := by decide +kernel
theorem dX10_setTimes_83 : decode cX10_setTimes 83 = .ok (.iload_n 3, 1) := by decide +kernel
theorem dX10_setTimes_84 : decode cX10_setTimes 84 = .ok (.iastore, 1) := by decide +kernel
theorem dX10_setTimes_85 : decode cX10_setTimes 85 = .ok (.iload 4, 2) := by decide +kernel
theorem dX10_setTimes_87 : decode cX10_setTimes 87 = .ok (.ireturn, 1) := by decide +kernel
theorem dX10_gives_0 : decode cX10_gives 0 = .ok (.aload_n 0, 1) := by decide +kernel
theorem dX10_gives_1 : decode cX10_gives 1 = .ok (.getfield 7, 3) := by decide +kernel
theorem dX10_gives_4 : decode cX10_gives 4 = .ok (.iconst 5, 1) := by decide +kernel
theorem dX10_gives_5 : decode cX10_gives 5 = .ok (.iaload, 1) := by decide +kernel
theorem dX10_gives_6 : decode cX10_gives 6 = .ok (.istore 4, 2) := by decide +kernel
theorem dX10_gives_8 : decode cX10_gives 8 = .ok (.aload_n 0, 1) := by decide +kernel
theorem dX10_gives_9 : decode cX10_gives 9 = .ok (.getfield 7, 3) := by decide +kernel
theorem dX10_gives_12 : decode cX10_gives 12 = .ok (.iload 4, 2) := by decide +kernel
theorem dX10_gives_14 : decode cX10_gives 14 = .ok (.iconst 0, 1) := by decide +kernel
theorem dX10_gives_15 : decode cX10_gives 15 = .ok (.invokestatic 42, 3) := by decide +kernel
theorem dX10_gives_18 : decode cX10_gives 18 = .ok (.iload_n 2, 1) := by decide +kernel
theorem dX10_gives_19 : decode cX10_gives 19 = .ok (.iastore, 1) := by decide +kernel
theorem dX10_gives_20 : decode cX10_gives 20 = .ok (.aload_n 0, 1) := by decide +kernel
theorem dX10_gives_21 : decode cX10_gives 21 = .ok (.getfield 7, 3) := by decide +kernel
theorem dX10_gives_24 : decode cX10_gives 24 = .ok (.iload 4, 2) := by decide +kernel
theorem dX10_gives_26 : decode cX10_gives 26 = .ok (.iconst 1, 1) := by decide +kernel
theorem dX10_gives_27 : decode cX10_gives 27 = .ok (.invokestatic 42, 3) := by decide +kernel
theorem dX10_gives_30 : decode cX10_gives 30 = .ok (.iload_n 3, 1) := by decide +kernel
theorem dX10_gives_31 : decode cX10_gives 31 = .ok (.iastore, 1) := by decide +kernel
theorem dX10_gives_32 : decode cX10_gives 32 = .ok (.aload_n 0, 1) := by decide +kernel
theorem dX10_gives_33 : decode cX10_gives 33 = .ok (.getfield 7, 3) := by decide +kernel
theorem dX10_gives_36 : decode cX10_gives 36 = .ok (.iload 4, 2) := by decide +kernel
theorem dX10_gives_38 : decode cX10_gives 38 = .ok (.iconst 2, 1) := by decide +kernel
theorem dX10_gives_39 : decode cX10_gives 39 = .ok (.invokestatic 42, 3) := by decide +kernel
theorem dX10_gives_42 : decode cX10_gives 42 = .ok (.iload_n 1, 1) := by decide +kernel
theorem dX10_gives_43 : decode cX10_gives 43 = .ok (.iastore, 1) := by decide +kernel
theorem dX10_gives_44 : decode cX10_gives 44 = .ok (.aload_n 0, 1) := by decide +kernel
theorem dX10_gives_45 : decode cX10_gives 45 = .ok (.getfield 7, 3) := by decide +kernel
theorem dX10_gives_48 : decode cX10_gives 48 = .ok (.iload 4, 2) := by decide +kernel
theorem dX10_gives_50 : decode cX10_gives 50 = .ok (.iconst 3, 1) := by decide +kernel
theorem dX10_gives_51 : decode cX10_gives 51 = .ok (.invokestatic 42, 3) := by decide +kernel
theorem dX10_gives_54 : decode cX10_gives 54 = .ok (.aload_n 0, 1) := by decide +kernel
theorem dX10_gives_55 : decode cX10_gives 55 = .ok (.getfield 7, 3) := by decide +kernel
theorem dX10_gives_58 : decode cX10_gives 58 = .ok (.iconst 3, 1) := by decide +kernel
theorem dX10_gives_59 : decode cX10_gives 59 = .ok (.iaload, 1) := by decide +kernel
theorem dX10_gives_60 : decode cX10_gives 60 = .ok (.iastore, 1) := by decide +kernel
theorem dX10_gives_61 : decode cX10_gives 61 = .ok (.aload_n 0, 1) := by decide +kernel
theorem dX10_gives_62 : decode cX10_gives 62 = .ok (.getfield 7, 3) := by decide +kernel
theorem dX10_gives_65 : decode cX10_gives 65 = .ok (.iload 4, 2) := by decide +kernel
theorem dX10_gives_67 : decode cX10_gives 67 = .ok (.iconst 4, 1) := by decide +kernel
theorem dX10_gives_68 : decode cX10_gives 68 = .ok (.invokestatic 42, 3) := by decide +kernel
theorem dX10_gives_71 : decode cX10_gives 71 = .ok (.iconst (-1), 1) := by decide +kernel
theorem dX10_gives_72 : decode cX10_gives 72 = .ok (.iastore, 1) := by decide +kernel
theorem dX10_gives_73 : decode cX10_gives 73 = .ok (.aload_n 0, 1) := by decide +kernel
theorem dX10_gives_74 : decode cX10_gives 74 = .ok (.getfield 7, 3) := by decide +kernel
theorem dX10_gives_77 : decode cX10_gives 77 = .ok (.iconst 5, 1) := by decide +kernel
theorem dX10_gives_78 : decode cX10_gives 78 = .ok (.dup2, 1) := by decide +kernel
theorem dX10_gives_79 : decode cX10_gives 79 = .ok (.iaload, 1) := by decide +kernel
theorem dX10_gives_80 : decode cX10_gives 80 = .ok (.iconst 1, 1) := by decide +kernel
theorem dX10_gives_81 : decode cX10_gives 81 = .ok (.iadd, 1) := by decide +kernel
theorem dX10_gives_82 : decode cX10_gives 82 = .ok (.iastore, 1) := by decide +kernel
theorem dX10_gives_83 : decode cX10_gives 83 = .ok (.iload 4, 2) := by decide +kernel
theorem dX10_gives_85 : decode cX10_gives 85 = .ok (.ireturn, 1) := by decide +kernel
theorem dX10_give_0 : decode cX10_give 0 = .ok (.aload_n 0, 1) := by decide +kernel
theorem dX10_give_1 : decode cX10_give 1 = .ok (.aload_n 0, 1) := by decide +kernel
theorem dX10_give_2 : decode cX10_give 2 = .ok (.iload_n 1, 1) := by decide +kernel
theorem dX10_give_3 : decode cX10_give 3 = .ok (.invokevirtual 45, 3) := by decide +kernel
theorem dX10_give_6 : decode cX10_give 6 = .ok (.iload_n 2, 1) := by decide +kernel
theorem dX10_give_7 : decode cX10_give 7 = .ok (.i2l, 1) := by decide +kernel
theorem dX10_give_8 : decode cX10_give 8 = .ok (.lconst 1, 1) := by decide +kernel
theorem dX10_give_9 : decode cX10_give 9 = .ok (.ldc2_w 66, 3) := by decide +kernel
theorem dX10_give_12 : decode cX10_give 12 = .ok (.invokestatic 35, 3) := by decide +kernel
theorem dX10_give_15 : decode cX10_give 15 = .ok (.ifCond .eq 19, 3) := by decide +kernel
theorem dX10_give_18 : decode cX10_give 18 = .ok (.iload_n 3, 1) := by decide +kernel
theorem dX10_give_19 : decode cX10_give 19 = .ok (.i2l, 1) := by decide +kernel
theorem dX10_give_20 : decode cX10_give 20 = .ok (.lconst 0, 1) := by decide +kernel
theorem dX10_give_21 : decode cX10_give 21 = .ok (.ldc2_w 68, 3) := by decide +kernel
theorem dX10_give_24 : decode cX10_give 24 = .ok (.invokestatic 35, 3) := by decide +kernel
theorem dX10_give_27 : decode cX10_give 27 = .ok (.ifCond .eq 7, 3) := by decide +kernel
theorem dX10_give_30 : decode cX10_give 30 = .ok (.iconst 1, 1) := by decide +kernel
theorem dX10_give_31 : decode cX10_give 31 = .ok (.goto 4, 3) := by decide +kernel
theorem dX10_give_34 : decode cX10_give 34 = .ok (.iconst 0, 1) := by decide +kernel
theorem dX10_give_35 : decode cX10_give 35 = .ok (.aload_n 0, 1) := by decide +kernel
theorem dX10_give_36 : decode cX10_give 36 = .ok (.getfield 7, 3) := by decide +kernel
theorem dX10_give_39 : decode cX10_give 39 = .ok (.iconst 5, 1) := by decide +kernel
theorem dX10_give_40 : decode cX10_give 40 = .ok (.iaload, 1) := by decide +kernel
theorem dX10_give_41 : decode cX10_give 41 = .ok (.bipush 100, 2) := by decide +kernel
theorem dX10_give_43 : decode cX10_give 43 = .ok (.if_icmp .ge 7, 3) := by decide +kernel
theorem dX10_give_46 : decode cX10_give 46 = .ok (.iconst 1, 1) := by decide +kernel
theorem dX10_give_47 : decode cX10_give 47 = .ok (.goto 4, 3) := by decide +kernel
theorem dX10_give_50 : decode cX10_give 50 = .ok (.iconst 0, 1) := by decide +kernel
theorem dX10_give_51 : decode cX10_give 51 = .ok (.invokevirtual 53, 3) := by decide +kernel
theorem dX10_give_54 : decode cX10_give 54 = .ok (.ifCond .ne 5, 3) := by decide +kernel
theorem dX10_give_57 : decode cX10_give 57 = .ok (.iconst 0, 1) := by decide +kernel
theorem dX10_give_58 : decode cX10_give 58 = .ok (.ireturn, 1) := by decide +kernel
theorem dX10_give_59 : decode cX10_give 59 = .ok (.aload_n 0, 1) := by decide +kernel
theorem dX10_give_60 : decode cX10_give 60 = .ok (.invokevirtual 57, 3) := by decide +kernel
theorem dX10_give_63 : decode cX10_give 63 = .ok (.aload_n 0, 1) := by decide +kernel
theorem dX10_give_64 : decode cX10_give 64 = .ok (.iload_n 1, 1) := by decide +kernel
theorem dX10_give_65 : decode cX10_give 65 = .ok (.iload_n 2, 1) := by decide +kernel
theorem dX10_give_66 : decode cX10_give 66 = .ok (.iload_n 3, 1) := by decide +kernel
theorem dX10_give_67 : decode cX10_give 67 = .ok (.invokevirtual 70, 3) := by decide +kernel
theorem dX10_give_70 : decode cX10_give 70 = .ok (.ireturn, 1) := by decide +kernel
theorem dX10_addNoise_0 : decode cX10_addNoise 0 = .ok (.aload_n 0, 1) := by decide +kernel
theorem dX10_addNoise_1 : decode cX10_addNoise 1 = .ok (.iload_n 1, 1) := by decide +kernel
theorem dX10_addNoise_2 : decode cX10_addNoise 2 = .ok (.i2l, 1) := by decide +kernel
theorem dX10_addNoise_3 : decode cX10_addNoise 3 = .ok (.lconst 0, 1) := by decide +kernel
theorem dX10_addNoise_4 : decode cX10_addNoise 4 = .ok (.iload_n 2, 1) := by decide +kernel
theorem dX10_addNoise_5 : decode cX10_addNoise 5 = .ok (.i2l, 1) := by decide +kernel
theorem dX10_addNoise_6 : decode cX10_addNoise 6 = .ok (.invokestatic 35, 3) := by decide +kernel
theorem dX10_addNoise_9 : decode cX10_addNoise 9 = .ok (.ifCond .eq 20, 3) := by decide +kernel
theorem dX10_addNoise_12 : decode cX10_addNoise 12 = .ok (.iload_n 2, 1) := by decide +kernel
theorem dX10_addNoise_13 : decode cX10_addNoise 13 = .ok (.i2l, 1) := by decide +kernel
theorem dX10_addNoise_14 : decode cX10_addNoise 14 = .ok (.iload_n 1, 1) := by decide +kernel
theorem dX10_addNoise_15 : decode cX10_addNoise 15 = .ok (.i2l, 1) := by decide +kernel
theorem dX10_addNoise_16 : decode cX10_addNoise 16 = .ok (.ldc2_w 74, 3) := by decide +kernel
theorem dX10_addNoise_19 : decode cX10_addNoise 19 = .ok (.invokestatic 35, 3) := by decide +kernel
theorem dX10_addNoise_22 : decode cX10_addNoise 22 = .ok (.ifCond .eq 7, 3) := by decide +kernel
theorem dX10_addNoise_25 : decode cX10_addNoise 25 = .ok (.iconst 1, 1) := by decide +kernel
theorem dX10_addNoise_26 : decode cX10_addNoise 26 = .ok (.goto 4, 3) := by decide +kernel
theorem dX10_addNoise_29 : decode cX10_addNoise 29 = .ok (.iconst 0, 1) := by decide +kernel
theorem dX10_addNoise_30 : decode cX10_addNoise 30 = .ok (.aload_n 0, 1) := by decide +kernel
theorem dX10_addNoise_31 : decode cX10_addNoise 31 = .ok (.getfield 7, 3) := by decide +kernel
theorem dX10_addNoise_34 : decode cX10_addNoise 34 = .ok (.bipush 6, 2) := by decide +kernel
theorem dX10_addNoise_36 : decode cX10_addNoise 36 = .ok (.iaload, 1) := by decide +kernel
theorem dX10_addNoise_37 : decode cX10_addNoise 37 = .ok (.bipush 20, 2) := by decide +kernel
theorem dX10_addNoise_39 : decode cX10_addNoise 39 = .ok (.if_icmp .ge 7, 3) := by decide +kernel
theorem dX10_addNoise_42 : decode cX10_addNoise 42 = .ok (.iconst 1, 1) := by decide +kernel
theorem dX10_addNoise_43 : decode cX10_addNoise 43 = .ok (.goto 4, 3) := by decide +kernel
theorem dX10_addNoise_46 : decode cX10_addNoise 46 = .ok (.iconst 0, 1) := by decide +kernel
theorem dX10_addNoise_47 : decode cX10_addNoise 47 = .ok (.iconst 1, 1) := by decide +kernel
theorem dX10_addNoise_48 : decode cX10_addNoise 48 = .ok (.invokevirtual 53, 3) := by decide +kernel
theorem dX10_addNoise_51 : decode cX10_addNoise 51 = .ok (.ifCond .ne 5, 3) := by decide +kernel
theorem dX10_addNoise_54 : decode cX10_addNoise 54 = .ok (.iconst 0, 1) := by decide +kernel
theorem dX10_addNoise_55 : decode cX10_addNoise 55 = .ok (.ireturn, 1) := by decide +kernel
theorem dX10_addNoise_56 : decode cX10_addNoise 56 = .ok (.aload_n 0, 1) := by decide +kernel
theorem dX10_addNoise_57 : decode cX10_addNoise 57 = .ok (.invokevirtual 57, 3) := by decide +kernel
theorem dX10_addNoise_60 : decode cX10_addNoise 60 = .ok (.aload_n 0, 1) := by decide +kernel
theorem dX10_addNoise_61 : decode cX10_addNoise 61 = .ok (.getfield 7, 3) := by decide +kernel
theorem dX10_addNoise_64 : decode cX10_addNoise 64 = .ok (.sipush 742, 3) := by decide +kernel
theorem dX10_addNoise_67 : decode cX10_addNoise 67 = .ok (.iconst 2, 1) := by decide +kernel
theorem dX10_addNoise_68 : decode cX10_addNoise 68 = .ok (.aload_n 0, 1) := by decide +kernel
theorem dX10_addNoise_69 : decode cX10_addNoise 69 = .ok (.getfield 7, 3) := by decide +kernel
theorem dX10_addNoise_72 : decode cX10_addNoise 72 = .ok (.bipush 6, 2) := by decide +kernel
theorem dX10_addNoise_74 : decode cX10_addNoise 74 = .ok (.iaload, 1) := by decide +kernel
theorem dX10_addNoise_75 : decode cX10_addNoise 75 = .ok (.imul, 1) := by decide +kernel
theorem dX10_addNoise_76 : decode cX10_addNoise 76 = .ok (.iadd, 1) := by decide +kernel
theorem dX10_addNoise_77 : decode cX10_addNoise 77 = .ok (.iload_n 1, 1) := by decide +kernel
theorem dX10_addNoise_78 : decode cX10_addNoise 78 = .ok (.iastore, 1) := by decide +kernel
theorem dX10_addNoise_79 : decode cX10_addNoise 79 = .ok (.aload_n 0, 1) := by decide +kernel
theorem dX10_addNoise_80 : decode cX10_addNoise 80 = .ok (.getfield 7, 3) := by decide +kernel
theorem dX10_addNoise_83 : decode cX10_addNoise 83 = .ok (.sipush 742, 3) := by decide +kernel
theorem dX10_addNoise_86 : decode cX10_addNoise 86 = .ok (.iconst 2, 1) := by decide +kernel
theorem dX10_addNoise_87 : decode cX10_addNoise 87 = .ok (.aload_n 0, 1) := by decide +kernel
theorem dX10_addNoise_88 : decode cX10_addNoise 88 = .ok (.getfield 7, 3) := by decide +kernel
theorem dX10_addNoise_91 : decode cX10_addNoise 91 = .ok (.bipush 6, 2) := by decide +kernel
theorem dX10_addNoise_93 : decode cX10_addNoise 93 = .ok (.iaload, 1) := by decide +kernel
theorem dX10_addNoise_94 : decode cX10_addNoise 94 = .ok (.imul, 1) := by decide +kernel
theorem dX10_addNoise_95 : decode cX10_addNoise 95 = .ok (.iadd, 1) := by decide +kernel
theorem dX10_addNoise_96 : decode cX10_addNoise 96 = .ok (.iconst 1, 1) := by decide +kernel
theorem dX10_addNoise_97 : decode cX10_addNoise 97 = .ok (.iadd, 1) := by decide +kernel
theorem dX10_addNoise_98 : decode cX10_addNoise 98 = .ok (.iload_n 2, 1) := by decide +kernel
theorem dX10_addNoise_99 : decode cX10_addNoise 99 = .ok (.iastore, 1) := by decide +kernel
theorem dX10_addNoise_100 : decode cX10_addNoise 100 = .ok (.aload_n 0, 1) := by decide +kernel
theorem dX10_addNoise_101 : decode cX10_addNoise 101 = .ok (.getfield 7, 3) := by decide +kernel
theorem dX10_addNoise_104 : decode cX10_addNoise 104 = .ok (.bipush 6, 2) := by decide +kernel
theorem dX10_addNoise_106 : decode cX10_addNoise 106 = .ok (.dup2, 1) := by decide +kernel
theorem dX10_addNoise_107 : decode cX10_addNoise 107 = .ok (.iaload, 1) := by decide +kernel
theorem dX10_addNoise_108 : decode cX10_addNoise 108 = .ok (.iconst 1, 1) := by decide +kernel
theorem dX10_addNoise_109 : decode cX10_addNoise 109 = .ok (.iadd, 1) := by decide +kernel
theorem dX10_addNoise_110 : decode cX10_addNoise 110 = .ok (.iastore, 1) := by decide +kernel
theorem dX10_addNoise_111 : decode cX10_addNoise 111 = .ok (.aload_n 0, 1) := by decide +kernel
theorem dX10_addNoise_112 : decode cX10_addNoise 112 = .ok (.getfield 7, 3) := by decide +kernel
theorem dX10_addNoise_115 : decode cX10_addNoise 115 = .ok (.bipush 6, 2) := by decide +kernel
theorem dX10_addNoise_117 : decode cX10_addNoise 117 = .ok (.iaload, 1) := by decide +kernel
theorem dX10_addNoise_118 : decode cX10_addNoise 118 = .ok (.ireturn, 1) := by decide +kernel
theorem dX10_isLoud_0 : decode cX10_isLoud 0 = .ok (.iconst 0, 1) := by decide +kernel
theorem dX10_isLoud_1 : decode cX10_isLoud 1 = .ok (.istore_n 3, 1) := by decide +kernel
theorem dX10_isLoud_2 : decode cX10_isLoud 2 = .ok (.iconst 0, 1) := by decide +kernel
theorem dX10_isLoud_3 : decode cX10_isLoud 3 = .ok (.istore 4, 2) := by decide +kernel
theorem dX10_isLoud_5 : decode cX10_isLoud 5 = .ok (.iload 4, 2) := by decide +kernel
theorem dX10_isLoud_7 : decode cX10_isLoud 7 = .ok (.aload_n 0, 1) := by decide +kernel
theorem dX10_isLoud_8 : decode cX10_isLoud 8 = .ok (.getfield 7, 3) := by decide +kernel
theorem dX10_isLoud_11 : decode cX10_isLoud 11 = .ok (.bipush 6, 2) := by decide +kernel
theorem dX10_isLoud_13 : decode cX10_isLoud 13 = .ok (.iaload, 1) := by decide +kernel
theorem dX10_isLoud_14 : decode cX10_isLoud 14 = .ok (.if_icmp .ge 55, 3) := by decide +kernel
theorem dX10_isLoud_17 : decode cX10_isLoud 17 = .ok (.iload_n 3, 1) := by decide +kernel
theorem dX10_isLoud_18 : decode cX10_isLoud 18 = .ok (.ifCond .ne 39, 3) := by decide +kernel
theorem dX10_isLoud_21 : decode cX10_isLoud 21 = .ok (.aload_n 0, 1) := by decide +kernel
theorem dX10_isLoud_22 : decode cX10_isLoud 22 = .ok (.getfield 7, 3) := by decide +kernel
theorem dX10_isLoud_25 : decode cX10_isLoud 25 = .ok (.sipush 742, 3) := by decide +kernel
theorem dX10_isLoud_28 : decode cX10_isLoud 28 = .ok (.iconst 2, 1) := by decide +kernel
theorem dX10_isLoud_29 : decode cX10_isLoud 29 = .ok (.iload 4, 2) := by decide +kernel
theorem dX10_isLoud_31 : decode cX10_isLoud 31 = .ok (.imul, 1) := by decide +kernel
theorem dX10_isLoud_32 : decode cX10_isLoud 32 = .ok (.iadd, 1) := by decide +kernel
theorem dX10_isLoud_33 : decode cX10_isLoud 33 = .ok (.iaload, 1) := by decide +kernel
theorem dX10_isLoud_34 : decode cX10_isLoud 34 = .ok (.iload_n 2, 1) := by decide +kernel
theorem dX10_isLoud_35 : decode cX10_isLoud 35 = .ok (.if_icmp .gt 26, 3) := by decide +kernel
theorem dX10_isLoud_38 : decode cX10_isLoud 38 = .ok (.aload_n 0, 1) := by decide +kernel
theorem dX10_isLoud_39 : decode cX10_isLoud 39 = .ok (.getfield 7, 3) := by decide +kernel
theorem dX10_isLoud_42 : decode cX10_isLoud 42 = .ok (.sipush 742, 3) := by decide +kernel
theorem dX10_isLoud_45 : decode cX10_isLoud 45 = .ok (.iconst 2, 1) := by decide +kernel
theorem dX10_isLoud_46 : decode cX10_isLoud 46 = .ok (.iload 4, 2) := by decide +kernel
theorem dX10_isLoud_48 : decode cX10_isLoud 48 = .ok (.imul, 1) := by decide +kernel
theorem dX10_isLoud_49 : decode cX10_isLoud 49 = .ok (.iadd, 1) := by decide +kernel
theorem dX10_isLoud_50 : decode cX10_isLoud 50 = .ok (.iconst 1, 1) := by decide +kernel
theorem dX10_isLoud_51 : decode cX10_isLoud 51 = .ok (.iadd, 1) := by decide +kernel
theorem dX10_isLoud_52 : decode cX10_isLoud 52 = .ok (.iaload, 1) := by decide +kernel
theorem dX10_isLoud_53 : decode cX10_isLoud 53 = .ok (.iload_n 1, 1) := by decide +kernel
theorem dX10_isLoud_54 : decode cX10_isLoud 54 = .ok (.if_icmp .lt 7, 3) := by decide +kernel
theorem dX10_isLoud_57 : decode cX10_isLoud 57 = .ok (.iconst 1, 1) := by decide +kernel
theorem dX10_isLoud_58 : decode cX10_isLoud 58 = .ok (.goto 4, 3) := by decide +kernel
theorem dX10_isLoud_61 : decode cX10_isLoud 61 = .ok (.iconst 0, 1) := by decide +kernel
theorem dX10_isLoud_62 : decode cX10_isLoud 62 = .ok (.istore_n 3, 1) := by decide +kernel
theorem dX10_isLoud_63 : decode cX10_isLoud 63 = .ok (.iinc 4 1, 3) := by decide +kernel
theorem dX10_isLoud_66 : decode cX10_isLoud 66 = .ok (.goto (-61), 3) := by decide +kernel
theorem dX10_isLoud_69 : decode cX10_isLoud 69 = .ok (.iload_n 3, 1) := by decide +kernel
theorem dX10_isLoud_70 : decode cX10_isLoud 70 = .ok (.ireturn, 1) := by decide +kernel
theorem dX10_takes_0 : decode cX10_takes 0 = .ok (.aload_n 0, 1) := by decide +kernel
theorem dX10_takes_1 : decode cX10_takes 1 = .ok (.aload_n 0, 1) := by decide +kernel
theorem dX10_takes_2 : decode cX10_takes 2 = .ok (.getfield 7, 3) := by decide +kernel
theorem dX10_takes_5 : decode cX10_takes 5 = .ok (.iconst 3, 1) := by decide +kernel
theorem dX10_takes_6 : decode cX10_takes 6 = .ok (.iaload, 1) := by decide +kernel
theorem dX10_takes_7 : decode cX10_takes 7 = .ok (.aload_n 0, 1) := by decide +kernel
theorem dX10_takes_8 : decode cX10_takes 8 = .ok (.getfield 7, 3) := by decide +kernel
theorem dX10_takes_11 : decode cX10_takes 11 = .ok (.iconst 3, 1) := by decide +kernel
theorem dX10_takes_12 : decode cX10_takes 12 = .ok (.iaload, 1) := by decide +kernel
theorem dX10_takes_13 : decode cX10_takes 13 = .ok (.iload_n 1, 1) := by decide +kernel
theorem dX10_takes_14 : decode cX10_takes 14 = .ok (.iadd, 1) := by decide +kernel
theorem dX10_takes_15 : decode cX10_takes 15 = .ok (.iconst 1, 1) := by decide +kernel
theorem dX10_takes_16 : decode cX10_takes 16 = .ok (.isub, 1) := by decide +kernel
theorem dX10_takes_17 : decode cX10_takes 17 = .ok (.invokevirtual 76, 3) := by decide +kernel
theorem dX10_takes_20 : decode cX10_takes 20 = .ok (.istore_n 2, 1) := by decide +kernel
theorem dX10_takes_21 : decode cX10_takes 21 = .ok (.aload_n 0, 1) := by decide +kernel
theorem dX10_takes_22 : decode cX10_takes 22 = .ok (.getfield 7, 3) := by decide +kernel
theorem dX10_takes_25 : decode cX10_takes 25 = .ok (.iconst 3, 1) := by decide +kernel
theorem dX10_takes_26 : decode cX10_takes 26 = .ok (.dup2, 1) := by decide +kernel
theorem dX10_takes_27 : decode cX10_takes 27 = .ok (.iaload, 1) := by decide +kernel
theorem dX10_takes_28 : decode cX10_takes 28 = .ok (.iload_n 1, 1) := by decide +kernel
theorem dX10_takes_29 : decode cX10_takes 29 = .ok (.iadd, 1) := by decide +kernel
theorem dX10_takes_30 : decode cX10_takes 30 = .ok (.iastore, 1) := by decide +kernel
theorem dX10_takes_31 : decode cX10_takes 31 = .ok (.aload_n 0, 1) := by decide +kernel
theorem dX10_takes_32 : decode cX10_takes 32 = .ok (.getfield 7, 3) := by decide +kernel
theorem dX10_takes_35 : decode cX10_takes 35 = .ok (.bipush 11, 2) := by decide +kernel
theorem dX10_takes_37 : decode cX10_takes 37 = .ok (.dup2, 1) := by decide +kernel
theorem dX10_takes_38 : decode cX10_takes 38 = .ok (.iaload, 1) := by decide +kernel
theorem dX10_takes_39 : decode cX10_takes 39 = .ok (.iload_n 2, 1) := by decide +kernel
theorem dX10_takes_40 : decode cX10_takes 40 = .ok (.ifCond .eq 7, 3) := by decide +kernel
theorem dX10_takes_43 : decode cX10_takes 43 = .ok (.iconst 1, 1) := by decide +kernel
theorem dX10_takes_44 : decode cX10_takes 44 = .ok (.goto 4, 3) := by decide +kernel
theorem dX10_takes_47 : decode cX10_takes 47 = .ok (.iconst 0, 1) := by decide +kernel
theorem dX10_takes_48 : decode cX10_takes 48 = .ok (.iadd, 1) := by decide +kernel
theorem dX10_takes_49 : decode cX10_takes 49 = .ok (.iastore, 1) := by decide +kernel
theorem dX10_takes_50 : decode cX10_takes 50 = .ok (.iload_n 2, 1) := by decide +kernel
theorem dX10_takes_51 : decode cX10_takes 51 = .ok (.ireturn, 1) := by decide +kernel
theorem dX10_nextOf_0 : decode cX10_nextOf 0 = .ok (.iconst (-1), 1) := by decide +kernel
theorem dX10_nextOf_1 : decode cX10_nextOf 1 = .ok (.istore_n 3, 1) := by decide +kernel
theorem dX10_nextOf_2 : decode cX10_nextOf 2 = .ok (.iconst 0, 1) := by decide +kernel
theorem dX10_nextOf_3 : decode cX10_nextOf 3 = .ok (.istore 4, 2) := by decide +kernel
theorem dX10_nextOf_5 : decode cX10_nextOf 5 = .ok (.iload 4, 2) := by decide +kernel
theorem dX10_nextOf_7 : decode cX10_nextOf 7 = .ok (.aload_n 0, 1) := by decide +kernel
theorem dX10_nextOf_8 : decode cX10_nextOf 8 = .ok (.getfield 7, 3) := by decide +kernel
theorem dX10_nextOf_11 : decode cX10_nextOf 11 = .ok (.iconst 5, 1) := by decide +kernel
theorem dX10_nextOf_12 : decode cX10_nextOf 12 = .ok (.iaload, 1) := by decide +kernel
theorem dX10_nextOf_13 : decode cX10_nextOf 13 = .ok (.if_icmp .ge 126, 3) := by decide +kernel
theorem dX10_nextOf_16 : decode cX10_nextOf 16 = .ok (.aload_n 0, 1) := by decide +kernel
theorem dX10_nextOf_17 : decode cX10_nextOf 17 = .ok (.iload 4, 2) := by decide +kernel
theorem dX10_nextOf_19 : decode cX10_nextOf 19 = .ok (.iconst 2, 1) := by decide +kernel
theorem dX10_nextOf_20 : decode cX10_nextOf 20 = .ok (.invokevirtual 80, 3) := by decide +kernel
theorem dX10_nextOf_23 : decode cX10_nextOf 23 = .ok (.iload_n 1, 1) := by decide +kernel
theorem dX10_nextOf_24 : decode cX10_nextOf 24 = .ok (.if_icmp .ne 18, 3) := by decide +kernel
theorem dX10_nextOf_27 : decode cX10_nextOf 27 = .ok (.aload_n 0, 1) := by decide +kernel
theorem dX10_nextOf_28 : decode cX10_nextOf 28 = .ok (.iload 4, 2) := by decide +kernel
theorem dX10_nextOf_30 : decode cX10_nextOf 30 = .ok (.iconst 4, 1) := by decide +kernel
theorem dX10_nextOf_31 : decode cX10_nextOf 31 = .ok (.invokevirtual 80, 3) := by decide +kernel
theorem dX10_nextOf_34 : decode cX10_nextOf 34 = .ok (.iconst (-1), 1) := by decide +kernel
theorem dX10_nextOf_35 : decode cX10_nextOf 35 = .ok (.if_icmp .ne 7, 3) := by decide +kernel
theorem dX10_nextOf_38 : decode cX10_nextOf 38 = .ok (.iconst 1, 1) := by decide +kernel
theorem dX10_nextOf_39 : decode cX10_nextOf 39 = .ok (.goto 4, 3) := by decide +kernel
theorem dX10_nextOf_42 : decode cX10_nextOf 42 = .ok (.iconst 0, 1) := by decide +kernel
theorem dX10_nextOf_43 : decode cX10_nextOf 43 = .ok (.istore 5, 2) := by decide +kernel
theorem dX10_nextOf_45 : decode cX10_nextOf 45 = .ok (.iload_n 2, 1) := by decide +kernel
theorem dX10_nextOf_46 : decode cX10_nextOf 46 = .ok (.iconst (-1), 1) := by decide +kernel
theorem dX10_nextOf_47 : decode cX10_nextOf 47 = .ok (.if_icmp .eq 41, 3) := by decide +kernel
theorem dX10_nextOf_50 : decode cX10_nextOf 50 = .ok (.aload_n 0, 1) := by decide +kernel
theorem dX10_nextOf_51 : decode cX10_nextOf 51 = .ok (.iload 4, 2) := by decide +kernel
theorem dX10_nextOf_53 : decode cX10_nextOf 53 = .ok (.iconst 1, 1) := by decide +kernel
theorem dX10_nextOf_54 : decode cX10_nextOf 54 = .ok (.invokevirtual 80, 3) := by decide +kernel
theorem dX10_nextOf_57 : decode cX10_nextOf 57 = .ok (.aload_n 0, 1) := by decide +kernel
theorem dX10_nextOf_58 : decode cX10_nextOf 58 = .ok (.iload_n 2, 1) := by decide +kernel
theorem dX10_nextOf_59 : decode cX10_nextOf 59 = .ok (.iconst 1, 1) := by decide +kernel
theorem dX10_nextOf_60 : decode cX10_nextOf 60 = .ok (.invokevirtual 80, 3) := by decide +kernel
theorem dX10_nextOf_63 : decode cX10_nextOf 63 = .ok (.if_icmp .lt 25, 3) := by decide +kernel
theorem dX10_nextOf_66 : decode cX10_nextOf 66 = .ok (.aload_n 0, 1) := by decide +kernel
theorem dX10_nextOf_67 : decode cX10_nextOf 67 = .ok (.iload 4, 2) := by decide +kernel
theorem dX10_nextOf_69 : decode cX10_nextOf 69 = .ok (.iconst 1, 1) := by decide +kernel
theorem dX10_nextOf_70 : decode cX10_nextOf 70 = .ok (.invokevirtual 80, 3) := by decide +kernel
theorem dX10_nextOf_73 : decode cX10_nextOf 73 = .ok (.aload_n 0, 1) := by decide +kernel
theorem dX10_nextOf_74 : decode cX10_nextOf 74 = .ok (.iload_n 2, 1) := by decide +kernel
theorem dX10_nextOf_75 : decode cX10_nextOf 75 = .ok (.iconst 1, 1) := by decide +kernel
theorem dX10_nextOf_76 : decode cX10_nextOf 76 = .ok (.invokevirtual 80, 3) := by decide +kernel
theorem dX10_nextOf_79 : decode cX10_nextOf 79 = .ok (.if_icmp .ne 13, 3) := by decide +kernel
theorem dX10_nextOf_82 : decode cX10_nextOf 82 = .ok (.iload 4, 2) := by decide +kernel
theorem dX10_nextOf_84 : decode cX10_nextOf 84 = .ok (.iload_n 2, 1) := by decide +kernel
theorem dX10_nextOf_85 : decode cX10_nextOf 85 = .ok (.if_icmp .le 7, 3) := by decide +kernel
theorem dX10_nextOf_88 : decode cX10_nextOf 88 = .ok (.iconst 1, 1) := by decide +kernel
theorem dX10_nextOf_89 : decode cX10_nextOf 89 = .ok (.goto 4, 3) := by decide +kernel
theorem dX10_nextOf_92 : decode cX10_nextOf 92 = .ok (.iconst 0, 1) := by decide +kernel
theorem dX10_nextOf_93 : decode cX10_nextOf 93 = .ok (.istore 6, 2) := by decide +kernel
theorem dX10_nextOf_95 : decode cX10_nextOf 95 = .ok (.iload 5, 2) := by decide +kernel
theorem dX10_nextOf_97 : decode cX10_nextOf 97 = .ok (.ifCond .eq 34, 3) := by decide +kernel
theorem dX10_nextOf_100 : decode cX10_nextOf 100 = .ok (.iload 6, 2) := by decide +kernel
theorem dX10_nextOf_102 : decode cX10_nextOf 102 = .ok (.ifCond .eq 29, 3) := by decide +kernel
theorem dX10_nextOf_105 : decode cX10_nextOf 105 = .ok (.iload_n 3, 1) := by decide +kernel
theorem dX10_nextOf_106 : decode cX10_nextOf 106 = .ok (.iconst (-1), 1) := by decide +kernel
theorem dX10_nextOf_107 : decode cX10_nextOf 107 = .ok (.if_icmp .eq 19, 3) := by decide +kernel
theorem dX10_nextOf_110 : decode cX10_nextOf 110 = .ok (.aload_n 0, 1) := by decide +kernel
theorem dX10_nextOf_111 : decode cX10_nextOf 111 = .ok (.iload 4, 2) := by decide +kernel
theorem dX10_nextOf_113 : decode cX10_nextOf 113 = .ok (.iconst 1, 1) := by decide +kernel
theorem dX10_nextOf_114 : decode cX10_nextOf 114 = .ok (.invokevirtual 80, 3) := by decide +kernel
theorem dX10_nextOf_117 : decode cX10_nextOf 117 = .ok (.aload_n 0, 1) := by decide +kernel
theorem dX10_nextOf_118 : decode cX10_nextOf 118 = .ok (.iload_n 3, 1) := by decide +kernel
theorem dX10_nextOf_119 : decode cX10_nextOf 119 = .ok (.iconst 1, 1) := by decide +kernel
theorem dX10_nextOf_120 : decode cX10_nextOf 120 = .ok (.invokevirtual 80, 3) := by decide +kernel
theorem dX10_nextOf_123 : decode cX10_nextOf 123 = .ok (.if_icmp .le 8, 3) := by decide +kernel
theorem dX10_nextOf_126 : decode cX10_nextOf 126 = .ok (.iload 4, 2) := by decide +kernel
theorem dX10_nextOf_128 : decode cX10_nextOf 128 = .ok (.goto 4, 3) := by decide +kernel
theorem dX10_nextOf_131 : decode cX10_nextOf 131 = .ok (.iload_n 3, 1) := by decide +kernel
theorem dX10_nextOf_132 : decode cX10_nextOf 132 = .ok (.istore_n 3, 1) := by decide +kernel
theorem dX10_nextOf_133 : decode cX10_nextOf 133 = .ok (.iinc 4 1, 3) := by decide +kernel
theorem dX10_nextOf_136 : decode cX10_nextOf 136 = .ok (.goto (-131), 3) := by decide +kernel
theorem dX10_nextOf_139 : decode cX10_nextOf 139 = .ok (.iload_n 3, 1) := by decide +kernel
theorem dX10_nextOf_140 : decode cX10_nextOf 140 = .ok (.ireturn, 1) := by decide +kernel
theorem dX10_makesToken_0 : decode cX10_makesToken 0 = .ok (.iconst (-1), 1) := by decide +kernel
theorem dX10_makesToken_1 : decode cX10_makesToken 1 = .ok (.istore_n 1, 1) := by decide +kernel
theorem dX10_makesToken_2 : decode cX10_makesToken 2 = .ok (.bipush 31, 2) := by decide +kernel
theorem dX10_makesToken_4 : decode cX10_makesToken 4 = .ok (.istore_n 2, 1) := by decide +kernel
theorem dX10_makesToken_5 : decode cX10_makesToken 5 = .ok (.iload_n 2, 1) := by decide +kernel
theorem dX10_makesToken_6 : decode cX10_makesToken 6 = .ok (.ifCond .lt 35, 3) := by decide +kernel
theorem dX10_makesToken_9 : decode cX10_makesToken 9 = .ok (.aload_n 0, 1) := by decide +kernel
theorem dX10_makesToken_10 : decode cX10_makesToken 10 = .ok (.iload_n 2, 1) := by decide +kernel
theorem dX10_makesToken_11 : decode cX10_makesToken 11 = .ok (.iconst 0, 1) := by decide +kernel
theorem dX10_makesToken_12 : decode cX10_makesToken 12 = .ok (.invokevirtual 39, 3) := by decide +kernel
theorem dX10_makesToken_15 : decode cX10_makesToken 15 = .ok (.iconst 1, 1) := by decide +kernel
theorem dX10_makesToken_16 : decode cX10_makesToken 16 = .ok (.if_icmp .ne 17, 3) := by decide +kernel
theorem dX10_makesToken_19 : decode cX10_makesToken 19 = .ok (.aload_n 0, 1) := by decide +kernel
theorem dX10_makesToken_20 : decode cX10_makesToken 20 = .ok (.iload_n 2, 1) := by decide +kernel
theorem dX10_makesToken_21 : decode cX10_makesToken 21 = .ok (.iconst 1, 1) := by decide +kernel
theorem dX10_makesToken_22 : decode cX10_makesToken 22 = .ok (.invokevirtual 39, 3) := by decide +kernel
theorem dX10_makesToken_25 : decode cX10_makesToken 25 = .ok (.iconst 1, 1) := by decide +kernel
theorem dX10_makesToken_26 : decode cX10_makesToken 26 = .ok (.if_icmp .ne 7, 3) := by decide +kernel
theorem dX10_makesToken_29 : decode cX10_makesToken 29 = .ok (.iload_n 2, 1) := by decide +kernel
theorem dX10_makesToken_30 : decode cX10_makesToken 30 = .ok (.goto 4, 3) := by decide +kernel
theorem dX10_makesToken_33 : decode cX10_makesToken 33 = .ok (.iload_n 1, 1) := by decide +kernel
theorem dX10_makesToken_34 : decode cX10_makesToken 34 = .ok (.istore_n 1, 1) := by decide +kernel
theorem dX10_makesToken_35 : decode cX10_makesToken 35 = .ok (.iinc 2 (-1), 3) := by decide +kernel
theorem dX10_makesToken_38 : decode cX10_makesToken 38 = .ok (.goto (-33), 3) := by decide +kernel
theorem dX10_makesToken_41 : decode cX10_makesToken 41 = .ok (.bipush 31, 2) := by decide +kernel
theorem dX10_makesToken_43 : decode cX10_makesToken 43 = .ok (.istore_n 2, 1) := by decide +kernel
theorem dX10_makesToken_44 : decode cX10_makesToken 44 = .ok (.iload_n 2, 1) := by decide +kernel
theorem dX10_makesToken_45 : decode cX10_makesToken 45 = .ok (.ifCond .lt 23, 3) := by decide +kernel
theorem dX10_makesToken_48 : decode cX10_makesToken 48 = .ok (.aload_n 0, 1) := by decide +kernel
theorem dX10_makesToken_49 : decode cX10_makesToken 49 = .ok (.iload_n 2, 1) := by decide +kernel
theorem dX10_makesToken_50 : decode cX10_makesToken 50 = .ok (.invokevirtual 83, 3) := by decide +kernel
theorem dX10_makesToken_53 : decode cX10_makesToken 53 = .ok (.ifCond .eq 7, 3) := by decide +kernel
theorem dX10_makesToken_56 : decode cX10_makesToken 56 = .ok (.iload_n 2, 1) := by decide +kernel
theorem dX10_makesToken_57 : decode cX10_makesToken 57 = .ok (.goto 4, 3) := by decide +kernel
theorem dX10_makesToken_60 : decode cX10_makesToken 60 = .ok (.iload_n 1, 1) := by decide +kernel
theorem dX10_makesToken_61 : decode cX10_makesToken 61 = .ok (.istore_n 1, 1) := by decide +kernel
theorem dX10_makesToken_62 : decode cX10_makesToken 62 = .ok (.iinc 2 (-1), 3) := by decide +kernel
theorem dX10_makesToken_65 : decode cX10_makesToken 65 = .ok (.goto (-21), 3) := by decide +kernel
theorem dX10_makesToken_68 : decode cX10_makesToken 68 = .ok (.iload_n 1, 1) := by decide +kernel
theorem dX10_makesToken_69 : decode cX10_makesToken 69 = .ok (.iconst (-1), 1) := by decide +kernel
theorem dX10_makesToken_70 : decode cX10_makesToken 70 = .ok (.if_icmp .ne 5, 3) := by decide +kernel
theorem dX10_makesToken_73 : decode cX10_makesToken 73 = .ok (.iconst 0, 1) := by decide +kernel
theorem dX10_makesToken_74 : decode cX10_makesToken 74 = .ok (.ireturn, 1) := by decide +kernel
theorem dX10_makesToken_75 : decode cX10_makesToken 75 = .ok (.aload_n 0, 1) := by decide +kernel
theorem dX10_makesToken_76 : decode cX10_makesToken 76 = .ok (.getfield 7, 3) := by decide +kernel
theorem dX10_makesToken_79 : decode cX10_makesToken 79 = .ok (.iconst 3, 1) := by decide +kernel
theorem dX10_makesToken_80 : decode cX10_makesToken 80 = .ok (.dup2, 1) := by decide +kernel
theorem dX10_makesToken_81 : decode cX10_makesToken 81 = .ok (.iaload, 1) := by decide +kernel
theorem dX10_makesToken_82 : decode cX10_makesToken 82 = .ok (.aload_n 0, 1) := by decide +kernel
theorem dX10_makesToken_83 : decode cX10_makesToken 83 = .ok (.getfield 7, 3) := by decide +kernel
theorem dX10_makesToken_86 : decode cX10_makesToken 86 = .ok (.iconst 1, 1) := by decide +kernel
theorem dX10_makesToken_87 : decode cX10_makesToken 87 = .ok (.iaload, 1) := by decide +kernel
theorem dX10_makesToken_88 : decode cX10_makesToken 88 = .ok (.bipush 6, 2) := by decide +kernel
theorem dX10_makesToken_90 : decode cX10_makesToken 90 = .ok (.iconst 2, 1) := by decide +kernel
theorem dX10_makesToken_91 : decode cX10_makesToken 91 = .ok (.iload_n 1, 1) := by decide +kernel
theorem dX10_makesToken_92 : decode cX10_makesToken 92 = .ok (.imul, 1) := by decide +kernel
theorem dX10_makesToken_93 : decode cX10_makesToken 93 = .ok (.iadd, 1) := by decide +kernel
theorem dX10_makesToken_94 : decode cX10_makesToken 94 = .ok (.imul, 1) := by decide +kernel
theorem dX10_makesToken_95 : decode cX10_makesToken 95 = .ok (.iadd, 1) := by decide +kernel
theorem dX10_makesToken_96 : decode cX10_makesToken 96 = .ok (.iastore, 1) := by decide +kernel
theorem dX10_makesToken_97 : decode cX10_makesToken 97 = .ok (.aload_n 0, 1) := by decide +kernel
theorem dX10_makesToken_98 : decode cX10_makesToken 98 = .ok (.iload_n 1, 1) := by decide +kernel
theorem dX10_makesToken_99 : decode cX10_makesToken 99 = .ok (.invokevirtual 83, 3) := by decide +kernel
theorem dX10_makesToken_102 : decode cX10_makesToken 102 = .ok (.ifCond .ne 25, 3) := by decide +kernel
theorem dX10_makesToken_105 : decode cX10_makesToken 105 = .ok (.aload_n 0, 1) := by decide +kernel
theorem dX10_makesToken_106 : decode cX10_makesToken 106 = .ok (.getfield 7, 3) := by decide +kernel
theorem dX10_makesToken_109 : decode cX10_makesToken 109 = .ok (.iload_n 1, 1) := by decide +kernel
theorem dX10_makesToken_110 : decode cX10_makesToken 110 = .ok (.iconst 2, 1) := by decide +kernel
theorem dX10_makesToken_111 : decode cX10_makesToken 111 = .ok (.invokestatic 29, 3) := by decide +kernel
theorem dX10_makesToken_114 : decode cX10_makesToken 114 = .ok (.iconst 1, 1) := by decide +kernel
theorem dX10_makesToken_115 : decode cX10_makesToken 115 = .ok (.iastore, 1) := by decide +kernel
theorem dX10_makesToken_116 : decode cX10_makesToken 116 = .ok (.aload_n 0, 1) := by decide +kernel
theorem dX10_makesToken_117 : decode cX10_makesToken 117 = .ok (.getfield 7, 3) := by decide +kernel
theorem dX10_makesToken_120 : decode cX10_makesToken 120 = .ok (.iload_n 1, 1) := by decide +kernel
theorem dX10_makesToken_121 : decode cX10_makesToken 121 = .ok (.iconst 3, 1) := by decide +kernel
theorem dX10_makesToken_122 : decode cX10_makesToken 122 = .ok (.invokestatic 29, 3) := by decide +kernel
theorem dX10_makesToken_125 : decode cX10_makesToken 125 = .ok (.iload_n 1, 1) := by decide +kernel
theorem dX10_makesToken_126 : decode cX10_makesToken 126 = .ok (.iastore, 1) := by decide +kernel
theorem dX10_makesToken_127 : decode cX10_makesToken 127 = .ok (.aload_n 0, 1) := by decide +kernel
theorem dX10_makesToken_128 : decode cX10_makesToken 128 = .ok (.getfield 7, 3) := by decide +kernel
theorem dX10_makesToken_131 : decode cX10_makesToken 131 = .ok (.iconst 4, 1) := by decide +kernel
theorem dX10_makesToken_132 : decode cX10_makesToken 132 = .ok (.iload_n 1, 1) := by decide +kernel
theorem dX10_makesToken_133 : decode cX10_makesToken 133 = .ok (.iastore, 1) := by decide +kernel
theorem dX10_makesToken_134 : decode cX10_makesToken 134 = .ok (.aload_n 0, 1) := by decide +kernel
theorem dX10_makesToken_135 : decode cX10_makesToken 135 = .ok (.getfield 7, 3) := by decide +kernel
theorem dX10_makesToken_138 : decode cX10_makesToken 138 = .ok (.bipush 12, 2) := by decide +kernel
theorem dX10_makesToken_140 : decode cX10_makesToken 140 = .ok (.dup2, 1) := by decide +kernel
theorem dX10_makesToken_141 : decode cX10_makesToken 141 = .ok (.iaload, 1) := by decide +kernel
theorem dX10_makesToken_142 : decode cX10_makesToken 142 = .ok (.iconst 1, 1) := by decide +kernel
theorem dX10_makesToken_143 : decode cX10_makesToken 143 = .ok (.iadd, 1) := by decide +kernel
theorem dX10_makesToken_144 : decode cX10_makesToken 144 = .ok (.iastore, 1) := by decide +kernel
theorem dX10_makesToken_145 : decode cX10_makesToken 145 = .ok (.iconst 1, 1) := by decide +kernel
theorem dX10_makesToken_146 : decode cX10_makesToken 146 = .ok (.ireturn, 1) := by decide +kernel
theorem dX10_sends_0 : decode cX10_sends 0 = .ok (.aload_n 0, 1) := by decide +kernel
theorem dX10_sends_1 : decode cX10_sends 1 = .ok (.iload_n 1, 1) := by decide +kernel
theorem dX10_sends_2 : decode cX10_sends 2 = .ok (.iconst (-1), 1) := by decide +kernel
theorem dX10_sends_3 : decode cX10_sends 3 = .ok (.invokevirtual 86, 3) := by decide +kernel
theorem dX10_sends_6 : decode cX10_sends 6 = .ok (.istore_n 2, 1) := by decide +kernel
theorem dX10_sends_7 : decode cX10_sends 7 = .ok (.aload_n 0, 1) := by decide +kernel
theorem dX10_sends_8 : decode cX10_sends 8 = .ok (.getfield 7, 3) := by decide +kernel
theorem dX10_sends_11 : decode cX10_sends 11 = .ok (.iconst 3, 1) := by decide +kernel
theorem dX10_sends_12 : decode cX10_sends 12 = .ok (.iaload, 1) := by decide +kernel
theorem dX10_sends_13 : decode cX10_sends 13 = .ok (.istore_n 3, 1) := by decide +kernel
theorem dX10_sends_14 : decode cX10_sends 14 = .ok (.aload_n 0, 1) := by decide +kernel
theorem dX10_sends_15 : decode cX10_sends 15 = .ok (.aload_n 0, 1) := by decide +kernel
theorem dX10_sends_16 : decode cX10_sends 16 = .ok (.iload_n 2, 1) := by decide +kernel
theorem dX10_sends_17 : decode cX10_sends 17 = .ok (.iconst 0, 1) := by decide +kernel
theorem dX10_sends_18 : decode cX10_sends 18 = .ok (.invokevirtual 80, 3) := by decide +kernel
theorem dX10_sends_21 : decode cX10_sends 21 = .ok (.invokevirtual 89, 3) := by decide +kernel
theorem dX10_sends_24 : decode cX10_sends 24 = .ok (.ifCond .eq 5, 3) := by decide +kernel
theorem dX10_sends_27 : decode cX10_sends 27 = .ok (.iconst 1, 1) := by decide +kernel
theorem dX10_sends_28 : decode cX10_sends 28 = .ok (.ireturn, 1) := by decide +kernel
theorem dX10_sends_29 : decode cX10_sends 29 = .ok (.aload_n 0, 1) := by decide +kernel
theorem dX10_sends_30 : decode cX10_sends 30 = .ok (.getfield 7, 3) := by decide +kernel
theorem dX10_sends_33 : decode cX10_sends 33 = .ok (.iload_n 2, 1) := by decide +kernel
theorem dX10_sends_34 : decode cX10_sends 34 = .ok (.iconst 4, 1) := by decide +kernel
theorem dX10_sends_35 : decode cX10_sends 35 = .ok (.invokestatic 42, 3) := by decide +kernel
theorem dX10_sends_38 : decode cX10_sends 38 = .ok (.iload_n 3, 1) := by decide +kernel
theorem dX10_sends_39 : decode cX10_sends 39 = .ok (.aload_n 0, 1) := by decide +kernel
theorem dX10_sends_40 : decode cX10_sends 40 = .ok (.iload_n 2, 1) := by decide +kernel
theorem dX10_sends_41 : decode cX10_sends 41 = .ok (.iconst 3, 1) := by decide +kernel
theorem dX10_sends_42 : decode cX10_sends 42 = .ok (.invokevirtual 80, 3) := by decide +kernel
theorem dX10_sends_45 : decode cX10_sends 45 = .ok (.isub, 1) := by decide +kernel
theorem dX10_sends_46 : decode cX10_sends 46 = .ok (.iastore, 1) := by decide +kernel
theorem dX10_sends_47 : decode cX10_sends 47 = .ok (.aload_n 0, 1) := by decide +kernel
theorem dX10_sends_48 : decode cX10_sends 48 = .ok (.getfield 7, 3) := by decide +kernel
theorem dX10_sends_51 : decode cX10_sends 51 = .ok (.bipush 10, 2) := by decide +kernel
theorem dX10_sends_53 : decode cX10_sends 53 = .ok (.dup2, 1) := by decide +kernel
theorem dX10_sends_54 : decode cX10_sends 54 = .ok (.iaload, 1) := by decide +kernel
theorem dX10_sends_55 : decode cX10_sends 55 = .ok (.iconst 1, 1) := by decide +kernel
theorem dX10_sends_56 : decode cX10_sends 56 = .ok (.iadd, 1) := by decide +kernel
theorem dX10_sends_57 : decode cX10_sends 57 = .ok (.iastore, 1) := by decide +kernel
theorem dX10_sends_58 : decode cX10_sends 58 = .ok (.aload_n 0, 1) := by decide +kernel
theorem dX10_sends_59 : decode cX10_sends 59 = .ok (.getfield 7, 3) := by decide +kernel
theorem dX10_sends_62 : decode cX10_sends 62 = .ok (.bipush 15, 2) := by decide +kernel
theorem dX10_sends_64 : decode cX10_sends 64 = .ok (.dup2, 1) := by decide +kernel
theorem dX10_sends_65 : decode cX10_sends 65 = .ok (.iaload, 1) := by decide +kernel
theorem dX10_sends_66 : decode cX10_sends 66 = .ok (.aload_n 0, 1) := by decide +kernel
theorem dX10_sends_67 : decode cX10_sends 67 = .ok (.iload_n 2, 1) := by decide +kernel
theorem dX10_sends_68 : decode cX10_sends 68 = .ok (.iconst 0, 1) := by decide +kernel
theorem dX10_sends_69 : decode cX10_sends 69 = .ok (.invokevirtual 80, 3) := by decide +kernel
theorem dX10_sends_72 : decode cX10_sends 72 = .ok (.iadd, 1) := by decide +kernel
theorem dX10_sends_73 : decode cX10_sends 73 = .ok (.iastore, 1) := by decide +kernel
theorem dX10_sends_74 : decode cX10_sends 74 = .ok (.iconst 0, 1) := by decide +kernel
theorem dX10_sends_75 : decode cX10_sends 75 = .ok (.ireturn, 1) := by decide +kernel
theorem dX10_sendsAll_0 : decode cX10_sendsAll 0 = .ok (.aload_n 0, 1) := by decide +kernel
theorem dX10_sendsAll_1 : decode cX10_sendsAll 1 = .ok (.iload_n 1, 1) := by decide +kernel
theorem dX10_sendsAll_2 : decode cX10_sendsAll 2 = .ok (.iconst (-1), 1) := by decide +kernel
theorem dX10_sendsAll_3 : decode cX10_sendsAll 3 = .ok (.invokevirtual 86, 3) := by decide +kernel
theorem dX10_sendsAll_6 : decode cX10_sendsAll 6 = .ok (.istore 4, 2) := by decide +kernel
theorem dX10_sendsAll_8 : decode cX10_sendsAll 8 = .ok (.iload 4, 2) := by decide +kernel
theorem dX10_sendsAll_10 : decode cX10_sendsAll 10 = .ok (.iconst (-1), 1) := by decide +kernel
theorem dX10_sendsAll_11 : decode cX10_sendsAll 11 = .ok (.if_icmp .eq 26, 3) := by decide +kernel
theorem dX10_sendsAll_14 : decode cX10_sendsAll 14 = .ok (.aload_n 0, 1) := by decide +kernel
theorem dX10_sendsAll_15 : decode cX10_sendsAll 15 = .ok (.iload 4, 2) := by decide +kernel
theorem dX10_sendsAll_17 : decode cX10_sendsAll 17 = .ok (.iconst 1, 1) := by decide +kernel
theorem dX10_sendsAll_18 : decode cX10_sendsAll 18 = .ok (.invokevirtual 80, 3) := by decide +kernel
theorem dX10_sendsAll_21 : decode cX10_sendsAll 21 = .ok (.iconst 5, 1) := by decide +kernel
theorem dX10_sendsAll_22 : decode cX10_sendsAll 22 = .ok (.if_icmp .lt 15, 3) := by decide +kernel
theorem dX10_sendsAll_25 : decode cX10_sendsAll 25 = .ok (.aload_n 0, 1) := by decide +kernel
theorem dX10_sendsAll_26 : decode cX10_sendsAll 26 = .ok (.iload_n 1, 1) := by decide +kernel
theorem dX10_sendsAll_27 : decode cX10_sendsAll 27 = .ok (.invokevirtual 92, 3) := by decide +kernel
theorem dX10_sendsAll_30 : decode cX10_sendsAll 30 = .ok (.ifCond .eq 7, 3) := by decide +kernel
theorem dX10_sendsAll_33 : decode cX10_sendsAll 33 = .ok (.iconst 1, 1) := by decide +kernel
theorem dX10_sendsAll_34 : decode cX10_sendsAll 34 = .ok (.goto 4, 3) := by decide +kernel
theorem dX10_sendsAll_37 : decode cX10_sendsAll 37 = .ok (.iconst 0, 1) := by decide +kernel
theorem dX10_sendsAll_38 : decode cX10_sendsAll 38 = .ok (.istore 5, 2) := by decide +kernel
theorem dX10_sendsAll_40 : decode cX10_sendsAll 40 = .ok (.iload 5, 2) := by decide +kernel
theorem dX10_sendsAll_42 : decode cX10_sendsAll 42 = .ok (.ifCond .ne 35, 3) := by decide +kernel
theorem dX10_sendsAll_45 : decode cX10_sendsAll 45 = .ok (.aload_n 0, 1) := by decide +kernel
theorem dX10_sendsAll_46 : decode cX10_sendsAll 46 = .ok (.iload_n 1, 1) := by decide +kernel
theorem dX10_sendsAll_47 : decode cX10_sendsAll 47 = .ok (.iconst (-1), 1) := by decide +kernel
theorem dX10_sendsAll_48 : decode cX10_sendsAll 48 = .ok (.invokevirtual 86, 3) := by decide +kernel
theorem dX10_sendsAll_51 : decode cX10_sendsAll 51 = .ok (.iconst (-1), 1) := by decide +kernel
theorem dX10_sendsAll_52 : decode cX10_sendsAll 52 = .ok (.if_icmp .eq 25, 3) := by decide +kernel
theorem dX10_sendsAll_55 : decode cX10_sendsAll 55 = .ok (.aload_n 0, 1) := by decide +kernel
theorem dX10_sendsAll_56 : decode cX10_sendsAll 56 = .ok (.getfield 7, 3) := by decide +kernel
theorem dX10_sendsAll_59 : decode cX10_sendsAll 59 = .ok (.iconst 3, 1) := by decide +kernel
theorem dX10_sendsAll_60 : decode cX10_sendsAll 60 = .ok (.iaload, 1) := by decide +kernel
theorem dX10_sendsAll_61 : decode cX10_sendsAll 61 = .ok (.iload_n 2, 1) := by decide +kernel
theorem dX10_sendsAll_62 : decode cX10_sendsAll 62 = .ok (.isub, 1) := by decide +kernel
theorem dX10_sendsAll_63 : decode cX10_sendsAll 63 = .ok (.iload_n 3, 1) := by decide +kernel
theorem dX10_sendsAll_64 : decode cX10_sendsAll 64 = .ok (.if_icmp .ge 13, 3) := by decide +kernel
theorem dX10_sendsAll_67 : decode cX10_sendsAll 67 = .ok (.aload_n 0, 1) := by decide +kernel
theorem dX10_sendsAll_68 : decode cX10_sendsAll 68 = .ok (.iload_n 1, 1) := by decide +kernel
theorem dX10_sendsAll_69 : decode cX10_sendsAll 69 = .ok (.invokevirtual 92, 3) := by decide +kernel
theorem dX10_sendsAll_72 : decode cX10_sendsAll 72 = .ok (.istore 5, 2) := by decide +kernel
theorem dX10_sendsAll_74 : decode cX10_sendsAll 74 = .ok (.goto (-34), 3) := by decide +kernel
theorem dX10_sendsAll_77 : decode cX10_sendsAll 77 = .ok (.return_, 1) := by decide +kernel
theorem dX10_behind_0 : decode cX10_behind 0 = .ok (.iload_n 1, 1) := by decide +kernel
theorem dX10_behind_1 : decode cX10_behind 1 = .ok (.iload_n 0, 1) := by decide +kernel
theorem dX10_behind_2 : decode cX10_behind 2 = .ok (.isub, 1) := by decide +kernel
theorem dX10_behind_3 : decode cX10_behind 3 = .ok (.bipush 32, 2) := by decide +kernel
theorem dX10_behind_5 : decode cX10_behind 5 = .ok (.iadd, 1) := by decide +kernel
theorem dX10_behind_6 : decode cX10_behind 6 = .ok (.bipush 32, 2) := by decide +kernel
theorem dX10_behind_8 : decode cX10_behind 8 = .ok (.irem, 1) := by decide +kernel
theorem dX10_behind_9 : decode cX10_behind 9 = .ok (.istore_n 2, 1) := by decide +kernel
theorem dX10_behind_10 : decode cX10_behind 10 = .ok (.iload_n 2, 1) := by decide +kernel
theorem dX10_behind_11 : decode cX10_behind 11 = .ok (.ifCond .ne 8, 3) := by decide +kernel
theorem dX10_behind_14 : decode cX10_behind 14 = .ok (.bipush 32, 2) := by decide +kernel
theorem dX10_behind_16 : decode cX10_behind 16 = .ok (.goto 4, 3) := by decide +kernel
theorem dX10_behind_19 : decode cX10_behind 19 = .ok (.iload_n 2, 1) := by decide +kernel
theorem dX10_behind_20 : decode cX10_behind 20 = .ok (.ireturn, 1) := by decide +kernel
theorem dX10_polls_0 : decode cX10_polls 0 = .ok (.iload_n 1, 1) := by decide +kernel
theorem dX10_polls_1 : decode cX10_polls 1 = .ok (.aload_n 0, 1) := by decide +kernel
theorem dX10_polls_2 : decode cX10_polls 2 = .ok (.iload_n 1, 1) := by decide +kernel
theorem dX10_polls_3 : decode cX10_polls 3 = .ok (.iconst 3, 1) := by decide +kernel
theorem dX10_polls_4 : decode cX10_polls 4 = .ok (.invokevirtual 39, 3) := by decide +kernel
theorem dX10_polls_7 : decode cX10_polls 7 = .ok (.invokestatic 95, 3) := by decide +kernel
theorem dX10_polls_10 : decode cX10_polls 10 = .ok (.iconst 1, 1) := by decide +kernel
theorem dX10_polls_11 : decode cX10_polls 11 = .ok (.isub, 1) := by decide +kernel
theorem dX10_polls_12 : decode cX10_polls 12 = .ok (.istore_n 2, 1) := by decide +kernel
theorem dX10_polls_13 : decode cX10_polls 13 = .ok (.aload_n 0, 1) := by decide +kernel
theorem dX10_polls_14 : decode cX10_polls 14 = .ok (.iload_n 1, 1) := by decide +kernel
theorem dX10_polls_15 : decode cX10_polls 15 = .ok (.iconst 5, 1) := by decide +kernel
theorem dX10_polls_16 : decode cX10_polls 16 = .ok (.invokevirtual 39, 3) := by decide +kernel
theorem dX10_polls_19 : decode cX10_polls 19 = .ok (.aload_n 0, 1) := by decide +kernel
theorem dX10_polls_20 : decode cX10_polls 20 = .ok (.getfield 7, 3) := by decide +kernel
theorem dX10_polls_23 : decode cX10_polls 23 = .ok (.iconst 2, 1) := by decide +kernel
theorem dX10_polls_24 : decode cX10_polls 24 = .ok (.iaload, 1) := by decide +kernel
theorem dX10_polls_25 : decode cX10_polls 25 = .ok (.irem, 1) := by decide +kernel
theorem dX10_polls_26 : decode cX10_polls 26 = .ok (.ifCond .ne 7, 3) := by decide +kernel
theorem dX10_polls_29 : decode cX10_polls 29 = .ok (.iload_n 2, 1) := by decide +kernel
theorem dX10_polls_30 : decode cX10_polls 30 = .ok (.ifCond .ne 4, 3) := by decide +kernel
theorem dX10_polls_33 : decode cX10_polls 33 = .ok (.return_, 1) := by decide +kernel
theorem dX10_polls_34 : decode cX10_polls 34 = .ok (.aload_n 0, 1) := by decide +kernel
theorem dX10_polls_35 : decode cX10_polls 35 = .ok (.iload_n 1, 1) := by decide +kernel
theorem dX10_polls_36 : decode cX10_polls 36 = .ok (.iconst 4, 1) := by decide +kernel
theorem dX10_polls_37 : decode cX10_polls 37 = .ok (.invokevirtual 39, 3) := by decide +kernel
theorem dX10_polls_40 : decode cX10_polls 40 = .ok (.iconst 1, 1) := by decide +kernel
theorem dX10_polls_41 : decode cX10_polls 41 = .ok (.iadd, 1) := by decide +kernel
theorem dX10_polls_42 : decode cX10_polls 42 = .ok (.bipush 32, 2) := by decide +kernel
theorem dX10_polls_44 : decode cX10_polls 44 = .ok (.irem, 1) := by decide +kernel
theorem dX10_polls_45 : decode cX10_polls 45 = .ok (.istore_n 3, 1) := by decide +kernel
theorem dX10_polls_46 : decode cX10_polls 46 = .ok (.iload_n 1, 1) := by decide +kernel
theorem dX10_polls_47 : decode cX10_polls 47 = .ok (.iload_n 3, 1) := by decide +kernel
theorem dX10_polls_48 : decode cX10_polls 48 = .ok (.invokestatic 95, 3) := by decide +kernel
theorem dX10_polls_51 : decode cX10_polls 51 = .ok (.iload_n 2, 1) := by decide +kernel
theorem dX10_polls_52 : decode cX10_polls 52 = .ok (.if_icmp .gt 7, 3) := by decide +kernel
theorem dX10_polls_55 : decode cX10_polls 55 = .ok (.iload_n 3, 1) := by decide +kernel
theorem dX10_polls_56 : decode cX10_polls 56 = .ok (.goto 9, 3) := by decide +kernel
theorem dX10_polls_59 : decode cX10_polls 59 = .ok (.iload_n 1, 1) := by decide +kernel
theorem dX10_polls_60 : decode cX10_polls 60 = .ok (.iconst 1, 1) := by decide +kernel
theorem dX10_polls_61 : decode cX10_polls 61 = .ok (.iadd, 1) := by decide +kernel
theorem dX10_polls_62 : decode cX10_polls 62 = .ok (.bipush 32, 2) := by decide +kernel
theorem dX10_polls_64 : decode cX10_polls 64 = .ok (.irem, 1) := by decide +kernel
theorem dX10_polls_65 : decode cX10_polls 65 = .ok (.istore_n 3, 1) := by decide +kernel
theorem dX10_polls_66 : decode cX10_polls 66 = .ok (.aload_n 0, 1) := by decide +kernel
theorem dX10_polls_67 : decode cX10_polls 67 = .ok (.getfield 7, 3) := by decide +kernel
theorem dX10_polls_70 : decode cX10_polls 70 = .ok (.iload_n 1, 1) := by decide +kernel
theorem dX10_polls_71 : decode cX10_polls 71 = .ok (.iconst 4, 1) := by decide +kernel
theorem dX10_polls_72 : decode cX10_polls 72 = .ok (.invokestatic 29, 3) := by decide +kernel
theorem dX10_polls_75 : decode cX10_polls 75 = .ok (.iload_n 3, 1) := by decide +kernel
theorem dX10_polls_76 : decode cX10_polls 76 = .ok (.iastore, 1) := by decide +kernel
theorem dX10_polls_77 : decode cX10_polls 77 = .ok (.aload_n 0, 1) := by decide +kernel
theorem dX10_polls_78 : decode cX10_polls 78 = .ok (.iconst 1, 1) := by decide +kernel
theorem dX10_polls_79 : decode cX10_polls 79 = .ok (.invokevirtual 89, 3) := by decide +kernel
theorem dX10_polls_82 : decode cX10_polls 82 = .ok (.istore 4, 2) := by decide +kernel
theorem dX10_polls_84 : decode cX10_polls 84 = .ok (.iload 4, 2) := by decide +kernel
theorem dX10_polls_86 : decode cX10_polls 86 = .ok (.ifCond .ne 44, 3) := by decide +kernel
theorem dX10_polls_89 : decode cX10_polls 89 = .ok (.aload_n 0, 1) := by decide +kernel
theorem dX10_polls_90 : decode cX10_polls 90 = .ok (.iload_n 3, 1) := by decide +kernel
theorem dX10_polls_91 : decode cX10_polls 91 = .ok (.iconst 0, 1) := by decide +kernel
theorem dX10_polls_92 : decode cX10_polls 92 = .ok (.invokevirtual 39, 3) := by decide +kernel
theorem dX10_polls_95 : decode cX10_polls 95 = .ok (.iconst 1, 1) := by decide +kernel
theorem dX10_polls_96 : decode cX10_polls 96 = .ok (.if_icmp .ne 34, 3) := by decide +kernel
theorem dX10_polls_99 : decode cX10_polls 99 = .ok (.aload_n 0, 1) := by decide +kernel
theorem dX10_polls_100 : decode cX10_polls 100 = .ok (.iload_n 3, 1) := by decide +kernel
theorem dX10_polls_101 : decode cX10_polls 101 = .ok (.iconst 1, 1) := by decide +kernel
theorem dX10_polls_102 : decode cX10_polls 102 = .ok (.invokevirtual 39, 3) := by decide +kernel
theorem dX10_polls_105 : decode cX10_polls 105 = .ok (.iconst 1, 1) := by decide +kernel
theorem dX10_polls_106 : decode cX10_polls 106 = .ok (.if_icmp .ne 24, 3) := by decide +kernel
theorem dX10_polls_109 : decode cX10_polls 109 = .ok (.aload_n 0, 1) := by decide +kernel
theorem dX10_polls_110 : decode cX10_polls 110 = .ok (.iload_n 3, 1) := by decide +kernel
theorem dX10_polls_111 : decode cX10_polls 111 = .ok (.iconst 2, 1) := by decide +kernel
theorem dX10_polls_112 : decode cX10_polls 112 = .ok (.invokevirtual 39, 3) := by decide +kernel
theorem dX10_polls_115 : decode cX10_polls 115 = .ok (.ifCond .ne 15, 3) := by decide +kernel
theorem dX10_polls_118 : decode cX10_polls 118 = .ok (.aload_n 0, 1) := by decide +kernel
theorem dX10_polls_119 : decode cX10_polls 119 = .ok (.iconst 1, 1) := by decide +kernel
theorem dX10_polls_120 : decode cX10_polls 120 = .ok (.invokevirtual 89, 3) := by decide +kernel
theorem dX10_polls_123 : decode cX10_polls 123 = .ok (.ifCond .ne 7, 3) := by decide +kernel
theorem dX10_polls_126 : decode cX10_polls 126 = .ok (.iconst 1, 1) := by decide +kernel
theorem dX10_polls_127 : decode cX10_polls 127 = .ok (.goto 4, 3) := by decide +kernel
theorem dX10_polls_130 : decode cX10_polls 130 = .ok (.iconst 0, 1) := by decide +kernel
theorem dX10_polls_131 : decode cX10_polls 131 = .ok (.istore 5, 2) := by decide +kernel
theorem dX10_polls_133 : decode cX10_polls 133 = .ok (.iload 5, 2) := by decide +kernel
theorem dX10_polls_135 : decode cX10_polls 135 = .ok (.ifCond .eq 66, 3) := by decide +kernel
theorem dX10_polls_138 : decode cX10_polls 138 = .ok (.aload_n 0, 1) := by decide +kernel
theorem dX10_polls_139 : decode cX10_polls 139 = .ok (.getfield 7, 3) := by decide +kernel
theorem dX10_polls_142 : decode cX10_polls 142 = .ok (.iload_n 3, 1) := by decide +kernel
theorem dX10_polls_143 : decode cX10_polls 143 = .ok (.iconst 2, 1) := by decide +kernel
theorem dX10_polls_144 : decode cX10_polls 144 = .ok (.invokestatic 29, 3) := by decide +kernel
theorem dX10_polls_147 : decode cX10_polls 147 = .ok (.iconst 1, 1) := by decide +kernel
theorem dX10_polls_148 : decode cX10_polls 148 = .ok (.iastore, 1) := by decide +kernel
theorem dX10_polls_149 : decode cX10_polls 149 = .ok (.aload_n 0, 1) := by decide +kernel
theorem dX10_polls_150 : decode cX10_polls 150 = .ok (.getfield 7, 3) := by decide +kernel
theorem dX10_polls_153 : decode cX10_polls 153 = .ok (.iload_n 3, 1) := by decide +kernel
theorem dX10_polls_154 : decode cX10_polls 154 = .ok (.iconst 3, 1) := by decide +kernel
theorem dX10_polls_155 : decode cX10_polls 155 = .ok (.invokestatic 29, 3) := by decide +kernel
theorem dX10_polls_158 : decode cX10_polls 158 = .ok (.aload_n 0, 1) := by decide +kernel
theorem dX10_polls_159 : decode cX10_polls 159 = .ok (.iload_n 1, 1) := by decide +kernel
theorem dX10_polls_160 : decode cX10_polls 160 = .ok (.iconst 3, 1) := by decide +kernel
theorem dX10_polls_161 : decode cX10_polls 161 = .ok (.invokevirtual 39, 3) := by decide +kernel
theorem dX10_polls_164 : decode cX10_polls 164 = .ok (.iastore, 1) := by decide +kernel
theorem dX10_polls_165 : decode cX10_polls 165 = .ok (.aload_n 0, 1) := by decide +kernel
theorem dX10_polls_166 : decode cX10_polls 166 = .ok (.getfield 7, 3) := by decide +kernel
theorem dX10_polls_169 : decode cX10_polls 169 = .ok (.iload_n 3, 1) := by decide +kernel
theorem dX10_polls_170 : decode cX10_polls 170 = .ok (.iconst 4, 1) := by decide +kernel
theorem dX10_polls_171 : decode cX10_polls 171 = .ok (.invokestatic 29, 3) := by decide +kernel
theorem dX10_polls_174 : decode cX10_polls 174 = .ok (.iload_n 3, 1) := by decide +kernel
theorem dX10_polls_175 : decode cX10_polls 175 = .ok (.iastore, 1) := by decide +kernel
theorem dX10_polls_176 : decode cX10_polls 176 = .ok (.aload_n 0, 1) := by decide +kernel
theorem dX10_polls_177 : decode cX10_polls 177 = .ok (.getfield 7, 3) := by decide +kernel
theorem dX10_polls_180 : decode cX10_polls 180 = .ok (.iload_n 1, 1) := by decide +kernel
theorem dX10_polls_181 : decode cX10_polls 181 = .ok (.iconst 3, 1) := by decide +kernel
theorem dX10_polls_182 : decode cX10_polls 182 = .ok (.invokestatic 29, 3) := by decide +kernel
theorem dX10_polls_185 : decode cX10_polls 185 = .ok (.iload_n 3, 1) := by decide +kernel
theorem dX10_polls_186 : decode cX10_polls 186 = .ok (.iastore, 1) := by decide +kernel
theorem dX10_polls_187 : decode cX10_polls 187 = .ok (.aload_n 0, 1) := by decide +kernel
theorem dX10_polls_188 : decode cX10_polls 188 = .ok (.getfield 7, 3) := by decide +kernel
theorem dX10_polls_191 : decode cX10_polls 191 = .ok (.bipush 13, 2) := by decide +kernel
theorem dX10_polls_193 : decode cX10_polls 193 = .ok (.dup2, 1) := by decide +kernel
theorem dX10_polls_194 : decode cX10_polls 194 = .ok (.iaload, 1) := by decide +kernel
theorem dX10_polls_195 : decode cX10_polls 195 = .ok (.iconst 1, 1) := by decide +kernel
theorem dX10_polls_196 : decode cX10_polls 196 = .ok (.iadd, 1) := by decide +kernel
theorem dX10_polls_197 : decode cX10_polls 197 = .ok (.iastore, 1) := by decide +kernel
theorem dX10_polls_198 : decode cX10_polls 198 = .ok (.goto 18, 3) := by decide +kernel
theorem dX10_polls_201 : decode cX10_polls 201 = .ok (.aload_n 0, 1) := by decide +kernel
theorem dX10_polls_202 : decode cX10_polls 202 = .ok (.getfield 7, 3) := by decide +kernel
theorem dX10_polls_205 : decode cX10_polls 205 = .ok (.iconst 3, 1) := by decide +kernel
theorem dX10_polls_206 : decode cX10_polls 206 = .ok (.dup2, 1) := by decide +kernel
theorem dX10_polls_207 : decode cX10_polls 207 = .ok (.iaload, 1) := by decide +kernel
theorem dX10_polls_208 : decode cX10_polls 208 = .ok (.aload_n 0, 1) := by decide +kernel
theorem dX10_polls_209 : decode cX10_polls 209 = .ok (.getfield 7, 3) := by decide +kernel
theorem dX10_polls_212 : decode cX10_polls 212 = .ok (.iconst 1, 1) := by decide +kernel
theorem dX10_polls_213 : decode cX10_polls 213 = .ok (.iaload, 1) := by decide +kernel
theorem dX10_polls_214 : decode cX10_polls 214 = .ok (.iadd, 1) := by decide +kernel
theorem dX10_polls_215 : decode cX10_polls 215 = .ok (.iastore, 1) := by decide +kernel
theorem dX10_polls_216 : decode cX10_polls 216 = .ok (.return_, 1) := by decide +kernel
theorem dX10_passes_0 : decode cX10_passes 0 = .ok (.iconst 0, 1) := by decide +kernel
theorem dX10_passes_1 : decode cX10_passes 1 = .ok (.istore_n 2, 1) := by decide +kernel
theorem dX10_passes_2 : decode cX10_passes 2 = .ok (.iload_n 2, 1) := by decide +kernel
theorem dX10_passes_3 : decode cX10_passes 3 = .ok (.iconst 3, 1) := by decide +kernel
theorem dX10_passes_4 : decode cX10_passes 4 = .ok (.if_icmp .ge 55, 3) := by decide +kernel
theorem dX10_passes_7 : decode cX10_passes 7 = .ok (.aload_n 0, 1) := by decide +kernel
theorem dX10_passes_8 : decode cX10_passes 8 = .ok (.iload_n 1, 1) := by decide +kernel
theorem dX10_passes_9 : decode cX10_passes 9 = .ok (.iconst 3, 1) := by decide +kernel
theorem dX10_passes_10 : decode cX10_passes 10 = .ok (.invokevirtual 39, 3) := by decide +kernel
theorem dX10_passes_13 : decode cX10_passes 13 = .ok (.istore_n 3, 1) := by decide +kernel
theorem dX10_passes_14 : decode cX10_passes 14 = .ok (.aload_n 0, 1) := by decide +kernel
theorem dX10_passes_15 : decode cX10_passes 15 = .ok (.iconst 1, 1) := by decide +kernel
theorem dX10_passes_16 : decode cX10_passes 16 = .ok (.invokevirtual 89, 3) := by decide +kernel
theorem dX10_passes_19 : decode cX10_passes 19 = .ok (.ifCond .ne 19, 3) := by decide +kernel
theorem dX10_passes_22 : decode cX10_passes 22 = .ok (.aload_n 0, 1) := by decide +kernel
theorem dX10_passes_23 : decode cX10_passes 23 = .ok (.iload_n 3, 1) := by decide +kernel
theorem dX10_passes_24 : decode cX10_passes 24 = .ok (.invokevirtual 83, 3) := by decide +kernel
theorem dX10_passes_27 : decode cX10_passes 27 = .ok (.ifCond .eq 11, 3) := by decide +kernel
theorem dX10_passes_30 : decode cX10_passes 30 = .ok (.aload_n 0, 1) := by decide +kernel
theorem dX10_passes_31 : decode cX10_passes 31 = .ok (.getfield 7, 3) := by decide +kernel
theorem dX10_passes_34 : decode cX10_passes 34 = .ok (.iconst 4, 1) := by decide +kernel
theorem dX10_passes_35 : decode cX10_passes 35 = .ok (.iload_n 3, 1) := by decide +kernel
theorem dX10_passes_36 : decode cX10_passes 36 = .ok (.iastore, 1) := by decide +kernel
theorem dX10_passes_37 : decode cX10_passes 37 = .ok (.return_, 1) := by decide +kernel
theorem dX10_passes_38 : decode cX10_passes 38 = .ok (.aload_n 0, 1) := by decide +kernel
theorem dX10_passes_39 : decode cX10_passes 39 = .ok (.getfield 7, 3) := by decide +kernel
theorem dX10_passes_42 : decode cX10_passes 42 = .ok (.iconst 3, 1) := by decide +kernel
theorem dX10_passes_43 : decode cX10_passes 43 = .ok (.dup2, 1) := by decide +kernel
theorem dX10_passes_44 : decode cX10_passes 44 = .ok (.iaload, 1) := by decide +kernel
theorem dX10_passes_45 : decode cX10_passes 45 = .ok (.aload_n 0, 1) := by decide +kernel
theorem dX10_passes_46 : decode cX10_passes 46 = .ok (.getfield 7, 3) := by decide +kernel
theorem dX10_passes_49 : decode cX10_passes 49 = .ok (.iconst 1, 1) := by decide +kernel
theorem dX10_passes_50 : decode cX10_passes 50 = .ok (.iaload, 1) := by decide +kernel
theorem dX10_passes_51 : decode cX10_passes 51 = .ok (.iadd, 1) := by decide +kernel
theorem dX10_passes_52 : decode cX10_passes 52 = .ok (.iastore, 1) := by decide +kernel
theorem dX10_passes_53 : decode cX10_passes 53 = .ok (.iinc 2 1, 3) := by decide +kernel
theorem dX10_passes_56 : decode cX10_passes 56 = .ok (.goto (-54), 3) := by decide +kernel
theorem dX10_passes_59 : decode cX10_passes 59 = .ok (.aload_n 0, 1) := by decide +kernel
theorem dX10_passes_60 : decode cX10_passes 60 = .ok (.iload_n 1, 1) := by decide +kernel
theorem dX10_passes_61 : decode cX10_passes 61 = .ok (.iconst 3, 1) := by decide +kernel
theorem dX10_passes_62 : decode cX10_passes 62 = .ok (.invokevirtual 39, 3) := by decide +kernel
theorem dX10_passes_65 : decode cX10_passes 65 = .ok (.istore_n 2, 1) := by decide +kernel
theorem dX10_passes_66 : decode cX10_passes 66 = .ok (.iload_n 2, 1) := by decide +kernel
theorem dX10_passes_67 : decode cX10_passes 67 = .ok (.iload_n 1, 1) := by decide +kernel
theorem dX10_passes_68 : decode cX10_passes 68 = .ok (.if_icmp .eq 33, 3) := by decide +kernel
theorem dX10_passes_71 : decode cX10_passes 71 = .ok (.aload_n 0, 1) := by decide +kernel
theorem dX10_passes_72 : decode cX10_passes 72 = .ok (.iload_n 2, 1) := by decide +kernel
theorem dX10_passes_73 : decode cX10_passes 73 = .ok (.invokevirtual 83, 3) := by decide +kernel
theorem dX10_passes_76 : decode cX10_passes 76 = .ok (.ifCond .eq 25, 3) := by decide +kernel
theorem dX10_passes_79 : decode cX10_passes 79 = .ok (.aload_n 0, 1) := by decide +kernel
theorem dX10_passes_80 : decode cX10_passes 80 = .ok (.getfield 7, 3) := by decide +kernel
theorem dX10_passes_83 : decode cX10_passes 83 = .ok (.iload_n 2, 1) := by decide +kernel
theorem dX10_passes_84 : decode cX10_passes 84 = .ok (.iconst 2, 1) := by decide +kernel
theorem dX10_passes_85 : decode cX10_passes 85 = .ok (.invokestatic 29, 3) := by decide +kernel
theorem dX10_passes_88 : decode cX10_passes 88 = .ok (.iconst 0, 1) := by decide +kernel
theorem dX10_passes_89 : decode cX10_passes 89 = .ok (.iastore, 1) := by decide +kernel
theorem dX10_passes_90 : decode cX10_passes 90 = .ok (.aload_n 0, 1) := by decide +kernel
theorem dX10_passes_91 : decode cX10_passes 91 = .ok (.getfield 7, 3) := by decide +kernel
theorem dX10_passes_94 : decode cX10_passes 94 = .ok (.bipush 14, 2) := by decide +kernel
theorem dX10_passes_96 : decode cX10_passes 96 = .ok (.dup2, 1) := by decide +kernel
theorem dX10_passes_97 : decode cX10_passes 97 = .ok (.iaload, 1) := by decide +kernel
theorem dX10_passes_98 : decode cX10_passes 98 = .ok (.iconst 1, 1) := by decide +kernel
theorem dX10_passes_99 : decode cX10_passes 99 = .ok (.iadd, 1) := by decide +kernel
theorem dX10_passes_100 : decode cX10_passes 100 = .ok (.iastore, 1) := by decide +kernel
theorem dX10_passes_101 : decode cX10_passes 101 = .ok (.iload_n 2, 1) := by decide +kernel
theorem dX10_passes_102 : decode cX10_passes 102 = .ok (.iconst 1, 1) := by decide +kernel
theorem dX10_passes_103 : decode cX10_passes 103 = .ok (.iadd, 1) := by decide +kernel
theorem dX10_passes_104 : decode cX10_passes 104 = .ok (.bipush 32, 2) := by decide +kernel
theorem dX10_passes_106 : decode cX10_passes 106 = .ok (.irem, 1) := by decide +kernel
theorem dX10_passes_107 : decode cX10_passes 107 = .ok (.istore_n 3, 1) := by decide +kernel
theorem dX10_passes_108 : decode cX10_passes 108 = .ok (.iconst 0, 1) := by decide +kernel
theorem dX10_passes_109 : decode cX10_passes 109 = .ok (.istore 4, 2) := by decide +kernel
theorem dX10_passes_111 : decode cX10_passes 111 = .ok (.iload_n 3, 1) := by decide +kernel
theorem dX10_passes_112 : decode cX10_passes 112 = .ok (.iload_n 1, 1) := by decide +kernel
theorem dX10_passes_113 : decode cX10_passes 113 = .ok (.if_icmp .eq 61, 3) := by decide +kernel
theorem dX10_passes_116 : decode cX10_passes 116 = .ok (.iload 4, 2) := by decide +kernel
theorem dX10_passes_118 : decode cX10_passes 118 = .ok (.ifCond .ne 56, 3) := by decide +kernel
theorem dX10_passes_121 : decode cX10_passes 121 = .ok (.aload_n 0, 1) := by decide +kernel
theorem dX10_passes_122 : decode cX10_passes 122 = .ok (.iconst 1, 1) := by decide +kernel
theorem dX10_passes_123 : decode cX10_passes 123 = .ok (.invokevirtual 89, 3) := by decide +kernel
theorem dX10_passes_126 : decode cX10_passes 126 = .ok (.ifCond .ne 15, 3) := by decide +kernel
theorem dX10_passes_129 : decode cX10_passes 129 = .ok (.aload_n 0, 1) := by decide +kernel
theorem dX10_passes_130 : decode cX10_passes 130 = .ok (.iload_n 3, 1) := by decide +kernel
theorem dX10_passes_131 : decode cX10_passes 131 = .ok (.invokevirtual 83, 3) := by decide +kernel
theorem dX10_passes_134 : decode cX10_passes 134 = .ok (.ifCond .eq 7, 3) := by decide +kernel
theorem dX10_passes_137 : decode cX10_passes 137 = .ok (.iconst 1, 1) := by decide +kernel
theorem dX10_passes_138 : decode cX10_passes 138 = .ok (.goto 4, 3) := by decide +kernel
theorem dX10_passes_141 : decode cX10_passes 141 = .ok (.iconst 0, 1) := by decide +kernel
theorem dX10_passes_142 : decode cX10_passes 142 = .ok (.istore 4, 2) := by decide +kernel
theorem dX10_passes_144 : decode cX10_passes 144 = .ok (.iload 4, 2) := by decide +kernel
theorem dX10_passes_146 : decode cX10_passes 146 = .ok (.ifCond .ne (-35), 3) := by decide +kernel
theorem dX10_passes_149 : decode cX10_passes 149 = .ok (.aload_n 0, 1) := by decide +kernel
theorem dX10_passes_150 : decode cX10_passes 150 = .ok (.getfield 7, 3) := by decide +kernel
theorem dX10_passes_153 : decode cX10_passes 153 = .ok (.iconst 3, 1) := by decide +kernel
theorem dX10_passes_154 : decode cX10_passes 154 = .ok (.dup2, 1) := by decide +kernel
theorem dX10_passes_155 : decode cX10_passes 155 = .ok (.iaload, 1) := by decide +kernel
theorem dX10_passes_156 : decode cX10_passes 156 = .ok (.aload_n 0, 1) := by decide +kernel
theorem dX10_passes_157 : decode cX10_passes 157 = .ok (.getfield 7, 3) := by decide +kernel
theorem dX10_passes_160 : decode cX10_passes 160 = .ok (.iconst 1, 1) := by decide +kernel
theorem dX10_passes_161 : decode cX10_passes 161 = .ok (.iaload, 1) := by decide +kernel
theorem dX10_passes_162 : decode cX10_passes 162 = .ok (.iadd, 1) := by decide +kernel
theorem dX10_passes_163 : decode cX10_passes 163 = .ok (.iastore, 1) := by decide +kernel
theorem dX10_passes_164 : decode cX10_passes 164 = .ok (.iload_n 3, 1) := by decide +kernel
theorem dX10_passes_165 : decode cX10_passes 165 = .ok (.iconst 1, 1) := by decide +kernel
theorem dX10_passes_166 : decode cX10_passes 166 = .ok (.iadd, 1) := by decide +kernel
theorem dX10_passes_167 : decode cX10_passes 167 = .ok (.bipush 32, 2) := by decide +kernel
theorem dX10_passes_169 : decode cX10_passes 169 = .ok (.irem, 1) := by decide +kernel
theorem dX10_passes_170 : decode cX10_passes 170 = .ok (.istore_n 3, 1) := by decide +kernel
theorem dX10_passes_171 : decode cX10_passes 171 = .ok (.goto (-60), 3) := by decide +kernel
theorem dX10_passes_174 : decode cX10_passes 174 = .ok (.aload_n 0, 1) := by decide +kernel
theorem dX10_passes_175 : decode cX10_passes 175 = .ok (.getfield 7, 3) := by decide +kernel
theorem dX10_passes_178 : decode cX10_passes 178 = .ok (.iload_n 1, 1) := by decide +kernel
theorem dX10_passes_179 : decode cX10_passes 179 = .ok (.iconst 3, 1) := by decide +kernel
theorem dX10_passes_180 : decode cX10_passes 180 = .ok (.invokestatic 29, 3) := by decide +kernel
theorem dX10_passes_183 : decode cX10_passes 183 = .ok (.iload_n 3, 1) := by decide +kernel
theorem dX10_passes_184 : decode cX10_passes 184 = .ok (.iastore, 1) := by decide +kernel
theorem dX10_passes_185 : decode cX10_passes 185 = .ok (.aload_n 0, 1) := by decide +kernel
theorem dX10_passes_186 : decode cX10_passes 186 = .ok (.getfield 7, 3) := by decide +kernel
theorem dX10_passes_189 : decode cX10_passes 189 = .ok (.iconst 4, 1) := by decide +kernel
theorem dX10_passes_190 : decode cX10_passes 190 = .ok (.iload_n 3, 1) := by decide +kernel
theorem dX10_passes_191 : decode cX10_passes 191 = .ok (.iastore, 1) := by decide +kernel
theorem dX10_passes_192 : decode cX10_passes 192 = .ok (.return_, 1) := by decide +kernel
theorem dX10_visits_0 : decode cX10_visits 0 = .ok (.aload_n 0, 1) := by decide +kernel
theorem dX10_visits_1 : decode cX10_visits 1 = .ok (.getfield 7, 3) := by decide +kernel
theorem dX10_visits_4 : decode cX10_visits 4 = .ok (.iconst 4, 1) := by decide +kernel
theorem dX10_visits_5 : decode cX10_visits 5 = .ok (.iaload, 1) := by decide +kernel
theorem dX10_visits_6 : decode cX10_visits 6 = .ok (.iconst (-1), 1) := by decide +kernel
theorem dX10_visits_7 : decode cX10_visits 7 = .ok (.if_icmp .ne 11, 3) := by decide +kernel
theorem dX10_visits_10 : decode cX10_visits 10 = .ok (.aload_n 0, 1) := by decide +kernel
theorem dX10_visits_11 : decode cX10_visits 11 = .ok (.invokevirtual 98, 3) := by decide +kernel
theorem dX10_visits_14 : decode cX10_visits 14 = .ok (.ifCond .ne 4, 3) := by decide +kernel
theorem dX10_visits_17 : decode cX10_visits 17 = .ok (.return_, 1) := by decide +kernel
theorem dX10_visits_18 : decode cX10_visits 18 = .ok (.aload_n 0, 1) := by decide +kernel
theorem dX10_visits_19 : decode cX10_visits 19 = .ok (.getfield 7, 3) := by decide +kernel
theorem dX10_visits_22 : decode cX10_visits 22 = .ok (.iconst 4, 1) := by decide +kernel
theorem dX10_visits_23 : decode cX10_visits 23 = .ok (.iaload, 1) := by decide +kernel
theorem dX10_visits_24 : decode cX10_visits 24 = .ok (.istore_n 1, 1) := by decide +kernel
theorem dX10_visits_25 : decode cX10_visits 25 = .ok (.aload_n 0, 1) := by decide +kernel
theorem dX10_visits_26 : decode cX10_visits 26 = .ok (.getfield 7, 3) := by decide +kernel
theorem dX10_visits_29 : decode cX10_visits 29 = .ok (.iconst 3, 1) := by decide +kernel
theorem dX10_visits_30 : decode cX10_visits 30 = .ok (.iaload, 1) := by decide +kernel
theorem dX10_visits_31 : decode cX10_visits 31 = .ok (.istore_n 2, 1) := by decide +kernel
theorem dX10_visits_32 : decode cX10_visits 32 = .ok (.aload_n 0, 1) := by decide +kernel
theorem dX10_visits_33 : decode cX10_visits 33 = .ok (.iload_n 1, 1) := by decide +kernel
theorem dX10_visits_34 : decode cX10_visits 34 = .ok (.bipush 6, 2) := by decide +kernel
theorem dX10_visits_36 : decode cX10_visits 36 = .ok (.invokevirtual 39, 3) := by decide +kernel
theorem dX10_visits_39 : decode cX10_visits 39 = .ok (.iconst (-1), 1) := by decide +kernel
theorem dX10_visits_40 : decode cX10_visits 40 = .ok (.if_icmp .ne 7, 3) := by decide +kernel
theorem dX10_visits_43 : decode cX10_visits 43 = .ok (.iconst 0, 1) := by decide +kernel
theorem dX10_visits_44 : decode cX10_visits 44 = .ok (.goto 12, 3) := by decide +kernel
theorem dX10_visits_47 : decode cX10_visits 47 = .ok (.iload_n 2, 1) := by decide +kernel
theorem dX10_visits_48 : decode cX10_visits 48 = .ok (.aload_n 0, 1) := by decide +kernel
theorem dX10_visits_49 : decode cX10_visits 49 = .ok (.iload_n 1, 1) := by decide +kernel
theorem dX10_visits_50 : decode cX10_visits 50 = .ok (.bipush 6, 2) := by decide +kernel
theorem dX10_visits_52 : decode cX10_visits 52 = .ok (.invokevirtual 39, 3) := by decide +kernel
theorem dX10_visits_55 : decode cX10_visits 55 = .ok (.isub, 1) := by decide +kernel
theorem dX10_visits_56 : decode cX10_visits 56 = .ok (.istore_n 3, 1) := by decide +kernel
theorem dX10_visits_57 : decode cX10_visits 57 = .ok (.aload_n 0, 1) := by decide +kernel
theorem dX10_visits_58 : decode cX10_visits 58 = .ok (.getfield 7, 3) := by decide +kernel
theorem dX10_visits_61 : decode cX10_visits 61 = .ok (.iload_n 1, 1) := by decide +kernel
theorem dX10_visits_62 : decode cX10_visits 62 = .ok (.bipush 6, 2) := by decide +kernel
theorem dX10_visits_64 : decode cX10_visits 64 = .ok (.invokestatic 29, 3) := by decide +kernel
theorem dX10_visits_67 : decode cX10_visits 67 = .ok (.iload_n 2, 1) := by decide +kernel
theorem dX10_visits_68 : decode cX10_visits 68 = .ok (.iastore, 1) := by decide +kernel
theorem dX10_visits_69 : decode cX10_visits 69 = .ok (.aload_n 0, 1) := by decide +kernel
theorem dX10_visits_70 : decode cX10_visits 70 = .ok (.getfield 7, 3) := by decide +kernel
theorem dX10_visits_73 : decode cX10_visits 73 = .ok (.iload_n 1, 1) := by decide +kernel
theorem dX10_visits_74 : decode cX10_visits 74 = .ok (.iconst 5, 1) := by decide +kernel
theorem dX10_visits_75 : decode cX10_visits 75 = .ok (.invokestatic 29, 3) := by decide +kernel
theorem dX10_visits_78 : decode cX10_visits 78 = .ok (.dup2, 1) := by decide +kernel
theorem dX10_visits_79 : decode cX10_visits 79 = .ok (.iaload, 1) := by decide +kernel
theorem dX10_visits_80 : decode cX10_visits 80 = .ok (.iconst 1, 1) := by decide +kernel
theorem dX10_visits_81 : decode cX10_visits 81 = .ok (.iadd, 1) := by decide +kernel
theorem dX10_visits_82 : decode cX10_visits 82 = .ok (.iastore, 1) := by decide +kernel
theorem dX10_visits_83 : decode cX10_visits 83 = .ok (.aload_n 0, 1) := by decide +kernel
theorem dX10_visits_84 : decode cX10_visits 84 = .ok (.getfield 7, 3) := by decide +kernel
theorem dX10_visits_87 : decode cX10_visits 87 = .ok (.bipush 9, 2) := by decide +kernel
theorem dX10_visits_89 : decode cX10_visits 89 = .ok (.dup2, 1) := by decide +kernel
theorem dX10_visits_90 : decode cX10_visits 90 = .ok (.iaload, 1) := by decide +kernel
theorem dX10_visits_91 : decode cX10_visits 91 = .ok (.iconst 1, 1) := by decide +kernel
theorem dX10_visits_92 : decode cX10_visits 92 = .ok (.iadd, 1) := by decide +kernel
theorem dX10_visits_93 : decode cX10_visits 93 = .ok (.iastore, 1) := by decide +kernel
theorem dX10_visits_94 : decode cX10_visits 94 = .ok (.aload_n 0, 1) := by decide +kernel
theorem dX10_visits_95 : decode cX10_visits 95 = .ok (.getfield 7, 3) := by decide +kernel
theorem dX10_visits_98 : decode cX10_visits 98 = .ok (.bipush 8, 2) := by decide +kernel
theorem dX10_visits_100 : decode cX10_visits 100 = .ok (.iload_n 3, 1) := by decide +kernel
theorem dX10_visits_101 : decode cX10_visits 101 = .ok (.aload_n 0, 1) := by decide +kernel
theorem dX10_visits_102 : decode cX10_visits 102 = .ok (.getfield 7, 3) := by decide +kernel
theorem dX10_visits_105 : decode cX10_visits 105 = .ok (.bipush 8, 2) := by decide +kernel
theorem dX10_visits_107 : decode cX10_visits 107 = .ok (.iaload, 1) := by decide +kernel
theorem dX10_visits_108 : decode cX10_visits 108 = .ok (.if_icmp .le 7, 3) := by decide +kernel
theorem dX10_visits_111 : decode cX10_visits 111 = .ok (.iload_n 3, 1) := by decide +kernel
theorem dX10_visits_112 : decode cX10_visits 112 = .ok (.goto 10, 3) := by decide +kernel
theorem dX10_visits_115 : decode cX10_visits 115 = .ok (.aload_n 0, 1) := by decide +kernel
theorem dX10_visits_116 : decode cX10_visits 116 = .ok (.getfield 7, 3) := by decide +kernel
theorem dX10_visits_119 : decode cX10_visits 119 = .ok (.bipush 8, 2) := by decide +kernel
theorem dX10_visits_121 : decode cX10_visits 121 = .ok (.iaload, 1) := by decide +kernel
theorem dX10_visits_122 : decode cX10_visits 122 = .ok (.iastore, 1) := by decide +kernel
theorem dX10_visits_123 : decode cX10_visits 123 = .ok (.aload_n 0, 1) := by decide +kernel
theorem dX10_visits_124 : decode cX10_visits 124 = .ok (.getfield 7, 3) := by decide +kernel
theorem dX10_visits_127 : decode cX10_visits 127 = .ok (.bipush 10, 2) := by decide +kernel
theorem dX10_visits_129 : decode cX10_visits 129 = .ok (.iaload, 1) := by decide +kernel
theorem dX10_visits_130 : decode cX10_visits 130 = .ok (.istore 4, 2) := by decide +kernel
theorem dX10_visits_132 : decode cX10_visits 132 = .ok (.aload_n 0, 1) := by decide +kernel
theorem dX10_visits_133 : decode cX10_visits 133 = .ok (.iload_n 1, 1) := by decide +kernel
theorem dX10_visits_134 : decode cX10_visits 134 = .ok (.iload_n 2, 1) := by decide +kernel
theorem dX10_visits_135 : decode cX10_visits 135 = .ok (.aload_n 0, 1) := by decide +kernel
theorem dX10_visits_136 : decode cX10_visits 136 = .ok (.getfield 7, 3) := by decide +kernel
theorem dX10_visits_139 : decode cX10_visits 139 = .ok (.iconst 0, 1) := by decide +kernel
theorem dX10_visits_140 : decode cX10_visits 140 = .ok (.iaload, 1) := by decide +kernel
theorem dX10_visits_141 : decode cX10_visits 141 = .ok (.iload_n 3, 1) := by decide +kernel
theorem dX10_visits_142 : decode cX10_visits 142 = .ok (.isub, 1) := by decide +kernel
theorem dX10_visits_143 : decode cX10_visits 143 = .ok (.invokevirtual 102, 3) := by decide +kernel
theorem dX10_visits_146 : decode cX10_visits 146 = .ok (.aload_n 0, 1) := by decide +kernel
theorem dX10_visits_147 : decode cX10_visits 147 = .ok (.iload_n 2, 1) := by decide +kernel
theorem dX10_visits_148 : decode cX10_visits 148 = .ok (.iload_n 1, 1) := by decide +kernel
theorem dX10_visits_149 : decode cX10_visits 149 = .ok (.iload_n 3, 1) := by decide +kernel
theorem dX10_visits_150 : decode cX10_visits 150 = .ok (.aload_n 0, 1) := by decide +kernel
theorem dX10_visits_151 : decode cX10_visits 151 = .ok (.getfield 7, 3) := by decide +kernel
theorem dX10_visits_154 : decode cX10_visits 154 = .ok (.bipush 10, 2) := by decide +kernel
theorem dX10_visits_156 : decode cX10_visits 156 = .ok (.iaload, 1) := by decide +kernel
theorem dX10_visits_157 : decode cX10_visits 157 = .ok (.iload 4, 2) := by decide +kernel
theorem dX10_visits_159 : decode cX10_visits 159 = .ok (.isub, 1) := by decide +kernel
theorem dX10_visits_160 : decode cX10_visits 160 = .ok (.invokevirtual 106, 3) := by decide +kernel
theorem dX10_visits_163 : decode cX10_visits 163 = .ok (.aload_n 0, 1) := by decide +kernel
theorem dX10_visits_164 : decode cX10_visits 164 = .ok (.iload_n 1, 1) := by decide +kernel
theorem dX10_visits_165 : decode cX10_visits 165 = .ok (.invokevirtual 110, 3) := by decide +kernel
theorem dX10_visits_168 : decode cX10_visits 168 = .ok (.aload_n 0, 1) := by decide +kernel
theorem dX10_visits_169 : decode cX10_visits 169 = .ok (.iload_n 1, 1) := by decide +kernel
theorem dX10_visits_170 : decode cX10_visits 170 = .ok (.invokevirtual 113, 3) := by decide +kernel
theorem dX10_visits_173 : decode cX10_visits 173 = .ok (.return_, 1) := by decide +kernel
theorem dX10_logs_0 : decode cX10_logs 0 = .ok (.aload_n 0, 1) := by decide +kernel
theorem dX10_logs_1 : decode cX10_logs 1 = .ok (.getfield 7, 3) := by decide +kernel
theorem dX10_logs_4 : decode cX10_logs 4 = .ok (.bipush 7, 2) := by decide +kernel
theorem dX10_logs_6 : decode cX10_logs 6 = .ok (.iaload, 1) := by decide +kernel
theorem dX10_logs_7 : decode cX10_logs 7 = .ok (.bipush 40, 2) := by decide +kernel
theorem dX10_logs_9 : decode cX10_logs 9 = .ok (.if_icmp .ne 49, 3) := by decide +kernel
theorem dX10_logs_12 : decode cX10_logs 12 = .ok (.sipush 782, 3) := by decide +kernel
theorem dX10_logs_15 : decode cX10_logs 15 = .ok (.istore 5, 2) := by decide +kernel
theorem dX10_logs_17 : decode cX10_logs 17 = .ok (.iload 5, 2) := by decide +kernel
theorem dX10_logs_19 : decode cX10_logs 19 = .ok (.sipush 938, 3) := by decide +kernel
theorem dX10_logs_22 : decode cX10_logs 22 = .ok (.if_icmp .ge 25, 3) := by decide +kernel
theorem dX10_logs_25 : decode cX10_logs 25 = .ok (.aload_n 0, 1) := by decide +kernel
theorem dX10_logs_26 : decode cX10_logs 26 = .ok (.getfield 7, 3) := by decide +kernel
theorem dX10_logs_29 : decode cX10_logs 29 = .ok (.iload 5, 2) := by decide +kernel
theorem dX10_logs_31 : decode cX10_logs 31 = .ok (.aload_n 0, 1) := by decide +kernel
theorem dX10_logs_32 : decode cX10_logs 32 = .ok (.getfield 7, 3) := by decide +kernel
theorem dX10_logs_35 : decode cX10_logs 35 = .ok (.iload 5, 2) := by decide +kernel
theorem dX10_logs_37 : decode cX10_logs 37 = .ok (.iconst 4, 1) := by decide +kernel
theorem dX10_logs_38 : decode cX10_logs 38 = .ok (.iadd, 1) := by decide +kernel
theorem dX10_logs_39 : decode cX10_logs 39 = .ok (.iaload, 1) := by decide +kernel
theorem dX10_logs_40 : decode cX10_logs 40 = .ok (.iastore, 1) := by decide +kernel
theorem dX10_logs_41 : decode cX10_logs 41 = .ok (.iinc 5 1, 3) := by decide +kernel
theorem dX10_logs_44 : decode cX10_logs 44 = .ok (.goto (-27), 3) := by decide +kernel
theorem dX10_logs_47 : decode cX10_logs 47 = .ok (.aload_n 0, 1) := by decide +kernel
theorem dX10_logs_48 : decode cX10_logs 48 = .ok (.getfield 7, 3) := by decide +kernel
theorem dX10_logs_51 : decode cX10_logs 51 = .ok (.bipush 7, 2) := by decide +kernel
theorem dX10_logs_53 : decode cX10_logs 53 = .ok (.dup2, 1) := by decide +kernel
theorem dX10_logs_54 : decode cX10_logs 54 = .ok (.iaload, 1) := by decide +kernel
theorem dX10_logs_55 : decode cX10_logs 55 = .ok (.iconst 1, 1) := by decide +kernel
theorem dX10_logs_56 : decode cX10_logs 56 = .ok (.isub, 1) := by decide +kernel
theorem dX10_logs_57 : decode cX10_logs 57 = .ok (.iastore, 1) := by decide +kernel
theorem dX10_logs_58 : decode cX10_logs 58 = .ok (.sipush 782, 3) := by decide +kernel
theorem dX10_logs_61 : decode cX10_logs 61 = .ok (.iconst 4, 1) := by decide +kernel
theorem dX10_logs_62 : decode cX10_logs 62 = .ok (.aload_n 0, 1) := by decide +kernel
theorem dX10_logs_63 : decode cX10_logs 63 = .ok (.getfield 7, 3) := by decide +kernel
theorem dX10_logs_66 : decode cX10_logs 66 = .ok (.bipush 7, 2) := by decide +kernel
theorem dX10_logs_68 : decode cX10_logs 68 = .ok (.iaload, 1) := by decide +kernel
theorem dX10_logs_69 : decode cX10_logs 69 = .ok (.imul, 1) := by decide +kernel
theorem dX10_logs_70 : decode cX10_logs 70 = .ok (.iadd, 1) := by decide +kernel
theorem dX10_logs_71 : decode cX10_logs 71 = .ok (.istore 5, 2) := by decide +kernel
theorem dX10_logs_73 : decode cX10_logs 73 = .ok (.aload_n 0, 1) := by decide +kernel
theorem dX10_logs_74 : decode cX10_logs 74 = .ok (.getfield 7, 3) := by decide +kernel
theorem dX10_logs_77 : decode cX10_logs 77 = .ok (.iload 5, 2) := by decide +kernel
theorem dX10_logs_79 : decode cX10_logs 79 = .ok (.iload_n 1, 1) := by decide +kernel
theorem dX10_logs_80 : decode cX10_logs 80 = .ok (.iastore, 1) := by decide +kernel
theorem dX10_logs_81 : decode cX10_logs 81 = .ok (.aload_n 0, 1) := by decide +kernel
theorem dX10_logs_82 : decode cX10_logs 82 = .ok (.getfield 7, 3) := by decide +kernel
theorem dX10_logs_85 : decode cX10_logs 85 = .ok (.iload 5, 2) := by decide +kernel
theorem dX10_logs_87 : decode cX10_logs 87 = .ok (.iconst 1, 1) := by decide +kernel
theorem dX10_logs_88 : decode cX10_logs 88 = .ok (.iadd, 1) := by decide +kernel
theorem dX10_logs_89 : decode cX10_logs 89 = .ok (.iload_n 2, 1) := by decide +kernel
theorem dX10_logs_90 : decode cX10_logs 90 = .ok (.iastore, 1) := by decide +kernel
theorem dX10_logs_91 : decode cX10_logs 91 = .ok (.aload_n 0, 1) := by decide +kernel
theorem dX10_logs_92 : decode cX10_logs 92 = .ok (.getfield 7, 3) := by decide +kernel
theorem dX10_logs_95 : decode cX10_logs 95 = .ok (.iload 5, 2) := by decide +kernel
theorem dX10_logs_97 : decode cX10_logs 97 = .ok (.iconst 2, 1) := by decide +kernel
theorem dX10_logs_98 : decode cX10_logs 98 = .ok (.iadd, 1) := by decide +kernel
theorem dX10_logs_99 : decode cX10_logs 99 = .ok (.iload_n 3, 1) := by decide +kernel
theorem dX10_logs_100 : decode cX10_logs 100 = .ok (.iastore, 1) := by decide +kernel
theorem dX10_logs_101 : decode cX10_logs 101 = .ok (.aload_n 0, 1) := by decide +kernel
theorem dX10_logs_102 : decode cX10_logs 102 = .ok (.getfield 7, 3) := by decide +kernel
theorem dX10_logs_105 : decode cX10_logs 105 = .ok (.iload 5, 2) := by decide +kernel
theorem dX10_logs_107 : decode cX10_logs 107 = .ok (.iconst 3, 1) := by decide +kernel
theorem dX10_logs_108 : decode cX10_logs 108 = .ok (.iadd, 1) := by decide +kernel
theorem dX10_logs_109 : decode cX10_logs 109 = .ok (.iload 4, 2) := by decide +kernel
theorem dX10_logs_111 : decode cX10_logs 111 = .ok (.iastore, 1) := by decide +kernel
theorem dX10_logs_112 : decode cX10_logs 112 = .ok (.aload_n 0, 1) := by decide +kernel
theorem dX10_logs_113 : decode cX10_logs 113 = .ok (.getfield 7, 3) := by decide +kernel
theorem dX10_logs_116 : decode cX10_logs 116 = .ok (.bipush 7, 2) := by decide +kernel
theorem dX10_logs_118 : decode cX10_logs 118 = .ok (.dup2, 1) := by decide +kernel
theorem dX10_logs_119 : decode cX10_logs 119 = .ok (.iaload, 1) := by decide +kernel
theorem dX10_logs_120 : decode cX10_logs 120 = .ok (.iconst 1, 1) := by decide +kernel
theorem dX10_logs_121 : decode cX10_logs 121 = .ok (.iadd, 1) := by decide +kernel
theorem dX10_logs_122 : decode cX10_logs 122 = .ok (.iastore, 1) := by decide +kernel
theorem dX10_logs_123 : decode cX10_logs 123 = .ok (.return_, 1) := by decide +kernel
theorem dX10_run_0 : decode cX10_run 0 = .ok (.aload_n 0, 1) := by decide +kernel
theorem dX10_run_1 : decode cX10_run 1 = .ok (.iload_n 1, 1) := by decide +kernel
theorem dX10_run_2 : decode cX10_run 2 = .ok (.i2l, 1) := by decide +kernel
theorem dX10_run_3 : decode cX10_run 3 = .ok (.lconst 0, 1) := by decide +kernel
theorem dX10_run_4 : decode cX10_run 4 = .ok (.ldc2_w 116, 3) := by decide +kernel
theorem dX10_run_7 : decode cX10_run 7 = .ok (.invokestatic 35, 3) := by decide +kernel
theorem dX10_run_10 : decode cX10_run 10 = .ok (.aload_n 0, 1) := by decide +kernel
theorem dX10_run_11 : decode cX10_run 11 = .ok (.getfield 7, 3) := by decide +kernel
theorem dX10_run_14 : decode cX10_run 14 = .ok (.iconst 3, 1) := by decide +kernel
theorem dX10_run_15 : decode cX10_run 15 = .ok (.iaload, 1) := by decide +kernel
theorem dX10_run_16 : decode cX10_run 16 = .ok (.ldc 118, 2) := by decide +kernel
theorem dX10_run_18 : decode cX10_run 18 = .ok (.if_icmp .gt 7, 3) := by decide +kernel
theorem dX10_run_21 : decode cX10_run 21 = .ok (.iconst 1, 1) := by decide +kernel
theorem dX10_run_22 : decode cX10_run 22 = .ok (.goto 4, 3) := by decide +kernel
theorem dX10_run_25 : decode cX10_run 25 = .ok (.iconst 0, 1) := by decide +kernel
theorem dX10_run_26 : decode cX10_run 26 = .ok (.iconst 1, 1) := by decide +kernel
theorem dX10_run_27 : decode cX10_run 27 = .ok (.invokevirtual 53, 3) := by decide +kernel
theorem dX10_run_30 : decode cX10_run 30 = .ok (.ifCond .ne 5, 3) := by decide +kernel
theorem dX10_run_33 : decode cX10_run 33 = .ok (.iconst 0, 1) := by decide +kernel
theorem dX10_run_34 : decode cX10_run 34 = .ok (.ireturn, 1) := by decide +kernel
theorem dX10_run_35 : decode cX10_run 35 = .ok (.aload_n 0, 1) := by decide +kernel
theorem dX10_run_36 : decode cX10_run 36 = .ok (.invokevirtual 57, 3) := by decide +kernel
theorem dX10_run_39 : decode cX10_run 39 = .ok (.iconst 0, 1) := by decide +kernel
theorem dX10_run_40 : decode cX10_run 40 = .ok (.istore_n 2, 1) := by decide +kernel
theorem dX10_run_41 : decode cX10_run 41 = .ok (.iload_n 2, 1) := by decide +kernel
theorem dX10_run_42 : decode cX10_run 42 = .ok (.iload_n 1, 1) := by decide +kernel
theorem dX10_run_43 : decode cX10_run 43 = .ok (.if_icmp .ge 13, 3) := by decide +kernel
theorem dX10_run_46 : decode cX10_run 46 = .ok (.aload_n 0, 1) := by decide +kernel
theorem dX10_run_47 : decode cX10_run 47 = .ok (.invokevirtual 119, 3) := by decide +kernel
theorem dX10_run_50 : decode cX10_run 50 = .ok (.iinc 2 1, 3) := by decide +kernel
theorem dX10_run_53 : decode cX10_run 53 = .ok (.goto (-12), 3) := by decide +kernel
theorem dX10_run_56 : decode cX10_run 56 = .ok (.aload_n 0, 1) := by decide +kernel
theorem dX10_run_57 : decode cX10_run 57 = .ok (.getfield 7, 3) := by decide +kernel
theorem dX10_run_60 : decode cX10_run 60 = .ok (.iconst 3, 1) := by decide +kernel
theorem dX10_run_61 : decode cX10_run 61 = .ok (.iaload, 1) := by decide +kernel
theorem dX10_run_62 : decode cX10_run 62 = .ok (.ireturn, 1) := by decide +kernel
theorem dX10_loseToken_0 : decode cX10_loseToken 0 = .ok (.aload_n 0, 1) := by decide +kernel
theorem dX10_loseToken_1 : decode cX10_loseToken 1 = .ok (.iconst 0, 1) := by decide +kernel
theorem dX10_loseToken_2 : decode cX10_loseToken 2 = .ok (.putfield 22, 3) := by decide +kernel
theorem dX10_loseToken_5 : decode cX10_loseToken 5 = .ok (.aload_n 0, 1) := by decide +kernel
theorem dX10_loseToken_6 : decode cX10_loseToken 6 = .ok (.invokevirtual 57, 3) := by decide +kernel
theorem dX10_loseToken_9 : decode cX10_loseToken 9 = .ok (.aload_n 0, 1) := by decide +kernel
theorem dX10_loseToken_10 : decode cX10_loseToken 10 = .ok (.getfield 7, 3) := by decide +kernel
theorem dX10_loseToken_13 : decode cX10_loseToken 13 = .ok (.iconst 4, 1) := by decide +kernel
theorem dX10_loseToken_14 : decode cX10_loseToken 14 = .ok (.iaload, 1) := by decide +kernel
theorem dX10_loseToken_15 : decode cX10_loseToken 15 = .ok (.istore_n 1, 1) := by decide +kernel
theorem dX10_loseToken_16 : decode cX10_loseToken 16 = .ok (.aload_n 0, 1) := by decide +kernel
theorem dX10_loseToken_17 : decode cX10_loseToken 17 = .ok (.getfield 7, 3) := by decide +kernel
theorem dX10_loseToken_20 : decode cX10_loseToken 20 = .ok (.iconst 4, 1) := by decide +kernel
theorem dX10_loseToken_21 : decode cX10_loseToken 21 = .ok (.iconst (-1), 1) := by decide +kernel
theorem dX10_loseToken_22 : decode cX10_loseToken 22 = .ok (.iastore, 1) := by decide +kernel
theorem dX10_loseToken_23 : decode cX10_loseToken 23 = .ok (.iload_n 1, 1) := by decide +kernel
theorem dX10_loseToken_24 : decode cX10_loseToken 24 = .ok (.ireturn, 1) := by decide +kernel
theorem dX10_inRing_0 : decode cX10_inRing 0 = .ok (.iconst 0, 1) := by decide +kernel
theorem dX10_inRing_1 : decode cX10_inRing 1 = .ok (.istore_n 1, 1) := by decide +kernel
theorem dX10_inRing_2 : decode cX10_inRing 2 = .ok (.iconst 0, 1) := by decide +kernel
theorem dX10_inRing_3 : decode cX10_inRing 3 = .ok (.istore_n 2, 1) := by decide +kernel
theorem dX10_inRing_4 : decode cX10_inRing 4 = .ok (.iload_n 2, 1) := by decide +kernel
theorem dX10_inRing_5 : decode cX10_inRing 5 = .ok (.bipush 32, 2) := by decide +kernel
theorem dX10_inRing_7 : decode cX10_inRing 7 = .ok (.if_icmp .ge 25, 3) := by decide +kernel
theorem dX10_inRing_10 : decode cX10_inRing 10 = .ok (.iload_n 1, 1) := by decide +kernel
theorem dX10_inRing_11 : decode cX10_inRing 11 = .ok (.aload_n 0, 1) := by decide +kernel
theorem dX10_inRing_12 : decode cX10_inRing 12 = .ok (.iload_n 2, 1) := by decide +kernel
theorem dX10_inRing_13 : decode cX10_inRing 13 = .ok (.invokevirtual 83, 3) := by decide +kernel
theorem dX10_inRing_16 : decode cX10_inRing 16 = .ok (.ifCond .eq 7, 3) := by decide +kernel
theorem dX10_inRing_19 : decode cX10_inRing 19 = .ok (.iconst 1, 1) := by decide +kernel
theorem dX10_inRing_20 : decode cX10_inRing 20 = .ok (.goto 4, 3) := by decide +kernel
theorem dX10_inRing_23 : decode cX10_inRing 23 = .ok (.iconst 0, 1) := by decide +kernel
theorem dX10_inRing_24 : decode cX10_inRing 24 = .ok (.iadd, 1) := by decide +kernel
theorem dX10_inRing_25 : decode cX10_inRing 25 = .ok (.istore_n 1, 1) := by decide +kernel
theorem dX10_inRing_26 : decode cX10_inRing 26 = .ok (.iinc 2 1, 3) := by decide +kernel
theorem dX10_inRing_29 : decode cX10_inRing 29 = .ok (.goto (-25), 3) := by decide +kernel
theorem dX10_inRing_32 : decode cX10_inRing 32 = .ok (.iload_n 1, 1) := by decide +kernel
theorem dX10_inRing_33 : decode cX10_inRing 33 = .ok (.ireturn, 1) := by decide +kernel
theorem dX10_settingOf_0 : decode cX10_settingOf 0 = .ok (.iload_n 1, 1) := by decide +kernel
theorem dX10_settingOf_1 : decode cX10_settingOf 1 = .ok (.tableswitch 78 3 8 #[39, 44, 49, 57, 64, 71], 39) := by decide +kernel
theorem dX10_settingOf_40 : decode cX10_settingOf 40 = .ok (.aload_n 0, 1) := by decide +kernel
theorem dX10_settingOf_41 : decode cX10_settingOf 41 = .ok (.invokevirtual 49, 3) := by decide +kernel
theorem dX10_settingOf_44 : decode cX10_settingOf 44 = .ok (.ireturn, 1) := by decide +kernel
theorem dX10_settingOf_45 : decode cX10_settingOf 45 = .ok (.aload_n 0, 1) := by decide +kernel
theorem dX10_settingOf_46 : decode cX10_settingOf 46 = .ok (.invokevirtual 122, 3) := by decide +kernel
theorem dX10_settingOf_49 : decode cX10_settingOf 49 = .ok (.ireturn, 1) := by decide +kernel
theorem dX10_settingOf_50 : decode cX10_settingOf 50 = .ok (.aload_n 0, 1) := by decide +kernel
theorem dX10_settingOf_51 : decode cX10_settingOf 51 = .ok (.getfield 7, 3) := by decide +kernel
theorem dX10_settingOf_54 : decode cX10_settingOf 54 = .ok (.bipush 6, 2) := by decide +kernel
theorem dX10_settingOf_56 : decode cX10_settingOf 56 = .ok (.iaload, 1) := by decide +kernel
theorem dX10_settingOf_57 : decode cX10_settingOf 57 = .ok (.ireturn, 1) := by decide +kernel
theorem dX10_settingOf_58 : decode cX10_settingOf 58 = .ok (.aload_n 0, 1) := by decide +kernel
theorem dX10_settingOf_59 : decode cX10_settingOf 59 = .ok (.getfield 7, 3) := by decide +kernel
theorem dX10_settingOf_62 : decode cX10_settingOf 62 = .ok (.iconst 3, 1) := by decide +kernel
theorem dX10_settingOf_63 : decode cX10_settingOf 63 = .ok (.iaload, 1) := by decide +kernel
theorem dX10_settingOf_64 : decode cX10_settingOf 64 = .ok (.ireturn, 1) := by decide +kernel
theorem dX10_settingOf_65 : decode cX10_settingOf 65 = .ok (.aload_n 0, 1) := by decide +kernel
theorem dX10_settingOf_66 : decode cX10_settingOf 66 = .ok (.getfield 7, 3) := by decide +kernel
theorem dX10_settingOf_69 : decode cX10_settingOf 69 = .ok (.iconst 4, 1) := by decide +kernel
theorem dX10_settingOf_70 : decode cX10_settingOf 70 = .ok (.iaload, 1) := by decide +kernel
theorem dX10_settingOf_71 : decode cX10_settingOf 71 = .ok (.ireturn, 1) := by decide +kernel
theorem dX10_settingOf_72 : decode cX10_settingOf 72 = .ok (.aload_n 0, 1) := by decide +kernel
theorem dX10_settingOf_73 : decode cX10_settingOf 73 = .ok (.getfield 7, 3) := by decide +kernel
theorem dX10_settingOf_76 : decode cX10_settingOf 76 = .ok (.iconst 5, 1) := by decide +kernel
theorem dX10_settingOf_77 : decode cX10_settingOf 77 = .ok (.iaload, 1) := by decide +kernel
theorem dX10_settingOf_78 : decode cX10_settingOf 78 = .ok (.ireturn, 1) := by decide +kernel
theorem dX10_settingOf_79 : decode cX10_settingOf 79 = .ok (.aload_n 0, 1) := by decide +kernel
theorem dX10_settingOf_80 : decode cX10_settingOf 80 = .ok (.getfield 7, 3) := by decide +kernel
theorem dX10_settingOf_83 : decode cX10_settingOf 83 = .ok (.iload_n 1, 1) := by decide +kernel
theorem dX10_settingOf_84 : decode cX10_settingOf 84 = .ok (.iaload, 1) := by decide +kernel
theorem dX10_settingOf_85 : decode cX10_settingOf 85 = .ok (.ireturn, 1) := by decide +kernel
theorem dX10_setting_0 : decode cX10_setting 0 = .ok (.aload_n 0, 1) := by decide +kernel
theorem dX10_setting_1 : decode cX10_setting 1 = .ok (.iload_n 1, 1) := by decide +kernel
theorem dX10_setting_2 : decode cX10_setting 2 = .ok (.i2l, 1) := by decide +kernel
theorem dX10_setting_3 : decode cX10_setting 3 = .ok (.lconst 0, 1) := by decide +kernel
theorem dX10_setting_4 : decode cX10_setting 4 = .ok (.ldc2_w 125, 3) := by decide +kernel
theorem dX10_setting_7 : decode cX10_setting 7 = .ok (.invokestatic 35, 3) := by decide +kernel
theorem dX10_setting_10 : decode cX10_setting 10 = .ok (.iconst 1, 1) := by decide +kernel
theorem dX10_setting_11 : decode cX10_setting 11 = .ok (.iconst 1, 1) := by decide +kernel
theorem dX10_setting_12 : decode cX10_setting 12 = .ok (.invokevirtual 53, 3) := by decide +kernel
theorem dX10_setting_15 : decode cX10_setting 15 = .ok (.ifCond .eq 11, 3) := by decide +kernel
theorem dX10_setting_18 : decode cX10_setting 18 = .ok (.aload_n 0, 1) := by decide +kernel
theorem dX10_setting_19 : decode cX10_setting 19 = .ok (.iload_n 1, 1) := by decide +kernel
theorem dX10_setting_20 : decode cX10_setting 20 = .ok (.invokevirtual 127, 3) := by decide +kernel
theorem dX10_setting_23 : decode cX10_setting 23 = .ok (.goto 4, 3) := by decide +kernel
theorem dX10_setting_26 : decode cX10_setting 26 = .ok (.iconst 0, 1) := by decide +kernel
theorem dX10_setting_27 : decode cX10_setting 27 = .ok (.ireturn, 1) := by decide +kernel
theorem dX10_queueOf_0 : decode cX10_queueOf 0 = .ok (.iconst 0, 1) := by decide +kernel
theorem dX10_queueOf_1 : decode cX10_queueOf 1 = .ok (.istore_n 2, 1) := by decide +kernel
theorem dX10_queueOf_2 : decode cX10_queueOf 2 = .ok (.iconst 0, 1) := by decide +kernel
theorem dX10_queueOf_3 : decode cX10_queueOf 3 = .ok (.istore_n 3, 1) := by decide +kernel
theorem dX10_queueOf_4 : decode cX10_queueOf 4 = .ok (.iload_n 3, 1) := by decide +kernel
theorem dX10_queueOf_5 : decode cX10_queueOf 5 = .ok (.aload_n 0, 1) := by decide +kernel
theorem dX10_queueOf_6 : decode cX10_queueOf 6 = .ok (.getfield 7, 3) := by decide +kernel
theorem dX10_queueOf_9 : decode cX10_queueOf 9 = .ok (.iconst 5, 1) := by decide +kernel
theorem dX10_queueOf_10 : decode cX10_queueOf 10 = .ok (.iaload, 1) := by decide +kernel
theorem dX10_queueOf_11 : decode cX10_queueOf 11 = .ok (.if_icmp .ge 37, 3) := by decide +kernel
theorem dX10_queueOf_14 : decode cX10_queueOf 14 = .ok (.iload_n 2, 1) := by decide +kernel
theorem dX10_queueOf_15 : decode cX10_queueOf 15 = .ok (.aload_n 0, 1) := by decide +kernel
theorem dX10_queueOf_16 : decode cX10_queueOf 16 = .ok (.iload_n 3, 1) := by decide +kernel
theorem dX10_queueOf_17 : decode cX10_queueOf 17 = .ok (.iconst 2, 1) := by decide +kernel
theorem dX10_queueOf_18 : decode cX10_queueOf 18 = .ok (.invokevirtual 80, 3) := by decide +kernel
theorem dX10_queueOf_21 : decode cX10_queueOf 21 = .ok (.iload_n 1, 1) := by decide +kernel
theorem dX10_queueOf_22 : decode cX10_queueOf 22 = .ok (.if_icmp .ne 17, 3) := by decide +kernel
theorem dX10_queueOf_25 : decode cX10_queueOf 25 = .ok (.aload_n 0, 1) := by decide +kernel
theorem dX10_queueOf_26 : decode cX10_queueOf 26 = .ok (.iload_n 3, 1) := by decide +kernel
theorem dX10_queueOf_27 : decode cX10_queueOf 27 = .ok (.iconst 4, 1) := by decide +kernel
theorem dX10_queueOf_28 : decode cX10_queueOf 28 = .ok (.invokevirtual 80, 3) := by decide +kernel
theorem dX10_queueOf_31 : decode cX10_queueOf 31 = .ok (.iconst (-1), 1) := by decide +kernel
theorem dX10_queueOf_32 : decode cX10_queueOf 32 = .ok (.if_icmp .ne 7, 3) := by decide +kernel
theorem dX10_queueOf_35 : decode cX10_queueOf 35 = .ok (.iconst 1, 1) := by decide +kernel
theorem dX10_queueOf_36 : decode cX10_queueOf 36 = .ok (.goto 4, 3) := by decide +kernel
theorem dX10_queueOf_39 : decode cX10_queueOf 39 = .ok (.iconst 0, 1) := by decide +kernel
theorem dX10_queueOf_40 : decode cX10_queueOf 40 = .ok (.iadd, 1) := by decide +kernel
theorem dX10_queueOf_41 : decode cX10_queueOf 41 = .ok (.istore_n 2, 1) := by decide +kernel
theorem dX10_queueOf_42 : decode cX10_queueOf 42 = .ok (.iinc 3 1, 3) := by decide +kernel
theorem dX10_queueOf_45 : decode cX10_queueOf 45 = .ok (.goto (-41), 3) := by decide +kernel
theorem dX10_queueOf_48 : decode cX10_queueOf 48 = .ok (.iload_n 2, 1) := by decide +kernel
theorem dX10_queueOf_49 : decode cX10_queueOf 49 = .ok (.ireturn, 1) := by decide +kernel
theorem dX10_stationOf_0 : decode cX10_stationOf 0 = .ok (.iload_n 2, 1) := by decide +kernel
theorem dX10_stationOf_1 : decode cX10_stationOf 1 = .ok (.iconst 4, 1) := by decide +kernel
theorem dX10_stationOf_2 : decode cX10_stationOf 2 = .ok (.if_icmp .ne 11, 3) := by decide +kernel
theorem dX10_stationOf_5 : decode cX10_stationOf 5 = .ok (.aload_n 0, 1) := by decide +kernel
theorem dX10_stationOf_6 : decode cX10_stationOf 6 = .ok (.iload_n 1, 1) := by decide +kernel
theorem dX10_stationOf_7 : decode cX10_stationOf 7 = .ok (.invokevirtual 131, 3) := by decide +kernel
theorem dX10_stationOf_10 : decode cX10_stationOf 10 = .ok (.goto 20, 3) := by decide +kernel
theorem dX10_stationOf_13 : decode cX10_stationOf 13 = .ok (.aload_n 0, 1) := by decide +kernel
theorem dX10_stationOf_14 : decode cX10_stationOf 14 = .ok (.iload_n 1, 1) := by decide +kernel
theorem dX10_stationOf_15 : decode cX10_stationOf 15 = .ok (.iload_n 2, 1) := by decide +kernel
theorem dX10_stationOf_16 : decode cX10_stationOf 16 = .ok (.iconst 4, 1) := by decide +kernel
theorem dX10_stationOf_17 : decode cX10_stationOf 17 = .ok (.if_icmp .ge 9, 3) := by decide +kernel
theorem dX10_stationOf_20 : decode cX10_stationOf 20 = .ok (.iconst 1, 1) := by decide +kernel
theorem dX10_stationOf_21 : decode cX10_stationOf 21 = .ok (.iload_n 2, 1) := by decide +kernel
theorem dX10_stationOf_22 : decode cX10_stationOf 22 = .ok (.iadd, 1) := by decide +kernel
theorem dX10_stationOf_23 : decode cX10_stationOf 23 = .ok (.goto 4, 3) := by decide +kernel
theorem dX10_stationOf_26 : decode cX10_stationOf 26 = .ok (.iload_n 2, 1) := by decide +kernel
theorem dX10_stationOf_27 : decode cX10_stationOf 27 = .ok (.invokevirtual 39, 3) := by decide +kernel
theorem dX10_stationOf_30 : decode cX10_stationOf 30 = .ok (.ireturn, 1) := by decide +kernel
theorem dX10_station_0 : decode cX10_station 0 = .ok (.aload_n 0, 1) := by decide +kernel
theorem dX10_station_1 : decode cX10_station 1 = .ok (.aload_n 0, 1) := by decide +kernel
theorem dX10_station_2 : decode cX10_station 2 = .ok (.iload_n 1, 1) := by decide +kernel
theorem dX10_station_3 : decode cX10_station 3 = .ok (.invokevirtual 45, 3) := by decide +kernel
theorem dX10_station_6 : decode cX10_station 6 = .ok (.iload_n 2, 1) := by decide +kernel
theorem dX10_station_7 : decode cX10_station 7 = .ok (.i2l, 1) := by decide +kernel
theorem dX10_station_8 : decode cX10_station 8 = .ok (.lconst 0, 1) := by decide +kernel
theorem dX10_station_9 : decode cX10_station 9 = .ok (.ldc2_w 134, 3) := by decide +kernel
theorem dX10_station_12 : decode cX10_station 12 = .ok (.invokestatic 35, 3) := by decide +kernel
theorem dX10_station_15 : decode cX10_station 15 = .ok (.iconst 1, 1) := by decide +kernel
theorem dX10_station_16 : decode cX10_station 16 = .ok (.invokevirtual 53, 3) := by decide +kernel
theorem dX10_station_19 : decode cX10_station 19 = .ok (.ifCond .eq 12, 3) := by decide +kernel
theorem dX10_station_22 : decode cX10_station 22 = .ok (.aload_n 0, 1) := by decide +kernel
theorem dX10_station_23 : decode cX10_station 23 = .ok (.iload_n 1, 1) := by decide +kernel
theorem dX10_station_24 : decode cX10_station 24 = .ok (.iload_n 2, 1) := by decide +kernel
theorem dX10_station_25 : decode cX10_station 25 = .ok (.invokevirtual 136, 3) := by decide +kernel
theorem dX10_station_28 : decode cX10_station 28 = .ok (.goto 4, 3) := by decide +kernel
theorem dX10_station_31 : decode cX10_station 31 = .ok (.iconst 0, 1) := by decide +kernel
theorem dX10_station_32 : decode cX10_station 32 = .ok (.ireturn, 1) := by decide +kernel
theorem dX10_addressAt_0 : decode cX10_addressAt 0 = .ok (.aload_n 0, 1) := by decide +kernel
theorem dX10_addressAt_1 : decode cX10_addressAt 1 = .ok (.iload_n 1, 1) := by decide +kernel
theorem dX10_addressAt_2 : decode cX10_addressAt 2 = .ok (.i2l, 1) := by decide +kernel
theorem dX10_addressAt_3 : decode cX10_addressAt 3 = .ok (.lconst 0, 1) := by decide +kernel
theorem dX10_addressAt_4 : decode cX10_addressAt 4 = .ok (.aload_n 0, 1) := by decide +kernel
theorem dX10_addressAt_5 : decode cX10_addressAt 5 = .ok (.invokevirtual 49, 3) := by decide +kernel
theorem dX10_addressAt_8 : decode cX10_addressAt 8 = .ok (.i2l, 1) := by decide +kernel
theorem dX10_addressAt_9 : decode cX10_addressAt 9 = .ok (.lconst 1, 1) := by decide +kernel
theorem dX10_addressAt_10 : decode cX10_addressAt 10 = .ok (.lsub, 1) := by decide +kernel
theorem dX10_addressAt_11 : decode cX10_addressAt 11 = .ok (.invokestatic 35, 3) := by decide +kernel
theorem dX10_addressAt_14 : decode cX10_addressAt 14 = .ok (.iconst 1, 1) := by decide +kernel
theorem dX10_addressAt_15 : decode cX10_addressAt 15 = .ok (.iconst 1, 1) := by decide +kernel
theorem dX10_addressAt_16 : decode cX10_addressAt 16 = .ok (.invokevirtual 53, 3) := by decide +kernel
theorem dX10_addressAt_19 : decode cX10_addressAt 19 = .ok (.ifCond .ne 5, 3) := by decide +kernel
theorem dX10_addressAt_22 : decode cX10_addressAt 22 = .ok (.iconst 0, 1) := by decide +kernel
theorem dX10_addressAt_23 : decode cX10_addressAt 23 = .ok (.ireturn, 1) := by decide +kernel
theorem dX10_addressAt_24 : decode cX10_addressAt 24 = .ok (.iconst 0, 1) := by decide +kernel
theorem dX10_addressAt_25 : decode cX10_addressAt 25 = .ok (.istore_n 2, 1) := by decide +kernel
theorem dX10_addressAt_26 : decode cX10_addressAt 26 = .ok (.iload_n 1, 1) := by decide +kernel
theorem dX10_addressAt_27 : decode cX10_addressAt 27 = .ok (.istore_n 3, 1) := by decide +kernel
theorem dX10_addressAt_28 : decode cX10_addressAt 28 = .ok (.iload_n 3, 1) := by decide +kernel
theorem dX10_addressAt_29 : decode cX10_addressAt 29 = .ok (.ifCond .gt 12, 3) := by decide +kernel
theorem dX10_addressAt_32 : decode cX10_addressAt 32 = .ok (.aload_n 0, 1) := by decide +kernel
theorem dX10_addressAt_33 : decode cX10_addressAt 33 = .ok (.iload_n 2, 1) := by decide +kernel
theorem dX10_addressAt_34 : decode cX10_addressAt 34 = .ok (.iconst 0, 1) := by decide +kernel
theorem dX10_addressAt_35 : decode cX10_addressAt 35 = .ok (.invokevirtual 39, 3) := by decide +kernel
theorem dX10_addressAt_38 : decode cX10_addressAt 38 = .ok (.ifCond .ne 18, 3) := by decide +kernel
theorem dX10_addressAt_41 : decode cX10_addressAt 41 = .ok (.iload_n 3, 1) := by decide +kernel
theorem dX10_addressAt_42 : decode cX10_addressAt 42 = .ok (.aload_n 0, 1) := by decide +kernel
theorem dX10_addressAt_43 : decode cX10_addressAt 43 = .ok (.iload_n 2, 1) := by decide +kernel
theorem dX10_addressAt_44 : decode cX10_addressAt 44 = .ok (.iconst 0, 1) := by decide +kernel
theorem dX10_addressAt_45 : decode cX10_addressAt 45 = .ok (.invokevirtual 39, 3) := by decide +kernel
theorem dX10_addressAt_48 : decode cX10_addressAt 48 = .ok (.isub, 1) := by decide +kernel
theorem dX10_addressAt_49 : decode cX10_addressAt 49 = .ok (.istore_n 3, 1) := by decide +kernel
theorem dX10_addressAt_50 : decode cX10_addressAt 50 = .ok (.iinc 2 1, 3) := by decide +kernel
theorem dX10_addressAt_53 : decode cX10_addressAt 53 = .ok (.goto (-25), 3) := by decide +kernel
theorem dX10_addressAt_56 : decode cX10_addressAt 56 = .ok (.iload_n 2, 1) := by decide +kernel
theorem dX10_addressAt_57 : decode cX10_addressAt 57 = .ok (.ireturn, 1) := by decide +kernel
theorem dX10_queued_0 : decode cX10_queued 0 = .ok (.aload_n 0, 1) := by decide +kernel
theorem dX10_queued_1 : decode cX10_queued 1 = .ok (.iload_n 1, 1) := by decide +kernel
theorem dX10_queued_2 : decode cX10_queued 2 = .ok (.invokevirtual 45, 3) := by decide +kernel
theorem dX10_queued_5 : decode cX10_queued 5 = .ok (.istore_n 3, 1) := by decide +kernel
theorem dX10_queued_6 : decode cX10_queued 6 = .ok (.aload_n 0, 1) := by decide +kernel
theorem dX10_queued_7 : decode cX10_queued 7 = .ok (.iload_n 3, 1) := by decide +kernel
theorem dX10_queued_8 : decode cX10_queued 8 = .ok (.iload_n 3, 1) := by decide +kernel
theorem dX10_queued_9 : decode cX10_queued 9 = .ok (.ifCond .eq 24, 3) := by decide +kernel
theorem dX10_queued_12 : decode cX10_queued 12 = .ok (.iload_n 2, 1) := by decide +kernel
theorem dX10_queued_13 : decode cX10_queued 13 = .ok (.i2l, 1) := by decide +kernel
theorem dX10_queued_14 : decode cX10_queued 14 = .ok (.lconst 0, 1) := by decide +kernel
theorem dX10_queued_15 : decode cX10_queued 15 = .ok (.aload_n 0, 1) := by decide +kernel
theorem dX10_queued_16 : decode cX10_queued 16 = .ok (.iload_n 1, 1) := by decide +kernel
theorem dX10_queued_17 : decode cX10_queued 17 = .ok (.invokevirtual 131, 3) := by decide +kernel
theorem dX10_queued_20 : decode cX10_queued 20 = .ok (.i2l, 1) := by decide +kernel
theorem dX10_queued_21 : decode cX10_queued 21 = .ok (.lconst 1, 1) := by decide +kernel
theorem dX10_queued_22 : decode cX10_queued 22 = .ok (.lsub, 1) := by decide +kernel
theorem dX10_queued_23 : decode cX10_queued 23 = .ok (.invokestatic 35, 3) := by decide +kernel
theorem dX10_queued_26 : decode cX10_queued 26 = .ok (.ifCond .eq 7, 3) := by decide +kernel
theorem dX10_queued_29 : decode cX10_queued 29 = .ok (.iconst 1, 1) := by decide +kernel
theorem dX10_queued_30 : decode cX10_queued 30 = .ok (.goto 4, 3) := by decide +kernel
theorem dX10_queued_33 : decode cX10_queued 33 = .ok (.iconst 0, 1) := by decide +kernel
theorem dX10_queued_34 : decode cX10_queued 34 = .ok (.iconst 1, 1) := by decide +kernel
theorem dX10_queued_35 : decode cX10_queued 35 = .ok (.invokevirtual 53, 3) := by decide +kernel
theorem dX10_queued_38 : decode cX10_queued 38 = .ok (.ifCond .ne 5, 3) := by decide +kernel
theorem dX10_queued_41 : decode cX10_queued 41 = .ok (.iconst 0, 1) := by decide +kernel
theorem dX10_queued_42 : decode cX10_queued 42 = .ok (.ireturn, 1) := by decide +kernel
theorem dX10_queued_43 : decode cX10_queued 43 = .ok (.aload_n 0, 1) := by decide +kernel
theorem dX10_queued_44 : decode cX10_queued 44 = .ok (.iload_n 1, 1) := by decide +kernel
theorem dX10_queued_45 : decode cX10_queued 45 = .ok (.iconst (-1), 1) := by decide +kernel
theorem dX10_queued_46 : decode cX10_queued 46 = .ok (.invokevirtual 86, 3) := by decide +kernel
theorem dX10_queued_49 : decode cX10_queued 49 = .ok (.istore 4, 2) := by decide +kernel
theorem dX10_queued_51 : decode cX10_queued 51 = .ok (.iconst 0, 1) := by decide +kernel
theorem dX10_queued_52 : decode cX10_queued 52 = .ok (.istore 5, 2) := by decide +kernel
theorem dX10_queued_54 : decode cX10_queued 54 = .ok (.iload 5, 2) := by decide +kernel
theorem dX10_queued_56 : decode cX10_queued 56 = .ok (.iload_n 2, 1) := by decide +kernel
theorem dX10_queued_57 : decode cX10_queued 57 = .ok (.if_icmp .ge 18, 3) := by decide +kernel
theorem dX10_queued_60 : decode cX10_queued 60 = .ok (.aload_n 0, 1) := by decide +kernel
theorem dX10_queued_61 : decode cX10_queued 61 = .ok (.iload_n 1, 1) := by decide +kernel
theorem dX10_queued_62 : decode cX10_queued 62 = .ok (.iload 4, 2) := by decide +kernel
theorem dX10_queued_64 : decode cX10_queued 64 = .ok (.invokevirtual 86, 3) := by decide +kernel
theorem dX10_queued_67 : decode cX10_queued 67 = .ok (.istore 4, 2) := by decide +kernel
theorem dX10_queued_69 : decode cX10_queued 69 = .ok (.iinc 5 1, 3) := by decide +kernel
theorem dX10_queued_72 : decode cX10_queued 72 = .ok (.goto (-18), 3) := by decide +kernel
theorem dX10_queued_75 : decode cX10_queued 75 = .ok (.iload 4, 2) := by decide +kernel
theorem dX10_queued_77 : decode cX10_queued 77 = .ok (.ireturn, 1) := by decide +kernel
theorem dX10_message_0 : decode cX10_message 0 = .ok (.aload_n 0, 1) := by decide +kernel
theorem dX10_message_1 : decode cX10_message 1 = .ok (.iload_n 1, 1) := by decide +kernel
theorem dX10_message_2 : decode cX10_message 2 = .ok (.i2l, 1) := by decide +kernel
theorem dX10_message_3 : decode cX10_message 3 = .ok (.lconst 0, 1) := by decide +kernel
theorem dX10_message_4 : decode cX10_message 4 = .ok (.aload_n 0, 1) := by decide +kernel
theorem dX10_message_5 : decode cX10_message 5 = .ok (.getfield 7, 3) := by decide +kernel
theorem dX10_message_8 : decode cX10_message 8 = .ok (.iconst 5, 1) := by decide +kernel
theorem dX10_message_9 : decode cX10_message 9 = .ok (.iaload, 1) := by decide +kernel
theorem dX10_message_10 : decode cX10_message 10 = .ok (.i2l, 1) := by decide +kernel
theorem dX10_message_11 : decode cX10_message 11 = .ok (.lconst 1, 1) := by decide +kernel
theorem dX10_message_12 : decode cX10_message 12 = .ok (.lsub, 1) := by decide +kernel
theorem dX10_message_13 : decode cX10_message 13 = .ok (.invokestatic 35, 3) := by decide +kernel
theorem dX10_message_16 : decode cX10_message 16 = .ok (.iload_n 2, 1) := by decide +kernel
theorem dX10_message_17 : decode cX10_message 17 = .ok (.i2l, 1) := by decide +kernel
theorem dX10_message_18 : decode cX10_message 18 = .ok (.lconst 0, 1) := by decide +kernel
theorem dX10_message_19 : decode cX10_message 19 = .ok (.ldc2_w 139, 3) := by decide +kernel
theorem dX10_message_22 : decode cX10_message 22 = .ok (.invokestatic 35, 3) := by decide +kernel
theorem dX10_message_25 : decode cX10_message 25 = .ok (.iconst 1, 1) := by decide +kernel
theorem dX10_message_26 : decode cX10_message 26 = .ok (.invokevirtual 53, 3) := by decide +kernel
theorem dX10_message_29 : decode cX10_message 29 = .ok (.ifCond .eq 12, 3) := by decide +kernel
theorem dX10_message_32 : decode cX10_message 32 = .ok (.aload_n 0, 1) := by decide +kernel
theorem dX10_message_33 : decode cX10_message 33 = .ok (.iload_n 1, 1) := by decide +kernel
theorem dX10_message_34 : decode cX10_message 34 = .ok (.iload_n 2, 1) := by decide +kernel
theorem dX10_message_35 : decode cX10_message 35 = .ok (.invokevirtual 80, 3) := by decide +kernel
theorem dX10_message_38 : decode cX10_message 38 = .ok (.goto 4, 3) := by decide +kernel
theorem dX10_message_41 : decode cX10_message 41 = .ok (.iconst 0, 1) := by decide +kernel
theorem dX10_message_42 : decode cX10_message 42 = .ok (.ireturn, 1) := by decide +kernel
theorem dX10_count_0 : decode cX10_count 0 = .ok (.aload_n 0, 1) := by decide +kernel
theorem dX10_count_1 : decode cX10_count 1 = .ok (.iload_n 1, 1) := by decide +kernel
theorem dX10_count_2 : decode cX10_count 2 = .ok (.i2l, 1) := by decide +kernel
theorem dX10_count_3 : decode cX10_count 3 = .ok (.lconst 0, 1) := by decide +kernel
theorem dX10_count_4 : decode cX10_count 4 = .ok (.ldc2_w 134, 3) := by decide +kernel
theorem dX10_count_7 : decode cX10_count 7 = .ok (.invokestatic 35, 3) := by decide +kernel
theorem dX10_count_10 : decode cX10_count 10 = .ok (.iconst 1, 1) := by decide +kernel
theorem dX10_count_11 : decode cX10_count 11 = .ok (.iconst 1, 1) := by decide +kernel
theorem dX10_count_12 : decode cX10_count 12 = .ok (.invokevirtual 53, 3) := by decide +kernel
theorem dX10_count_15 : decode cX10_count 15 = .ok (.ifCond .eq 15, 3) := by decide +kernel
theorem dX10_count_18 : decode cX10_count 18 = .ok (.aload_n 0, 1) := by decide +kernel
theorem dX10_count_19 : decode cX10_count 19 = .ok (.getfield 7, 3) := by decide +kernel
theorem dX10_count_22 : decode cX10_count 22 = .ok (.bipush 9, 2) := by decide +kernel
theorem dX10_count_24 : decode cX10_count 24 = .ok (.iload_n 1, 1) := by decide +kernel
theorem dX10_count_25 : decode cX10_count 25 = .ok (.iadd, 1) := by decide +kernel
theorem dX10_count_26 : decode cX10_count 26 = .ok (.iaload, 1) := by decide +kernel
theorem dX10_count_27 : decode cX10_count 27 = .ok (.goto 4, 3) := by decide +kernel
theorem dX10_count_30 : decode cX10_count 30 = .ok (.iconst 0, 1) := by decide +kernel
theorem dX10_count_31 : decode cX10_count 31 = .ok (.ireturn, 1) := by decide +kernel
theorem dX10_isNoisy_0 : decode cX10_isNoisy 0 = .ok (.aload_n 0, 1) := by decide +kernel
theorem dX10_isNoisy_1 : decode cX10_isNoisy 1 = .ok (.iload_n 1, 1) := by decide +kernel
theorem dX10_isNoisy_2 : decode cX10_isNoisy 2 = .ok (.i2l, 1) := by decide +kernel
theorem dX10_isNoisy_3 : decode cX10_isNoisy 3 = .ok (.lconst 0, 1) := by decide +kernel
theorem dX10_isNoisy_4 : decode cX10_isNoisy 4 = .ok (.ldc2_w 74, 3) := by decide +kernel
theorem dX10_isNoisy_7 : decode cX10_isNoisy 7 = .ok (.invokestatic 35, 3) := by decide +kernel
theorem dX10_isNoisy_10 : decode cX10_isNoisy 10 = .ok (.iconst 1, 1) := by decide +kernel
theorem dX10_isNoisy_11 : decode cX10_isNoisy 11 = .ok (.iconst 1, 1) := by decide +kernel
theorem dX10_isNoisy_12 : decode cX10_isNoisy 12 = .ok (.invokevirtual 53, 3) := by decide +kernel
theorem dX10_isNoisy_15 : decode cX10_isNoisy 15 = .ok (.ifCond .eq 16, 3) := by decide +kernel
theorem dX10_isNoisy_18 : decode cX10_isNoisy 18 = .ok (.aload_n 0, 1) := by decide +kernel
theorem dX10_isNoisy_19 : decode cX10_isNoisy 19 = .ok (.iload_n 1, 1) := by decide +kernel
theorem dX10_isNoisy_20 : decode cX10_isNoisy 20 = .ok (.iload_n 1, 1) := by decide +kernel
theorem dX10_isNoisy_21 : decode cX10_isNoisy 21 = .ok (.invokevirtual 76, 3) := by decide +kernel
theorem dX10_isNoisy_24 : decode cX10_isNoisy 24 = .ok (.ifCond .eq 7, 3) := by decide +kernel
theorem dX10_isNoisy_27 : decode cX10_isNoisy 27 = .ok (.iconst 1, 1) := by decide +kernel
theorem dX10_isNoisy_28 : decode cX10_isNoisy 28 = .ok (.goto 4, 3) := by decide +kernel
theorem dX10_isNoisy_31 : decode cX10_isNoisy 31 = .ok (.iconst 0, 1) := by decide +kernel
theorem dX10_isNoisy_32 : decode cX10_isNoisy 32 = .ok (.ireturn, 1) := by decide +kernel
theorem dX10_logged_0 : decode cX10_logged 0 = .ok (.aload_n 0, 1) := by decide +kernel
theorem dX10_logged_1 : decode cX10_logged 1 = .ok (.iconst 0, 1) := by decide +kernel
theorem dX10_logged_2 : decode cX10_logged 2 = .ok (.putfield 22, 3) := by decide +kernel
theorem dX10_logged_5 : decode cX10_logged 5 = .ok (.aload_n 0, 1) := by decide +kernel
theorem dX10_logged_6 : decode cX10_logged 6 = .ok (.getfield 7, 3) := by decide +kernel
theorem dX10_logged_9 : decode cX10_logged 9 = .ok (.bipush 7, 2) := by decide +kernel
theorem dX10_logged_11 : decode cX10_logged 11 = .ok (.iaload, 1) := by decide +kernel
theorem dX10_logged_12 : decode cX10_logged 12 = .ok (.ireturn, 1) := by decide +kernel
theorem dX10_visit_0 : decode cX10_visit 0 = .ok (.aload_n 0, 1) := by decide +kernel
theorem dX10_visit_1 : decode cX10_visit 1 = .ok (.iload_n 1, 1) := by decide +kernel
theorem dX10_visit_2 : decode cX10_visit 2 = .ok (.i2l, 1) := by decide +kernel
theorem dX10_visit_3 : decode cX10_visit 3 = .ok (.lconst 0, 1) := by decide +kernel
theorem dX10_visit_4 : decode cX10_visit 4 = .ok (.aload_n 0, 1) := by decide +kernel
theorem dX10_visit_5 : decode cX10_visit 5 = .ok (.getfield 7, 3) := by decide +kernel
theorem dX10_visit_8 : decode cX10_visit 8 = .ok (.bipush 7, 2) := by decide +kernel
theorem dX10_visit_10 : decode cX10_visit 10 = .ok (.iaload, 1) := by decide +kernel
theorem dX10_visit_11 : decode cX10_visit 11 = .ok (.i2l, 1) := by decide +kernel
theorem dX10_visit_12 : decode cX10_visit 12 = .ok (.lconst 1, 1) := by decide +kernel
theorem dX10_visit_13 : decode cX10_visit 13 = .ok (.lsub, 1) := by decide +kernel
theorem dX10_visit_14 : decode cX10_visit 14 = .ok (.invokestatic 35, 3) := by decide +kernel
theorem dX10_visit_17 : decode cX10_visit 17 = .ok (.iload_n 2, 1) := by decide +kernel
theorem dX10_visit_18 : decode cX10_visit 18 = .ok (.i2l, 1) := by decide +kernel
theorem dX10_visit_19 : decode cX10_visit 19 = .ok (.lconst 0, 1) := by decide +kernel
theorem dX10_visit_20 : decode cX10_visit 20 = .ok (.ldc2_w 141, 3) := by decide +kernel
theorem dX10_visit_23 : decode cX10_visit 23 = .ok (.invokestatic 35, 3) := by decide +kernel
theorem dX10_visit_26 : decode cX10_visit 26 = .ok (.iconst 1, 1) := by decide +kernel
theorem dX10_visit_27 : decode cX10_visit 27 = .ok (.invokevirtual 53, 3) := by decide +kernel
theorem dX10_visit_30 : decode cX10_visit 30 = .ok (.ifCond .eq 20, 3) := by decide +kernel
theorem dX10_visit_33 : decode cX10_visit 33 = .ok (.aload_n 0, 1) := by decide +kernel
theorem dX10_visit_34 : decode cX10_visit 34 = .ok (.getfield 7, 3) := by decide +kernel
theorem dX10_visit_37 : decode cX10_visit 37 = .ok (.sipush 782, 3) := by decide +kernel
theorem dX10_visit_40 : decode cX10_visit 40 = .ok (.iconst 4, 1) := by decide +kernel
theorem dX10_visit_41 : decode cX10_visit 41 = .ok (.iload_n 1, 1) := by decide +kernel
theorem dX10_visit_42 : decode cX10_visit 42 = .ok (.imul, 1) := by decide +kernel
theorem dX10_visit_43 : decode cX10_visit 43 = .ok (.iadd, 1) := by decide +kernel
theorem dX10_visit_44 : decode cX10_visit 44 = .ok (.iload_n 2, 1) := by decide +kernel
theorem dX10_visit_45 : decode cX10_visit 45 = .ok (.iadd, 1) := by decide +kernel
theorem dX10_visit_46 : decode cX10_visit 46 = .ok (.iaload, 1) := by decide +kernel
theorem dX10_visit_47 : decode cX10_visit 47 = .ok (.goto 4, 3) := by decide +kernel
theorem dX10_visit_50 : decode cX10_visit 50 = .ok (.iconst 0, 1) := by decide +kernel
theorem dX10_visit_51 : decode cX10_visit 51 = .ok (.ireturn, 1) := by decide +kernel
theorem dX10_greatestRotation_0 : decode cX10_greatestRotation 0 = .ok (.aload_n 0, 1) := by decide +kernel
theorem dX10_greatestRotation_1 : decode cX10_greatestRotation 1 = .ok (.iconst 0, 1) := by decide +kernel
theorem dX10_greatestRotation_2 : decode cX10_greatestRotation 2 = .ok (.putfield 22, 3) := by decide +kernel
theorem dX10_greatestRotation_5 : decode cX10_greatestRotation 5 = .ok (.aload_n 0, 1) := by decide +kernel
theorem dX10_greatestRotation_6 : decode cX10_greatestRotation 6 = .ok (.getfield 7, 3) := by decide +kernel
theorem dX10_greatestRotation_9 : decode cX10_greatestRotation 9 = .ok (.bipush 8, 2) := by decide +kernel
theorem dX10_greatestRotation_11 : decode cX10_greatestRotation 11 = .ok (.iaload, 1) := by decide +kernel
theorem dX10_greatestRotation_12 : decode cX10_greatestRotation 12 = .ok (.ireturn, 1) := by decide +kernel
theorem dX10_waits_0 : decode cX10_waits 0 = .ok (.aload_n 0, 1) := by decide +kernel
theorem dX10_waits_1 : decode cX10_waits 1 = .ok (.iconst 0, 1) := by decide +kernel
theorem dX10_waits_2 : decode cX10_waits 2 = .ok (.putfield 22, 3) := by decide +kernel
theorem dX10_waits_5 : decode cX10_waits 5 = .ok (.iconst 0, 1) := by decide +kernel
theorem dX10_waits_6 : decode cX10_waits 6 = .ok (.istore_n 2, 1) := by decide +kernel
theorem dX10_waits_7 : decode cX10_waits 7 = .ok (.lconst 0, 1) := by decide +kernel
theorem dX10_waits_8 : decode cX10_waits 8 = .ok (.lstore_n 3, 1) := by decide +kernel
theorem dX10_waits_9 : decode cX10_waits 9 = .ok (.iconst 0, 1) := by decide +kernel
theorem dX10_waits_10 : decode cX10_waits 10 = .ok (.istore 5, 2) := by decide +kernel
theorem dX10_waits_12 : decode cX10_waits 12 = .ok (.iload 5, 2) := by decide +kernel
theorem dX10_waits_14 : decode cX10_waits 14 = .ok (.aload_n 0, 1) := by decide +kernel
theorem dX10_waits_15 : decode cX10_waits 15 = .ok (.getfield 7, 3) := by decide +kernel
theorem dX10_waits_18 : decode cX10_waits 18 = .ok (.iconst 5, 1) := by decide +kernel
theorem dX10_waits_19 : decode cX10_waits 19 = .ok (.iaload, 1) := by decide +kernel
theorem dX10_waits_20 : decode cX10_waits 20 = .ok (.if_icmp .ge 47, 3) := by decide +kernel
theorem dX10_waits_23 : decode cX10_waits 23 = .ok (.aload_n 0, 1) := by decide +kernel
theorem dX10_waits_24 : decode cX10_waits 24 = .ok (.iload 5, 2) := by decide +kernel
theorem dX10_waits_26 : decode cX10_waits 26 = .ok (.iconst 4, 1) := by decide +kernel
theorem dX10_waits_27 : decode cX10_waits 27 = .ok (.invokevirtual 80, 3) := by decide +kernel
theorem dX10_waits_30 : decode cX10_waits 30 = .ok (.istore 6, 2) := by decide +kernel
theorem dX10_waits_32 : decode cX10_waits 32 = .ok (.iload 6, 2) := by decide +kernel
theorem dX10_waits_34 : decode cX10_waits 34 = .ok (.iload_n 2, 1) := by decide +kernel
theorem dX10_waits_35 : decode cX10_waits 35 = .ok (.if_icmp .le 8, 3) := by decide +kernel
theorem dX10_waits_38 : decode cX10_waits 38 = .ok (.iload 6, 2) := by decide +kernel
theorem dX10_waits_40 : decode cX10_waits 40 = .ok (.goto 4, 3) := by decide +kernel
theorem dX10_waits_43 : decode cX10_waits 43 = .ok (.iload_n 2, 1) := by decide +kernel
theorem dX10_waits_44 : decode cX10_waits 44 = .ok (.istore_n 2, 1) := by decide +kernel
theorem dX10_waits_45 : decode cX10_waits 45 = .ok (.lload_n 3, 1) := by decide +kernel
theorem dX10_waits_46 : decode cX10_waits 46 = .ok (.iload 6, 2) := by decide +kernel
theorem dX10_waits_48 : decode cX10_waits 48 = .ok (.iconst (-1), 1) := by decide +kernel
theorem dX10_waits_49 : decode cX10_waits 49 = .ok (.if_icmp .ne 7, 3) := by decide +kernel
theorem dX10_waits_52 : decode cX10_waits 52 = .ok (.lconst 0, 1) := by decide +kernel
theorem dX10_waits_53 : decode cX10_waits 53 = .ok (.goto 6, 3) := by decide +kernel
theorem dX10_waits_56 : decode cX10_waits 56 = .ok (.iload 6, 2) := by decide +kernel
theorem dX10_waits_58 : decode cX10_waits 58 = .ok (.i2l, 1) := by decide +kernel
theorem dX10_waits_59 : decode cX10_waits 59 = .ok (.ladd, 1) := by decide +kernel
theorem dX10_waits_60 : decode cX10_waits 60 = .ok (.lstore_n 3, 1) := by decide +kernel
theorem dX10_waits_61 : decode cX10_waits 61 = .ok (.iinc 5 1, 3) := by decide +kernel
theorem dX10_waits_64 : decode cX10_waits 64 = .ok (.goto (-52), 3) := by decide +kernel
theorem dX10_waits_67 : decode cX10_waits 67 = .ok (.iload_n 1, 1) := by decide +kernel
theorem dX10_waits_68 : decode cX10_waits 68 = .ok (.ifCond .eq 8, 3) := by decide +kernel
theorem dX10_waits_71 : decode cX10_waits 71 = .ok (.iload_n 2, 1) := by decide +kernel
theorem dX10_waits_72 : decode cX10_waits 72 = .ok (.i2d, 1) := by decide +kernel
theorem dX10_waits_73 : decode cX10_waits 73 = .ok (.goto 28, 3) := by decide +kernel
theorem dX10_waits_76 : decode cX10_waits 76 = .ok (.aload_n 0, 1) := by decide +kernel
theorem dX10_waits_77 : decode cX10_waits 77 = .ok (.getfield 7, 3) := by decide +kernel
theorem dX10_waits_80 : decode cX10_waits 80 = .ok (.bipush 10, 2) := by decide +kernel
theorem dX10_waits_82 : decode cX10_waits 82 = .ok (.iaload, 1) := by decide +kernel
theorem dX10_waits_83 : decode cX10_waits 83 = .ok (.ifCond .ne 7, 3) := by decide +kernel
theorem dX10_waits_86 : decode cX10_waits 86 = .ok (.dconst 0, 1) := by decide +kernel
theorem dX10_waits_87 : decode cX10_waits 87 = .ok (.goto 14, 3) := by decide +kernel
theorem dX10_waits_90 : decode cX10_waits 90 = .ok (.lload_n 3, 1) := by decide +kernel
theorem dX10_waits_91 : decode cX10_waits 91 = .ok (.l2d, 1) := by decide +kernel
theorem dX10_waits_92 : decode cX10_waits 92 = .ok (.aload_n 0, 1) := by decide +kernel
theorem dX10_waits_93 : decode cX10_waits 93 = .ok (.getfield 7, 3) := by decide +kernel
theorem dX10_waits_96 : decode cX10_waits 96 = .ok (.bipush 10, 2) := by decide +kernel
theorem dX10_waits_98 : decode cX10_waits 98 = .ok (.iaload, 1) := by decide +kernel
theorem dX10_waits_99 : decode cX10_waits 99 = .ok (.i2d, 1) := by decide +kernel
theorem dX10_waits_100 : decode cX10_waits 100 = .ok (.ddiv, 1) := by decide +kernel
theorem dX10_waits_101 : decode cX10_waits 101 = .ok (.dreturn, 1) := by decide +kernel
theorem dX10_use_0 : decode cX10_use 0 = .ok (.aload_n 0, 1) := by decide +kernel
theorem dX10_use_1 : decode cX10_use 1 = .ok (.iconst 0, 1) := by decide +kernel
theorem dX10_use_2 : decode cX10_use 2 = .ok (.putfield 22, 3) := by decide +kernel
theorem dX10_use_5 : decode cX10_use 5 = .ok (.aload_n 0, 1) := by decide +kernel
theorem dX10_use_6 : decode cX10_use 6 = .ok (.getfield 7, 3) := by decide +kernel
theorem dX10_use_9 : decode cX10_use 9 = .ok (.iconst 3, 1) := by decide +kernel
theorem dX10_use_10 : decode cX10_use 10 = .ok (.iaload, 1) := by decide +kernel
theorem dX10_use_11 : decode cX10_use 11 = .ok (.ifCond .ne 7, 3) := by decide +kernel
theorem dX10_use_14 : decode cX10_use 14 = .ok (.dconst 0, 1) := by decide +kernel
theorem dX10_use_15 : decode cX10_use 15 = .ok (.goto 19, 3) := by decide +kernel
theorem dX10_use_18 : decode cX10_use 18 = .ok (.aload_n 0, 1) := by decide +kernel
theorem dX10_use_19 : decode cX10_use 19 = .ok (.getfield 7, 3) := by decide +kernel
theorem dX10_use_22 : decode cX10_use 22 = .ok (.bipush 15, 2) := by decide +kernel
theorem dX10_use_24 : decode cX10_use 24 = .ok (.iaload, 1) := by decide +kernel
theorem dX10_use_25 : decode cX10_use 25 = .ok (.i2d, 1) := by decide +kernel
theorem dX10_use_26 : decode cX10_use 26 = .ok (.aload_n 0, 1) := by decide +kernel
theorem dX10_use_27 : decode cX10_use 27 = .ok (.getfield 7, 3) := by decide +kernel
theorem dX10_use_30 : decode cX10_use 30 = .ok (.iconst 3, 1) := by decide +kernel
theorem dX10_use_31 : decode cX10_use 31 = .ok (.iaload, 1) := by decide +kernel
theorem dX10_use_32 : decode cX10_use 32 = .ok (.i2d, 1) := by decide +kernel
theorem dX10_use_33 : decode cX10_use 33 = .ok (.ddiv, 1) := by decide +kernel
theorem dX10_use_34 : decode cX10_use 34 = .ok (.dreturn, 1) := by decide +kernel
theorem dX10_waitOf_0 : decode cX10_waitOf 0 = .ok (.iload_n 1, 1) := by decide +kernel
theorem dX10_waitOf_1 : decode cX10_waitOf 1 = .ok (.i2l, 1) := by decide +kernel
theorem dX10_waitOf_2 : decode cX10_waitOf 2 = .ok (.lconst 0, 1) := by decide +kernel
theorem dX10_waitOf_3 : decode cX10_waitOf 3 = .ok (.aload_n 0, 1) := by decide +kernel
theorem dX10_waitOf_4 : decode cX10_waitOf 4 = .ok (.getfield 7, 3) := by decide +kernel
theorem dX10_waitOf_7 : decode cX10_waitOf 7 = .ok (.iconst 5, 1) := by decide +kernel
theorem dX10_waitOf_8 : decode cX10_waitOf 8 = .ok (.iaload, 1) := by decide +kernel
theorem dX10_waitOf_9 : decode cX10_waitOf 9 = .ok (.i2l, 1) := by decide +kernel
theorem dX10_waitOf_10 : decode cX10_waitOf 10 = .ok (.lconst 1, 1) := by decide +kernel
theorem dX10_waitOf_11 : decode cX10_waitOf 11 = .ok (.lsub, 1) := by decide +kernel
theorem dX10_waitOf_12 : decode cX10_waitOf 12 = .ok (.invokestatic 35, 3) := by decide +kernel
theorem dX10_waitOf_15 : decode cX10_waitOf 15 = .ok (.istore_n 2, 1) := by decide +kernel
theorem dX10_waitOf_16 : decode cX10_waitOf 16 = .ok (.aload_n 0, 1) := by decide +kernel
theorem dX10_waitOf_17 : decode cX10_waitOf 17 = .ok (.iload_n 2, 1) := by decide +kernel
theorem dX10_waitOf_18 : decode cX10_waitOf 18 = .ok (.iload_n 2, 1) := by decide +kernel
theorem dX10_waitOf_19 : decode cX10_waitOf 19 = .ok (.ifCond .eq 28, 3) := by decide +kernel
theorem dX10_waitOf_22 : decode cX10_waitOf 22 = .ok (.aload_n 0, 1) := by decide +kernel
theorem dX10_waitOf_23 : decode cX10_waitOf 23 = .ok (.iload_n 1, 1) := by decide +kernel
theorem dX10_waitOf_24 : decode cX10_waitOf 24 = .ok (.iconst 4, 1) := by decide +kernel
theorem dX10_waitOf_25 : decode cX10_waitOf 25 = .ok (.invokevirtual 80, 3) := by decide +kernel
theorem dX10_waitOf_28 : decode cX10_waitOf 28 = .ok (.iconst (-1), 1) := by decide +kernel
theorem dX10_waitOf_29 : decode cX10_waitOf 29 = .ok (.if_icmp .ne 18, 3) := by decide +kernel
theorem dX10_waitOf_32 : decode cX10_waitOf 32 = .ok (.aload_n 0, 1) := by decide +kernel
theorem dX10_waitOf_33 : decode cX10_waitOf 33 = .ok (.getfield 7, 3) := by decide +kernel
theorem dX10_waitOf_36 : decode cX10_waitOf 36 = .ok (.iconst 3, 1) := by decide +kernel
theorem dX10_waitOf_37 : decode cX10_waitOf 37 = .ok (.iaload, 1) := by decide +kernel
theorem dX10_waitOf_38 : decode cX10_waitOf 38 = .ok (.ldc 118, 2) := by decide +kernel
theorem dX10_waitOf_40 : decode cX10_waitOf 40 = .ok (.if_icmp .gt 7, 3) := by decide +kernel
theorem dX10_waitOf_43 : decode cX10_waitOf 43 = .ok (.iconst 1, 1) := by decide +kernel
theorem dX10_waitOf_44 : decode cX10_waitOf 44 = .ok (.goto 4, 3) := by decide +kernel
theorem dX10_waitOf_47 : decode cX10_waitOf 47 = .ok (.iconst 0, 1) := by decide +kernel
theorem dX10_waitOf_48 : decode cX10_waitOf 48 = .ok (.iconst 1, 1) := by decide +kernel
theorem dX10_waitOf_49 : decode cX10_waitOf 49 = .ok (.invokevirtual 53, 3) := by decide +kernel
theorem dX10_waitOf_52 : decode cX10_waitOf 52 = .ok (.ifCond .ne 5, 3) := by decide +kernel
theorem dX10_waitOf_55 : decode cX10_waitOf 55 = .ok (.iconst 0, 1) := by decide +kernel
theorem dX10_waitOf_56 : decode cX10_waitOf 56 = .ok (.ireturn, 1) := by decide +kernel
theorem dX10_waitOf_57 : decode cX10_waitOf 57 = .ok (.aload_n 0, 1) := by decide +kernel
theorem dX10_waitOf_58 : decode cX10_waitOf 58 = .ok (.invokevirtual 143, 3) := by decide +kernel
theorem dX10_waitOf_61 : decode cX10_waitOf 61 = .ok (.iconst 0, 1) := by decide +kernel
theorem dX10_waitOf_62 : decode cX10_waitOf 62 = .ok (.istore_n 3, 1) := by decide +kernel
theorem dX10_waitOf_63 : decode cX10_waitOf 63 = .ok (.iload_n 3, 1) := by decide +kernel
theorem dX10_waitOf_64 : decode cX10_waitOf 64 = .ok (.sipush 300, 3) := by decide +kernel
theorem dX10_waitOf_67 : decode cX10_waitOf 67 = .ok (.if_icmp .ge 23, 3) := by decide +kernel
theorem dX10_waitOf_70 : decode cX10_waitOf 70 = .ok (.aload_n 0, 1) := by decide +kernel
theorem dX10_waitOf_71 : decode cX10_waitOf 71 = .ok (.iload_n 1, 1) := by decide +kernel
theorem dX10_waitOf_72 : decode cX10_waitOf 72 = .ok (.iconst 4, 1) := by decide +kernel
theorem dX10_waitOf_73 : decode cX10_waitOf 73 = .ok (.invokevirtual 80, 3) := by decide +kernel
theorem dX10_waitOf_76 : decode cX10_waitOf 76 = .ok (.iconst (-1), 1) := by decide +kernel
theorem dX10_waitOf_77 : decode cX10_waitOf 77 = .ok (.if_icmp .ne 13, 3) := by decide +kernel
theorem dX10_waitOf_80 : decode cX10_waitOf 80 = .ok (.aload_n 0, 1) := by decide +kernel
theorem dX10_waitOf_81 : decode cX10_waitOf 81 = .ok (.invokevirtual 119, 3) := by decide +kernel
theorem dX10_waitOf_84 : decode cX10_waitOf 84 = .ok (.iinc 3 1, 3) := by decide +kernel
theorem dX10_waitOf_87 : decode cX10_waitOf 87 = .ok (.goto (-24), 3) := by decide +kernel
theorem dX10_waitOf_90 : decode cX10_waitOf 90 = .ok (.aload_n 0, 1) := by decide +kernel
theorem dX10_waitOf_91 : decode cX10_waitOf 91 = .ok (.iload_n 1, 1) := by decide +kernel
theorem dX10_waitOf_92 : decode cX10_waitOf 92 = .ok (.iconst 4, 1) := by decide +kernel
theorem dX10_waitOf_93 : decode cX10_waitOf 93 = .ok (.invokevirtual 80, 3) := by decide +kernel
theorem dX10_waitOf_96 : decode cX10_waitOf 96 = .ok (.istore_n 3, 1) := by decide +kernel
theorem dX10_waitOf_97 : decode cX10_waitOf 97 = .ok (.aload_n 0, 1) := by decide +kernel
theorem dX10_waitOf_98 : decode cX10_waitOf 98 = .ok (.invokevirtual 146, 3) := by decide +kernel
theorem dX10_waitOf_101 : decode cX10_waitOf 101 = .ok (.iload_n 3, 1) := by decide +kernel
theorem dX10_waitOf_102 : decode cX10_waitOf 102 = .ok (.ireturn, 1) := by decide +kernel
theorem dX10_isComplete_0 : decode cX10_isComplete 0 = .ok (.iconst 1, 1) := by decide +kernel
theorem dX10_isComplete_1 : decode cX10_isComplete 1 = .ok (.istore_n 1, 1) := by decide +kernel
theorem dX10_isComplete_2 : decode cX10_isComplete 2 = .ok (.iconst 0, 1) := by decide +kernel
theorem dX10_isComplete_3 : decode cX10_isComplete 3 = .ok (.istore_n 2, 1) := by decide +kernel
theorem dX10_isComplete_4 : decode cX10_isComplete 4 = .ok (.iload_n 2, 1) := by decide +kernel
theorem dX10_isComplete_5 : decode cX10_isComplete 5 = .ok (.bipush 32, 2) := by decide +kernel
theorem dX10_isComplete_7 : decode cX10_isComplete 7 = .ok (.if_icmp .ge 47, 3) := by decide +kernel
theorem dX10_isComplete_10 : decode cX10_isComplete 10 = .ok (.iload_n 1, 1) := by decide +kernel
theorem dX10_isComplete_11 : decode cX10_isComplete 11 = .ok (.ifCond .eq 35, 3) := by decide +kernel
theorem dX10_isComplete_14 : decode cX10_isComplete 14 = .ok (.aload_n 0, 1) := by decide +kernel
theorem dX10_isComplete_15 : decode cX10_isComplete 15 = .ok (.iload_n 2, 1) := by decide +kernel
theorem dX10_isComplete_16 : decode cX10_isComplete 16 = .ok (.iconst 0, 1) := by decide +kernel
theorem dX10_isComplete_17 : decode cX10_isComplete 17 = .ok (.invokevirtual 39, 3) := by decide +kernel
theorem dX10_isComplete_20 : decode cX10_isComplete 20 = .ok (.ifCond .eq 22, 3) := by decide +kernel
theorem dX10_isComplete_23 : decode cX10_isComplete 23 = .ok (.aload_n 0, 1) := by decide +kernel
theorem dX10_isComplete_24 : decode cX10_isComplete 24 = .ok (.iload_n 2, 1) := by decide +kernel
theorem dX10_isComplete_25 : decode cX10_isComplete 25 = .ok (.iconst 1, 1) := by decide +kernel
theorem dX10_isComplete_26 : decode cX10_isComplete 26 = .ok (.invokevirtual 39, 3) := by decide +kernel
theorem dX10_isComplete_29 : decode cX10_isComplete 29 = .ok (.ifCond .eq 13, 3) := by decide +kernel
theorem dX10_isComplete_32 : decode cX10_isComplete 32 = .ok (.aload_n 0, 1) := by decide +kernel
theorem dX10_isComplete_33 : decode cX10_isComplete 33 = .ok (.iload_n 2, 1) := by decide +kernel
theorem dX10_isComplete_34 : decode cX10_isComplete 34 = .ok (.iconst 2, 1) := by decide +kernel
theorem dX10_isComplete_35 : decode cX10_isComplete 35 = .ok (.invokevirtual 39, 3) := by decide +kernel
theorem dX10_isComplete_38 : decode cX10_isComplete 38 = .ok (.iconst 1, 1) := by decide +kernel
theorem dX10_isComplete_39 : decode cX10_isComplete 39 = .ok (.if_icmp .ne 7, 3) := by decide +kernel
theorem dX10_isComplete_42 : decode cX10_isComplete 42 = .ok (.iconst 1, 1) := by decide +kernel
theorem dX10_isComplete_43 : decode cX10_isComplete 43 = .ok (.goto 4, 3) := by decide +kernel
theorem dX10_isComplete_46 : decode cX10_isComplete 46 = .ok (.iconst 0, 1) := by decide +kernel
theorem dX10_isComplete_47 : decode cX10_isComplete 47 = .ok (.istore_n 1, 1) := by decide +kernel
theorem dX10_isComplete_48 : decode cX10_isComplete 48 = .ok (.iinc 2 1, 3) := by decide +kernel
theorem dX10_isComplete_51 : decode cX10_isComplete 51 = .ok (.goto (-47), 3) := by decide +kernel
theorem dX10_isComplete_54 : decode cX10_isComplete 54 = .ok (.iload_n 1, 1) := by decide +kernel
theorem dX10_isComplete_55 : decode cX10_isComplete 55 = .ok (.ireturn, 1) := by decide +kernel
theorem dX10_completeAfter_0 : decode cX10_completeAfter 0 = .ok (.aload_n 0, 1) := by decide +kernel
theorem dX10_completeAfter_1 : decode cX10_completeAfter 1 = .ok (.aload_n 0, 1) := by decide +kernel
theorem dX10_completeAfter_2 : decode cX10_completeAfter 2 = .ok (.getfield 7, 3) := by decide +kernel
theorem dX10_completeAfter_5 : decode cX10_completeAfter 5 = .ok (.iconst 3, 1) := by decide +kernel
theorem dX10_completeAfter_6 : decode cX10_completeAfter 6 = .ok (.iaload, 1) := by decide +kernel
theorem dX10_completeAfter_7 : decode cX10_completeAfter 7 = .ok (.ldc 118, 2) := by decide +kernel
theorem dX10_completeAfter_9 : decode cX10_completeAfter 9 = .ok (.if_icmp .gt 7, 3) := by decide +kernel
theorem dX10_completeAfter_12 : decode cX10_completeAfter 12 = .ok (.iconst 1, 1) := by decide +kernel
theorem dX10_completeAfter_13 : decode cX10_completeAfter 13 = .ok (.goto 4, 3) := by decide +kernel
theorem dX10_completeAfter_16 : decode cX10_completeAfter 16 = .ok (.iconst 0, 1) := by decide +kernel
theorem dX10_completeAfter_17 : decode cX10_completeAfter 17 = .ok (.iconst 1, 1) := by decide +kernel
theorem dX10_completeAfter_18 : decode cX10_completeAfter 18 = .ok (.iconst 1, 1) := by decide +kernel
theorem dX10_completeAfter_19 : decode cX10_completeAfter 19 = .ok (.invokevirtual 53, 3) := by decide +kernel
theorem dX10_completeAfter_22 : decode cX10_completeAfter 22 = .ok (.ifCond .ne 5, 3) := by decide +kernel
theorem dX10_completeAfter_25 : decode cX10_completeAfter 25 = .ok (.iconst 0, 1) := by decide +kernel
theorem dX10_completeAfter_26 : decode cX10_completeAfter 26 = .ok (.ireturn, 1) := by decide +kernel
theorem dX10_completeAfter_27 : decode cX10_completeAfter 27 = .ok (.aload_n 0, 1) := by decide +kernel
theorem dX10_completeAfter_28 : decode cX10_completeAfter 28 = .ok (.invokevirtual 143, 3) := by decide +kernel
theorem dX10_completeAfter_31 : decode cX10_completeAfter 31 = .ok (.iconst 0, 1) := by decide +kernel
theorem dX10_completeAfter_32 : decode cX10_completeAfter 32 = .ok (.istore_n 1, 1) := by decide +kernel
theorem dX10_completeAfter_33 : decode cX10_completeAfter 33 = .ok (.iload_n 1, 1) := by decide +kernel
theorem dX10_completeAfter_34 : decode cX10_completeAfter 34 = .ok (.sipush 300, 3) := by decide +kernel
theorem dX10_completeAfter_37 : decode cX10_completeAfter 37 = .ok (.if_icmp .ge 20, 3) := by decide +kernel
theorem dX10_completeAfter_40 : decode cX10_completeAfter 40 = .ok (.aload_n 0, 1) := by decide +kernel
theorem dX10_completeAfter_41 : decode cX10_completeAfter 41 = .ok (.invokevirtual 149, 3) := by decide +kernel
theorem dX10_completeAfter_44 : decode cX10_completeAfter 44 = .ok (.ifCond .ne 13, 3) := by decide +kernel
theorem dX10_completeAfter_47 : decode cX10_completeAfter 47 = .ok (.aload_n 0, 1) := by decide +kernel
theorem dX10_completeAfter_48 : decode cX10_completeAfter 48 = .ok (.invokevirtual 119, 3) := by decide +kernel
theorem dX10_completeAfter_51 : decode cX10_completeAfter 51 = .ok (.iinc 1 1, 3) := by decide +kernel
theorem dX10_completeAfter_54 : decode cX10_completeAfter 54 = .ok (.goto (-21), 3) := by decide +kernel
theorem dX10_completeAfter_57 : decode cX10_completeAfter 57 = .ok (.aload_n 0, 1) := by decide +kernel
theorem dX10_completeAfter_58 : decode cX10_completeAfter 58 = .ok (.invokevirtual 149, 3) := by decide +kernel
theorem dX10_completeAfter_61 : decode cX10_completeAfter 61 = .ok (.ifCond .eq 7, 3) := by decide +kernel
theorem dX10_completeAfter_64 : decode cX10_completeAfter 64 = .ok (.iload_n 1, 1) := by decide +kernel
theorem dX10_completeAfter_65 : decode cX10_completeAfter 65 = .ok (.goto 4, 3) := by decide +kernel
theorem dX10_completeAfter_68 : decode cX10_completeAfter 68 = .ok (.iconst (-1), 1) := by decide +kernel
theorem dX10_completeAfter_69 : decode cX10_completeAfter 69 = .ok (.istore_n 1, 1) := by decide +kernel
theorem dX10_completeAfter_70 : decode cX10_completeAfter 70 = .ok (.aload_n 0, 1) := by decide +kernel
theorem dX10_completeAfter_71 : decode cX10_completeAfter 71 = .ok (.invokevirtual 146, 3) := by decide +kernel
theorem dX10_completeAfter_74 : decode cX10_completeAfter 74 = .ok (.iload_n 1, 1) := by decide +kernel
theorem dX10_completeAfter_75 : decode cX10_completeAfter 75 = .ok (.ireturn, 1) := by decide +kernel
theorem dX10_waiting_0 : decode cX10_waiting 0 = .ok (.iconst 0, 1) := by decide +kernel
theorem dX10_waiting_1 : decode cX10_waiting 1 = .ok (.istore_n 1, 1) := by decide +kernel
theorem dX10_waiting_2 : decode cX10_waiting 2 = .ok (.iconst 0, 1) := by decide +kernel
theorem dX10_waiting_3 : decode cX10_waiting 3 = .ok (.istore_n 2, 1) := by decide +kernel
theorem dX10_waiting_4 : decode cX10_waiting 4 = .ok (.iload_n 2, 1) := by decide +kernel
theorem dX10_waiting_5 : decode cX10_waiting 5 = .ok (.bipush 32, 2) := by decide +kernel
theorem dX10_waiting_7 : decode cX10_waiting 7 = .ok (.if_icmp .ge 41, 3) := by decide +kernel
theorem dX10_waiting_10 : decode cX10_waiting 10 = .ok (.iload_n 1, 1) := by decide +kernel
theorem dX10_waiting_11 : decode cX10_waiting 11 = .ok (.aload_n 0, 1) := by decide +kernel
theorem dX10_waiting_12 : decode cX10_waiting 12 = .ok (.iload_n 2, 1) := by decide +kernel
theorem dX10_waiting_13 : decode cX10_waiting 13 = .ok (.iconst 0, 1) := by decide +kernel
theorem dX10_waiting_14 : decode cX10_waiting 14 = .ok (.invokevirtual 39, 3) := by decide +kernel
theorem dX10_waiting_17 : decode cX10_waiting 17 = .ok (.iconst 1, 1) := by decide +kernel
theorem dX10_waiting_18 : decode cX10_waiting 18 = .ok (.if_icmp .ne 21, 3) := by decide +kernel
theorem dX10_waiting_21 : decode cX10_waiting 21 = .ok (.aload_n 0, 1) := by decide +kernel
theorem dX10_waiting_22 : decode cX10_waiting 22 = .ok (.iload_n 2, 1) := by decide +kernel
theorem dX10_waiting_23 : decode cX10_waiting 23 = .ok (.iconst 1, 1) := by decide +kernel
theorem dX10_waiting_24 : decode cX10_waiting 24 = .ok (.invokevirtual 39, 3) := by decide +kernel
theorem dX10_waiting_27 : decode cX10_waiting 27 = .ok (.iconst 1, 1) := by decide +kernel
theorem dX10_waiting_28 : decode cX10_waiting 28 = .ok (.if_icmp .ne 11, 3) := by decide +kernel
theorem dX10_waiting_31 : decode cX10_waiting 31 = .ok (.aload_n 0, 1) := by decide +kernel
theorem dX10_waiting_32 : decode cX10_waiting 32 = .ok (.iload_n 2, 1) := by decide +kernel
theorem dX10_waiting_33 : decode cX10_waiting 33 = .ok (.invokevirtual 131, 3) := by decide +kernel
theorem dX10_waiting_36 : decode cX10_waiting 36 = .ok (.goto 4, 3) := by decide +kernel
theorem dX10_waiting_39 : decode cX10_waiting 39 = .ok (.iconst 0, 1) := by decide +kernel
theorem dX10_waiting_40 : decode cX10_waiting 40 = .ok (.iadd, 1) := by decide +kernel
theorem dX10_waiting_41 : decode cX10_waiting 41 = .ok (.istore_n 1, 1) := by decide +kernel
theorem dX10_waiting_42 : decode cX10_waiting 42 = .ok (.iinc 2 1, 3) := by decide +kernel
theorem dX10_waiting_45 : decode cX10_waiting 45 = .ok (.goto (-41), 3) := by decide +kernel
theorem dX10_waiting_48 : decode cX10_waiting 48 = .ok (.iload_n 1, 1) := by decide +kernel
theorem dX10_waiting_49 : decode cX10_waiting 49 = .ok (.ireturn, 1) := by decide +kernel
theorem dX10_leastTarget_0 : decode cX10_leastTarget 0 = .ok (.aload_n 0, 1) := by decide +kernel
theorem dX10_leastTarget_1 : decode cX10_leastTarget 1 = .ok (.iload_n 1, 1) := by decide +kernel
theorem dX10_leastTarget_2 : decode cX10_leastTarget 2 = .ok (.i2l, 1) := by decide +kernel
theorem dX10_leastTarget_3 : decode cX10_leastTarget 3 = .ok (.lconst 0, 1) := by decide +kernel
theorem dX10_leastTarget_4 : decode cX10_leastTarget 4 = .ok (.ldc2_w 152, 3) := by decide +kernel
theorem dX10_leastTarget_7 : decode cX10_leastTarget 7 = .ok (.invokestatic 35, 3) := by decide +kernel
theorem dX10_leastTarget_10 : decode cX10_leastTarget 10 = .ok (.aload_n 0, 1) := by decide +kernel
theorem dX10_leastTarget_11 : decode cX10_leastTarget 11 = .ok (.getfield 7, 3) := by decide +kernel
theorem dX10_leastTarget_14 : decode cX10_leastTarget 14 = .ok (.iconst 3, 1) := by decide +kernel
theorem dX10_leastTarget_15 : decode cX10_leastTarget 15 = .ok (.iaload, 1) := by decide +kernel
theorem dX10_leastTarget_16 : decode cX10_leastTarget 16 = .ok (.ldc 118, 2) := by decide +kernel
theorem dX10_leastTarget_18 : decode cX10_leastTarget 18 = .ok (.if_icmp .gt 7, 3) := by decide +kernel
theorem dX10_leastTarget_21 : decode cX10_leastTarget 21 = .ok (.iconst 1, 1) := by decide +kernel
theorem dX10_leastTarget_22 : decode cX10_leastTarget 22 = .ok (.goto 4, 3) := by decide +kernel
theorem dX10_leastTarget_25 : decode cX10_leastTarget 25 = .ok (.iconst 0, 1) := by decide +kernel
theorem dX10_leastTarget_26 : decode cX10_leastTarget 26 = .ok (.iconst 1, 1) := by decide +kernel
theorem dX10_leastTarget_27 : decode cX10_leastTarget 27 = .ok (.invokevirtual 53, 3) := by decide +kernel
theorem dX10_leastTarget_30 : decode cX10_leastTarget 30 = .ok (.ifCond .ne 5, 3) := by decide +kernel
theorem dX10_leastTarget_33 : decode cX10_leastTarget 33 = .ok (.iconst 0, 1) := by decide +kernel
theorem dX10_leastTarget_34 : decode cX10_leastTarget 34 = .ok (.ireturn, 1) := by decide +kernel
theorem dX10_leastTarget_35 : decode cX10_leastTarget 35 = .ok (.aload_n 0, 1) := by decide +kernel
theorem dX10_leastTarget_36 : decode cX10_leastTarget 36 = .ok (.invokevirtual 143, 3) := by decide +kernel
theorem dX10_leastTarget_39 : decode cX10_leastTarget 39 = .ok (.bipush 20, 2) := by decide +kernel
theorem dX10_leastTarget_41 : decode cX10_leastTarget 41 = .ok (.istore_n 2, 1) := by decide +kernel
theorem dX10_leastTarget_42 : decode cX10_leastTarget 42 = .ok (.iload_n 2, 1) := by decide +kernel
theorem dX10_leastTarget_43 : decode cX10_leastTarget 43 = .ok (.sipush 400, 3) := by decide +kernel
theorem dX10_leastTarget_46 : decode cX10_leastTarget 46 = .ok (.if_icmp .gt 55, 3) := by decide +kernel
theorem dX10_leastTarget_49 : decode cX10_leastTarget 49 = .ok (.aload_n 0, 1) := by decide +kernel
theorem dX10_leastTarget_50 : decode cX10_leastTarget 50 = .ok (.getfield 7, 3) := by decide +kernel
theorem dX10_leastTarget_53 : decode cX10_leastTarget 53 = .ok (.iconst 0, 1) := by decide +kernel
theorem dX10_leastTarget_54 : decode cX10_leastTarget 54 = .ok (.iload_n 2, 1) := by decide +kernel
theorem dX10_leastTarget_55 : decode cX10_leastTarget 55 = .ok (.iastore, 1) := by decide +kernel
theorem dX10_leastTarget_56 : decode cX10_leastTarget 56 = .ok (.iconst 0, 1) := by decide +kernel
theorem dX10_leastTarget_57 : decode cX10_leastTarget 57 = .ok (.istore_n 3, 1) := by decide +kernel
theorem dX10_leastTarget_58 : decode cX10_leastTarget 58 = .ok (.iload_n 3, 1) := by decide +kernel
theorem dX10_leastTarget_59 : decode cX10_leastTarget 59 = .ok (.iload_n 1, 1) := by decide +kernel
theorem dX10_leastTarget_60 : decode cX10_leastTarget 60 = .ok (.if_icmp .ge 20, 3) := by decide +kernel
theorem dX10_leastTarget_63 : decode cX10_leastTarget 63 = .ok (.aload_n 0, 1) := by decide +kernel
theorem dX10_leastTarget_64 : decode cX10_leastTarget 64 = .ok (.invokevirtual 154, 3) := by decide +kernel
theorem dX10_leastTarget_67 : decode cX10_leastTarget 67 = .ok (.ifCond .le 13, 3) := by decide +kernel
theorem dX10_leastTarget_70 : decode cX10_leastTarget 70 = .ok (.aload_n 0, 1) := by decide +kernel
theorem dX10_leastTarget_71 : decode cX10_leastTarget 71 = .ok (.invokevirtual 119, 3) := by decide +kernel
theorem dX10_leastTarget_74 : decode cX10_leastTarget 74 = .ok (.iinc 3 1, 3) := by decide +kernel
theorem dX10_leastTarget_77 : decode cX10_leastTarget 77 = .ok (.goto (-19), 3) := by decide +kernel
theorem dX10_leastTarget_80 : decode cX10_leastTarget 80 = .ok (.aload_n 0, 1) := by decide +kernel
theorem dX10_leastTarget_81 : decode cX10_leastTarget 81 = .ok (.invokevirtual 154, 3) := by decide +kernel
theorem dX10_leastTarget_84 : decode cX10_leastTarget 84 = .ok (.istore_n 3, 1) := by decide +kernel
theorem dX10_leastTarget_85 : decode cX10_leastTarget 85 = .ok (.aload_n 0, 1) := by decide +kernel
theorem dX10_leastTarget_86 : decode cX10_leastTarget 86 = .ok (.invokevirtual 146, 3) := by decide +kernel
theorem dX10_leastTarget_89 : decode cX10_leastTarget 89 = .ok (.iload_n 3, 1) := by decide +kernel
theorem dX10_leastTarget_90 : decode cX10_leastTarget 90 = .ok (.ifCond .ne 5, 3) := by decide +kernel
theorem dX10_leastTarget_93 : decode cX10_leastTarget 93 = .ok (.iload_n 2, 1) := by decide +kernel
theorem dX10_leastTarget_94 : decode cX10_leastTarget 94 = .ok (.ireturn, 1) := by decide +kernel
theorem dX10_leastTarget_95 : decode cX10_leastTarget 95 = .ok (.iinc 2 20, 3) := by decide +kernel
theorem dX10_leastTarget_98 : decode cX10_leastTarget 98 = .ok (.goto (-56), 3) := by decide +kernel
theorem dX10_leastTarget_101 : decode cX10_leastTarget 101 = .ok (.iconst (-1), 1) := by decide +kernel
theorem dX10_leastTarget_102 : decode cX10_leastTarget 102 = .ok (.ireturn, 1) := by decide +kernel
theorem dX10_append_0 : decode cX10_append 0 = .ok (.aload_n 0, 1) := by decide +kernel
theorem dX10_append_1 : decode cX10_append 1 = .ok (.iload_n 1, 1) := by decide +kernel
theorem dX10_append_2 : decode cX10_append 2 = .ok (.i2l, 1) := by decide +kernel
theorem dX10_append_3 : decode cX10_append 3 = .ok (.lconst 0, 1) := by decide +kernel
theorem dX10_append_4 : decode cX10_append 4 = .ok (.ldc2_w 157, 3) := by decide +kernel
theorem dX10_append_7 : decode cX10_append 7 = .ok (.invokestatic 35, 3) := by decide +kernel
theorem dX10_append_10 : decode cX10_append 10 = .ok (.aload_n 0, 1) := by decide +kernel
theorem dX10_append_11 : decode cX10_append 11 = .ok (.getfield 159, 3) := by decide +kernel
theorem dX10_append_14 : decode cX10_append 14 = .ok (.bipush 120, 2) := by decide +kernel
theorem dX10_append_16 : decode cX10_append 16 = .ok (.if_icmp .ge 7, 3) := by decide +kernel
theorem dX10_append_19 : decode cX10_append 19 = .ok (.iconst 1, 1) := by decide +kernel
theorem dX10_append_20 : decode cX10_append 20 = .ok (.goto 4, 3) := by decide +kernel
theorem dX10_append_23 : decode cX10_append 23 = .ok (.iconst 0, 1) := by decide +kernel
theorem dX10_append_24 : decode cX10_append 24 = .ok (.iconst 1, 1) := by decide +kernel
theorem dX10_append_25 : decode cX10_append 25 = .ok (.invokevirtual 53, 3) := by decide +kernel
theorem dX10_append_28 : decode cX10_append 28 = .ok (.ifCond .ne 5, 3) := by decide +kernel
theorem dX10_append_31 : decode cX10_append 31 = .ok (.iconst 0, 1) := by decide +kernel
theorem dX10_append_32 : decode cX10_append 32 = .ok (.ireturn, 1) := by decide +kernel
theorem dX10_append_33 : decode cX10_append 33 = .ok (.aload_n 0, 1) := by decide +kernel
theorem dX10_append_34 : decode cX10_append 34 = .ok (.getfield 19, 3) := by decide +kernel
theorem dX10_append_37 : decode cX10_append 37 = .ok (.aload_n 0, 1) := by decide +kernel
theorem dX10_append_38 : decode cX10_append 38 = .ok (.getfield 159, 3) := by decide +kernel
theorem dX10_append_41 : decode cX10_append 41 = .ok (.iload_n 1, 1) := by decide +kernel
theorem dX10_append_42 : decode cX10_append 42 = .ok (.iastore, 1) := by decide +kernel
theorem dX10_append_43 : decode cX10_append 43 = .ok (.aload_n 0, 1) := by decide +kernel
theorem dX10_append_44 : decode cX10_append 44 = .ok (.dup, 1) := by decide +kernel
theorem dX10_append_45 : decode cX10_append 45 = .ok (.getfield 159, 3) := by decide +kernel
theorem dX10_append_48 : decode cX10_append 48 = .ok (.iconst 1, 1) := by decide +kernel
theorem dX10_append_49 : decode cX10_append 49 = .ok (.iadd, 1) := by decide +kernel
theorem dX10_append_50 : decode cX10_append 50 = .ok (.putfield 159, 3) := by decide +kernel
theorem dX10_append_53 : decode cX10_append 53 = .ok (.aload_n 0, 1) := by decide +kernel
theorem dX10_append_54 : decode cX10_append 54 = .ok (.getfield 159, 3) := by decide +kernel
theorem dX10_append_57 : decode cX10_append 57 = .ok (.ireturn, 1) := by decide +kernel
theorem dX10_clearText_0 : decode cX10_clearText 0 = .ok (.aload_n 0, 1) := by decide +kernel
theorem dX10_clearText_1 : decode cX10_clearText 1 = .ok (.iconst 0, 1) := by decide +kernel
theorem dX10_clearText_2 : decode cX10_clearText 2 = .ok (.putfield 22, 3) := by decide +kernel
theorem dX10_clearText_5 : decode cX10_clearText 5 = .ok (.aload_n 0, 1) := by decide +kernel
theorem dX10_clearText_6 : decode cX10_clearText 6 = .ok (.getfield 159, 3) := by decide +kernel
theorem dX10_clearText_9 : decode cX10_clearText 9 = .ok (.istore_n 1, 1) := by decide +kernel
theorem dX10_clearText_10 : decode cX10_clearText 10 = .ok (.aload_n 0, 1) := by decide +kernel
theorem dX10_clearText_11 : decode cX10_clearText 11 = .ok (.iconst 0, 1) := by decide +kernel
theorem dX10_clearText_12 : decode cX10_clearText 12 = .ok (.putfield 159, 3) := by decide +kernel
theorem dX10_clearText_15 : decode cX10_clearText 15 = .ok (.iload_n 1, 1) := by decide +kernel
theorem dX10_clearText_16 : decode cX10_clearText 16 = .ok (.ireturn, 1) := by decide +kernel
theorem dX10_isFigure_0 : decode cX10_isFigure 0 = .ok (.aload_n 0, 1) := by decide +kernel
theorem dX10_isFigure_1 : decode cX10_isFigure 1 = .ok (.getfield 162, 3) := by decide +kernel
theorem dX10_isFigure_4 : decode cX10_isFigure 4 = .ok (.aload_n 0, 1) := by decide +kernel
theorem dX10_isFigure_5 : decode cX10_isFigure 5 = .ok (.getfield 159, 3) := by decide +kernel
theorem dX10_isFigure_8 : decode cX10_isFigure 8 = .ok (.if_icmp .ge 29, 3) := by decide +kernel
theorem dX10_isFigure_11 : decode cX10_isFigure 11 = .ok (.aload_n 0, 1) := by decide +kernel
theorem dX10_isFigure_12 : decode cX10_isFigure 12 = .ok (.getfield 19, 3) := by decide +kernel
theorem dX10_isFigure_15 : decode cX10_isFigure 15 = .ok (.aload_n 0, 1) := by decide +kernel
theorem dX10_isFigure_16 : decode cX10_isFigure 16 = .ok (.getfield 162, 3) := by decide +kernel
theorem dX10_isFigure_19 : decode cX10_isFigure 19 = .ok (.iaload, 1) := by decide +kernel
theorem dX10_isFigure_20 : decode cX10_isFigure 20 = .ok (.i2l, 1) := by decide +kernel
theorem dX10_isFigure_21 : decode cX10_isFigure 21 = .ok (.ldc2_w 165, 3) := by decide +kernel
theorem dX10_isFigure_24 : decode cX10_isFigure 24 = .ok (.ldc2_w 167, 3) := by decide +kernel
theorem dX10_isFigure_27 : decode cX10_isFigure 27 = .ok (.invokestatic 35, 3) := by decide +kernel
theorem dX10_isFigure_30 : decode cX10_isFigure 30 = .ok (.ifCond .eq 7, 3) := by decide +kernel
theorem dX10_isFigure_33 : decode cX10_isFigure 33 = .ok (.iconst 1, 1) := by decide +kernel
theorem dX10_isFigure_34 : decode cX10_isFigure 34 = .ok (.goto 4, 3) := by decide +kernel
theorem dX10_isFigure_37 : decode cX10_isFigure 37 = .ok (.iconst 0, 1) := by decide +kernel
theorem dX10_isFigure_38 : decode cX10_isFigure 38 = .ok (.ireturn, 1) := by decide +kernel
theorem dX10_passesByte_0 : decode cX10_passesByte 0 = .ok (.aload_n 0, 1) := by decide +kernel
theorem dX10_passesByte_1 : decode cX10_passesByte 1 = .ok (.getfield 162, 3) := by decide +kernel
theorem dX10_passesByte_4 : decode cX10_passesByte 4 = .ok (.aload_n 0, 1) := by decide +kernel
theorem dX10_passesByte_5 : decode cX10_passesByte 5 = .ok (.getfield 159, 3) := by decide +kernel
theorem dX10_passesByte_8 : decode cX10_passesByte 8 = .ok (.if_icmp .ge 20, 3) := by decide +kernel
theorem dX10_passesByte_11 : decode cX10_passesByte 11 = .ok (.aload_n 0, 1) := by decide +kernel
theorem dX10_passesByte_12 : decode cX10_passesByte 12 = .ok (.getfield 19, 3) := by decide +kernel
theorem dX10_passesByte_15 : decode cX10_passesByte 15 = .ok (.aload_n 0, 1) := by decide +kernel
theorem dX10_passesByte_16 : decode cX10_passesByte 16 = .ok (.getfield 162, 3) := by decide +kernel
theorem dX10_passesByte_19 : decode cX10_passesByte 19 = .ok (.iaload, 1) := by decide +kernel
theorem dX10_passesByte_20 : decode cX10_passesByte 20 = .ok (.iload_n 1, 1) := by decide +kernel
theorem dX10_passesByte_21 : decode cX10_passesByte 21 = .ok (.if_icmp .ne 7, 3) := by decide +kernel
theorem dX10_passesByte_24 : decode cX10_passesByte 24 = .ok (.iconst 1, 1) := by decide +kernel
theorem dX10_passesByte_25 : decode cX10_passesByte 25 = .ok (.goto 4, 3) := by decide +kernel
theorem dX10_passesByte_28 : decode cX10_passesByte 28 = .ok (.iconst 0, 1) := by decide +kernel
theorem dX10_passesByte_29 : decode cX10_passesByte 29 = .ok (.istore_n 2, 1) := by decide +kernel
theorem dX10_passesByte_30 : decode cX10_passesByte 30 = .ok (.aload_n 0, 1) := by decide +kernel
theorem dX10_passesByte_31 : decode cX10_passesByte 31 = .ok (.dup, 1) := by decide +kernel
theorem dX10_passesByte_32 : decode cX10_passesByte 32 = .ok (.getfield 162, 3) := by decide +kernel
theorem dX10_passesByte_35 : decode cX10_passesByte 35 = .ok (.iload_n 2, 1) := by decide +kernel
theorem dX10_passesByte_36 : decode cX10_passesByte 36 = .ok (.ifCond .eq 7, 3) := by decide +kernel
theorem dX10_passesByte_39 : decode cX10_passesByte 39 = .ok (.iconst 1, 1) := by decide +kernel
theorem dX10_passesByte_40 : decode cX10_passesByte 40 = .ok (.goto 4, 3) := by decide +kernel
theorem dX10_passesByte_43 : decode cX10_passesByte 43 = .ok (.iconst 0, 1) := by decide +kernel
theorem dX10_passesByte_44 : decode cX10_passesByte 44 = .ok (.iadd, 1) := by decide +kernel
theorem dX10_passesByte_45 : decode cX10_passesByte 45 = .ok (.putfield 162, 3) := by decide +kernel
theorem dX10_passesByte_48 : decode cX10_passesByte 48 = .ok (.iload_n 2, 1) := by decide +kernel
theorem dX10_passesByte_49 : decode cX10_passesByte 49 = .ok (.ireturn, 1) := by decide +kernel
theorem dX10_readsNumber_0 : decode cX10_readsNumber 0 = .ok (.aload_n 0, 1) := by decide +kernel
theorem dX10_readsNumber_1 : decode cX10_readsNumber 1 = .ok (.getfield 162, 3) := by decide +kernel
theorem dX10_readsNumber_4 : decode cX10_readsNumber 4 = .ok (.istore_n 1, 1) := by decide +kernel
theorem dX10_readsNumber_5 : decode cX10_readsNumber 5 = .ok (.aload_n 0, 1) := by decide +kernel
theorem dX10_readsNumber_6 : decode cX10_readsNumber 6 = .ok (.iconst 0, 1) := by decide +kernel
theorem dX10_readsNumber_7 : decode cX10_readsNumber 7 = .ok (.putfield 169, 3) := by decide +kernel
theorem dX10_readsNumber_10 : decode cX10_readsNumber 10 = .ok (.aload_n 0, 1) := by decide +kernel
theorem dX10_readsNumber_11 : decode cX10_readsNumber 11 = .ok (.invokevirtual 172, 3) := by decide +kernel
theorem dX10_readsNumber_14 : decode cX10_readsNumber 14 = .ok (.ifCond .eq 50, 3) := by decide +kernel
theorem dX10_readsNumber_17 : decode cX10_readsNumber 17 = .ok (.aload_n 0, 1) := by decide +kernel
theorem dX10_readsNumber_18 : decode cX10_readsNumber 18 = .ok (.getfield 162, 3) := by decide +kernel
theorem dX10_readsNumber_21 : decode cX10_readsNumber 21 = .ok (.iload_n 1, 1) := by decide +kernel
theorem dX10_readsNumber_22 : decode cX10_readsNumber 22 = .ok (.iconst 2, 1) := by decide +kernel
theorem dX10_readsNumber_23 : decode cX10_readsNumber 23 = .ok (.iadd, 1) := by decide +kernel
theorem dX10_readsNumber_24 : decode cX10_readsNumber 24 = .ok (.if_icmp .ge 40, 3) := by decide +kernel
theorem dX10_readsNumber_27 : decode cX10_readsNumber 27 = .ok (.aload_n 0, 1) := by decide +kernel
theorem dX10_readsNumber_28 : decode cX10_readsNumber 28 = .ok (.bipush 10, 2) := by decide +kernel
theorem dX10_readsNumber_30 : decode cX10_readsNumber 30 = .ok (.aload_n 0, 1) := by decide +kernel
theorem dX10_readsNumber_31 : decode cX10_readsNumber 31 = .ok (.getfield 169, 3) := by decide +kernel
theorem dX10_readsNumber_34 : decode cX10_readsNumber 34 = .ok (.imul, 1) := by decide +kernel
theorem dX10_readsNumber_35 : decode cX10_readsNumber 35 = .ok (.aload_n 0, 1) := by decide +kernel
theorem dX10_readsNumber_36 : decode cX10_readsNumber 36 = .ok (.getfield 19, 3) := by decide +kernel
theorem dX10_readsNumber_39 : decode cX10_readsNumber 39 = .ok (.aload_n 0, 1) := by decide +kernel
theorem dX10_readsNumber_40 : decode cX10_readsNumber 40 = .ok (.getfield 162, 3) := by decide +kernel
theorem dX10_readsNumber_43 : decode cX10_readsNumber 43 = .ok (.iaload, 1) := by decide +kernel
theorem dX10_readsNumber_44 : decode cX10_readsNumber 44 = .ok (.iadd, 1) := by decide +kernel
theorem dX10_readsNumber_45 : decode cX10_readsNumber 45 = .ok (.bipush 48, 2) := by decide +kernel
theorem dX10_readsNumber_47 : decode cX10_readsNumber 47 = .ok (.isub, 1) := by decide +kernel
theorem dX10_readsNumber_48 : decode cX10_readsNumber 48 = .ok (.putfield 169, 3) := by decide +kernel
theorem dX10_readsNumber_51 : decode cX10_readsNumber 51 = .ok (.aload_n 0, 1) := by decide +kernel
theorem dX10_readsNumber_52 : decode cX10_readsNumber 52 = .ok (.dup, 1) := by decide +kernel
theorem dX10_readsNumber_53 : decode cX10_readsNumber 53 = .ok (.getfield 162, 3) := by decide +kernel
theorem dX10_readsNumber_56 : decode cX10_readsNumber 56 = .ok (.iconst 1, 1) := by decide +kernel
theorem dX10_readsNumber_57 : decode cX10_readsNumber 57 = .ok (.iadd, 1) := by decide +kernel
theorem dX10_readsNumber_58 : decode cX10_readsNumber 58 = .ok (.putfield 162, 3) := by decide +kernel
theorem dX10_readsNumber_61 : decode cX10_readsNumber 61 = .ok (.goto (-51), 3) := by decide +kernel
theorem dX10_readsNumber_64 : decode cX10_readsNumber 64 = .ok (.aload_n 0, 1) := by decide +kernel
theorem dX10_readsNumber_65 : decode cX10_readsNumber 65 = .ok (.getfield 162, 3) := by decide +kernel
theorem dX10_readsNumber_68 : decode cX10_readsNumber 68 = .ok (.iload_n 1, 1) := by decide +kernel
theorem dX10_readsNumber_69 : decode cX10_readsNumber 69 = .ok (.if_icmp .le 14, 3) := by decide +kernel
theorem dX10_readsNumber_72 : decode cX10_readsNumber 72 = .ok (.aload_n 0, 1) := by decide +kernel
theorem dX10_readsNumber_73 : decode cX10_readsNumber 73 = .ok (.invokevirtual 172, 3) := by decide +kernel
theorem dX10_readsNumber_76 : decode cX10_readsNumber 76 = .ok (.ifCond .ne 7, 3) := by decide +kernel
theorem dX10_readsNumber_79 : decode cX10_readsNumber 79 = .ok (.iconst 1, 1) := by decide +kernel
theorem dX10_readsNumber_80 : decode cX10_readsNumber 80 = .ok (.goto 4, 3) := by decide +kernel
theorem dX10_readsNumber_83 : decode cX10_readsNumber 83 = .ok (.iconst 0, 1) := by decide +kernel
theorem dX10_readsNumber_84 : decode cX10_readsNumber 84 = .ok (.ireturn, 1) := by decide +kernel
theorem dX10_readsItem_0 : decode cX10_readsItem 0 = .ok (.aload_n 0, 1) := by decide +kernel
theorem dX10_readsItem_1 : decode cX10_readsItem 1 = .ok (.getfield 162, 3) := by decide +kernel
theorem dX10_readsItem_4 : decode cX10_readsItem 4 = .ok (.iconst 1, 1) := by decide +kernel
theorem dX10_readsItem_5 : decode cX10_readsItem 5 = .ok (.iadd, 1) := by decide +kernel
theorem dX10_readsItem_6 : decode cX10_readsItem 6 = .ok (.istore_n 1, 1) := by decide +kernel
theorem dX10_readsItem_7 : decode cX10_readsItem 7 = .ok (.aload_n 0, 1) := by decide +kernel
theorem dX10_readsItem_8 : decode cX10_readsItem 8 = .ok (.invokevirtual 49, 3) := by decide +kernel
theorem dX10_readsItem_11 : decode cX10_readsItem 11 = .ok (.bipush 8, 2) := by decide +kernel
theorem dX10_readsItem_13 : decode cX10_readsItem 13 = .ok (.if_icmp .ge 71, 3) := by decide +kernel
theorem dX10_readsItem_16 : decode cX10_readsItem 16 = .ok (.aload_n 0, 1) := by decide +kernel
theorem dX10_readsItem_17 : decode cX10_readsItem 17 = .ok (.bipush 115, 2) := by decide +kernel
theorem dX10_readsItem_19 : decode cX10_readsItem 19 = .ok (.invokevirtual 175, 3) := by decide +kernel
theorem dX10_readsItem_22 : decode cX10_readsItem 22 = .ok (.ifCond .eq 62, 3) := by decide +kernel
theorem dX10_readsItem_25 : decode cX10_readsItem 25 = .ok (.aload_n 0, 1) := by decide +kernel
theorem dX10_readsItem_26 : decode cX10_readsItem 26 = .ok (.invokevirtual 178, 3) := by decide +kernel
theorem dX10_readsItem_29 : decode cX10_readsItem 29 = .ok (.ifCond .ne 5, 3) := by decide +kernel
theorem dX10_readsItem_32 : decode cX10_readsItem 32 = .ok (.iconst 0, 1) := by decide +kernel
theorem dX10_readsItem_33 : decode cX10_readsItem 33 = .ok (.ireturn, 1) := by decide +kernel
theorem dX10_readsItem_34 : decode cX10_readsItem 34 = .ok (.aload_n 0, 1) := by decide +kernel
theorem dX10_readsItem_35 : decode cX10_readsItem 35 = .ok (.getfield 169, 3) := by decide +kernel
theorem dX10_readsItem_38 : decode cX10_readsItem 38 = .ok (.bipush 32, 2) := by decide +kernel
theorem dX10_readsItem_40 : decode cX10_readsItem 40 = .ok (.if_icmp .ge 14, 3) := by decide +kernel
theorem dX10_readsItem_43 : decode cX10_readsItem 43 = .ok (.aload_n 0, 1) := by decide +kernel
theorem dX10_readsItem_44 : decode cX10_readsItem 44 = .ok (.aload_n 0, 1) := by decide +kernel
theorem dX10_readsItem_45 : decode cX10_readsItem 45 = .ok (.getfield 169, 3) := by decide +kernel
theorem dX10_readsItem_48 : decode cX10_readsItem 48 = .ok (.invokevirtual 45, 3) := by decide +kernel
theorem dX10_readsItem_51 : decode cX10_readsItem 51 = .ok (.ifCond .eq 10, 3) := by decide +kernel
theorem dX10_readsItem_54 : decode cX10_readsItem 54 = .ok (.aload_n 0, 1) := by decide +kernel
theorem dX10_readsItem_55 : decode cX10_readsItem 55 = .ok (.iload_n 1, 1) := by decide +kernel
theorem dX10_readsItem_56 : decode cX10_readsItem 56 = .ok (.putfield 162, 3) := by decide +kernel
theorem dX10_readsItem_59 : decode cX10_readsItem 59 = .ok (.iconst 0, 1) := by decide +kernel
theorem dX10_readsItem_60 : decode cX10_readsItem 60 = .ok (.ireturn, 1) := by decide +kernel
theorem dX10_readsItem_61 : decode cX10_readsItem 61 = .ok (.aload_n 0, 1) := by decide +kernel
theorem dX10_readsItem_62 : decode cX10_readsItem 62 = .ok (.aload_n 0, 1) := by decide +kernel
theorem dX10_readsItem_63 : decode cX10_readsItem 63 = .ok (.getfield 169, 3) := by decide +kernel
theorem dX10_readsItem_66 : decode cX10_readsItem 66 = .ok (.putfield 181, 3) := by decide +kernel
theorem dX10_readsItem_69 : decode cX10_readsItem 69 = .ok (.aload_n 0, 1) := by decide +kernel
theorem dX10_readsItem_70 : decode cX10_readsItem 70 = .ok (.aload_n 0, 1) := by decide +kernel
theorem dX10_readsItem_71 : decode cX10_readsItem 71 = .ok (.getfield 169, 3) := by decide +kernel
theorem dX10_readsItem_74 : decode cX10_readsItem 74 = .ok (.invokevirtual 60, 3) := by decide +kernel
theorem dX10_readsItem_77 : decode cX10_readsItem 77 = .ok (.aload_n 0, 1) := by decide +kernel
theorem dX10_readsItem_78 : decode cX10_readsItem 78 = .ok (.bipush 59, 2) := by decide +kernel
theorem dX10_readsItem_80 : decode cX10_readsItem 80 = .ok (.invokevirtual 175, 3) := by decide +kernel
theorem dX10_readsItem_83 : decode cX10_readsItem 83 = .ok (.ireturn, 1) := by decide +kernel
theorem dX10_readsItem_84 : decode cX10_readsItem 84 = .ok (.aload_n 0, 1) := by decide +kernel
theorem dX10_readsItem_85 : decode cX10_readsItem 85 = .ok (.getfield 181, 3) := by decide +kernel
theorem dX10_readsItem_88 : decode cX10_readsItem 88 = .ok (.iconst (-1), 1) := by decide +kernel
theorem dX10_readsItem_89 : decode cX10_readsItem 89 = .ok (.if_icmp .eq 19, 3) := by decide +kernel
theorem dX10_readsItem_92 : decode cX10_readsItem 92 = .ok (.aload_n 0, 1) := by decide +kernel
theorem dX10_readsItem_93 : decode cX10_readsItem 93 = .ok (.bipush 109, 2) := by decide +kernel
theorem dX10_readsItem_95 : decode cX10_readsItem 95 = .ok (.invokevirtual 175, 3) := by decide +kernel
theorem dX10_readsItem_98 : decode cX10_readsItem 98 = .ok (.ifCond .eq 10, 3) := by decide +kernel
theorem dX10_readsItem_101 : decode cX10_readsItem 101 = .ok (.aload_n 0, 1) := by decide +kernel
theorem dX10_readsItem_102 : decode cX10_readsItem 102 = .ok (.invokevirtual 178, 3) := by decide +kernel
theorem dX10_readsItem_105 : decode cX10_readsItem 105 = .ok (.ifCond .ne 5, 3) := by decide +kernel
theorem dX10_readsItem_108 : decode cX10_readsItem 108 = .ok (.iconst 0, 1) := by decide +kernel
theorem dX10_readsItem_109 : decode cX10_readsItem 109 = .ok (.ireturn, 1) := by decide +kernel
theorem dX10_readsItem_110 : decode cX10_readsItem 110 = .ok (.aload_n 0, 1) := by decide +kernel
theorem dX10_readsItem_111 : decode cX10_readsItem 111 = .ok (.getfield 169, 3) := by decide +kernel
theorem dX10_readsItem_114 : decode cX10_readsItem 114 = .ok (.i2l, 1) := by decide +kernel
theorem dX10_readsItem_115 : decode cX10_readsItem 115 = .ok (.lconst 1, 1) := by decide +kernel
theorem dX10_readsItem_116 : decode cX10_readsItem 116 = .ok (.ldc2_w 66, 3) := by decide +kernel
theorem dX10_readsItem_119 : decode cX10_readsItem 119 = .ok (.invokestatic 35, 3) := by decide +kernel
theorem dX10_readsItem_122 : decode cX10_readsItem 122 = .ok (.ifCond .ne 10, 3) := by decide +kernel
theorem dX10_readsItem_125 : decode cX10_readsItem 125 = .ok (.aload_n 0, 1) := by decide +kernel
theorem dX10_readsItem_126 : decode cX10_readsItem 126 = .ok (.iload_n 1, 1) := by decide +kernel
theorem dX10_readsItem_127 : decode cX10_readsItem 127 = .ok (.putfield 162, 3) := by decide +kernel
theorem dX10_readsItem_130 : decode cX10_readsItem 130 = .ok (.iconst 0, 1) := by decide +kernel
theorem dX10_readsItem_131 : decode cX10_readsItem 131 = .ok (.ireturn, 1) := by decide +kernel
theorem dX10_readsItem_132 : decode cX10_readsItem 132 = .ok (.aload_n 0, 1) := by decide +kernel
theorem dX10_readsItem_133 : decode cX10_readsItem 133 = .ok (.getfield 169, 3) := by decide +kernel
theorem dX10_readsItem_136 : decode cX10_readsItem 136 = .ok (.istore_n 2, 1) := by decide +kernel
theorem dX10_readsItem_137 : decode cX10_readsItem 137 = .ok (.aload_n 0, 1) := by decide +kernel
theorem dX10_readsItem_138 : decode cX10_readsItem 138 = .ok (.bipush 44, 2) := by decide +kernel
theorem dX10_readsItem_140 : decode cX10_readsItem 140 = .ok (.invokevirtual 175, 3) := by decide +kernel
theorem dX10_readsItem_143 : decode cX10_readsItem 143 = .ok (.ifCond .eq 10, 3) := by decide +kernel
theorem dX10_readsItem_146 : decode cX10_readsItem 146 = .ok (.aload_n 0, 1) := by decide +kernel
theorem dX10_readsItem_147 : decode cX10_readsItem 147 = .ok (.invokevirtual 172, 3) := by decide +kernel
theorem dX10_readsItem_150 : decode cX10_readsItem 150 = .ok (.ifCond .ne 5, 3) := by decide +kernel
theorem dX10_readsItem_153 : decode cX10_readsItem 153 = .ok (.iconst 0, 1) := by decide +kernel
theorem dX10_readsItem_154 : decode cX10_readsItem 154 = .ok (.ireturn, 1) := by decide +kernel
theorem dX10_readsItem_155 : decode cX10_readsItem 155 = .ok (.aload_n 0, 1) := by decide +kernel
theorem dX10_readsItem_156 : decode cX10_readsItem 156 = .ok (.aload_n 0, 1) := by decide +kernel
theorem dX10_readsItem_157 : decode cX10_readsItem 157 = .ok (.getfield 181, 3) := by decide +kernel
theorem dX10_readsItem_160 : decode cX10_readsItem 160 = .ok (.iload_n 2, 1) := by decide +kernel
theorem dX10_readsItem_161 : decode cX10_readsItem 161 = .ok (.aload_n 0, 1) := by decide +kernel
theorem dX10_readsItem_162 : decode cX10_readsItem 162 = .ok (.getfield 19, 3) := by decide +kernel
theorem dX10_readsItem_165 : decode cX10_readsItem 165 = .ok (.aload_n 0, 1) := by decide +kernel
theorem dX10_readsItem_166 : decode cX10_readsItem 166 = .ok (.getfield 162, 3) := by decide +kernel
theorem dX10_readsItem_169 : decode cX10_readsItem 169 = .ok (.iaload, 1) := by decide +kernel
theorem dX10_readsItem_170 : decode cX10_readsItem 170 = .ok (.bipush 48, 2) := by decide +kernel
theorem dX10_readsItem_172 : decode cX10_readsItem 172 = .ok (.isub, 1) := by decide +kernel
theorem dX10_readsItem_173 : decode cX10_readsItem 173 = .ok (.invokevirtual 70, 3) := by decide +kernel
theorem dX10_readsItem_176 : decode cX10_readsItem 176 = .ok (.istore_n 3, 1) := by decide +kernel
theorem dX10_readsItem_177 : decode cX10_readsItem 177 = .ok (.aload_n 0, 1) := by decide +kernel
theorem dX10_readsItem_178 : decode cX10_readsItem 178 = .ok (.dup, 1) := by decide +kernel
theorem dX10_readsItem_179 : decode cX10_readsItem 179 = .ok (.getfield 162, 3) := by decide +kernel
theorem dX10_readsItem_182 : decode cX10_readsItem 182 = .ok (.iconst 1, 1) := by decide +kernel
theorem dX10_readsItem_183 : decode cX10_readsItem 183 = .ok (.iadd, 1) := by decide +kernel
theorem dX10_readsItem_184 : decode cX10_readsItem 184 = .ok (.putfield 162, 3) := by decide +kernel
theorem dX10_readsItem_187 : decode cX10_readsItem 187 = .ok (.aload_n 0, 1) := by decide +kernel
theorem dX10_readsItem_188 : decode cX10_readsItem 188 = .ok (.bipush 59, 2) := by decide +kernel
theorem dX10_readsItem_190 : decode cX10_readsItem 190 = .ok (.invokevirtual 175, 3) := by decide +kernel
theorem dX10_readsItem_193 : decode cX10_readsItem 193 = .ok (.ireturn, 1) := by decide +kernel
theorem dX10_parse_0 : decode cX10_parse 0 = .ok (.aload_n 0, 1) := by decide +kernel
theorem dX10_parse_1 : decode cX10_parse 1 = .ok (.iconst 0, 1) := by decide +kernel
theorem dX10_parse_2 : decode cX10_parse 2 = .ok (.putfield 22, 3) := by decide +kernel
theorem dX10_parse_5 : decode cX10_parse 5 = .ok (.aload_n 0, 1) := by decide +kernel
theorem dX10_parse_6 : decode cX10_parse 6 = .ok (.invokevirtual 143, 3) := by decide +kernel
theorem dX10_parse_9 : decode cX10_parse 9 = .ok (.iconst 3, 1) := by decide +kernel
theorem dX10_parse_10 : decode cX10_parse 10 = .ok (.istore_n 1, 1) := by decide +kernel
theorem dX10_parse_11 : decode cX10_parse 11 = .ok (.iload_n 1, 1) := by decide +kernel
theorem dX10_parse_12 : decode cX10_parse 12 = .ok (.sipush 942, 3) := by decide +kernel
theorem dX10_parse_15 : decode cX10_parse 15 = .ok (.if_icmp .ge 16, 3) := by decide +kernel
theorem dX10_parse_18 : decode cX10_parse 18 = .ok (.aload_n 0, 1) := by decide +kernel
theorem dX10_parse_19 : decode cX10_parse 19 = .ok (.getfield 7, 3) := by decide +kernel
theorem dX10_parse_22 : decode cX10_parse 22 = .ok (.iload_n 1, 1) := by decide +kernel
theorem dX10_parse_23 : decode cX10_parse 23 = .ok (.iconst 0, 1) := by decide +kernel
theorem dX10_parse_24 : decode cX10_parse 24 = .ok (.iastore, 1) := by decide +kernel
theorem dX10_parse_25 : decode cX10_parse 25 = .ok (.iinc 1 1, 3) := by decide +kernel
theorem dX10_parse_28 : decode cX10_parse 28 = .ok (.goto (-17), 3) := by decide +kernel
theorem dX10_parse_31 : decode cX10_parse 31 = .ok (.aload_n 0, 1) := by decide +kernel
theorem dX10_parse_32 : decode cX10_parse 32 = .ok (.getfield 7, 3) := by decide +kernel
theorem dX10_parse_35 : decode cX10_parse 35 = .ok (.iconst 4, 1) := by decide +kernel
theorem dX10_parse_36 : decode cX10_parse 36 = .ok (.iconst (-1), 1) := by decide +kernel
theorem dX10_parse_37 : decode cX10_parse 37 = .ok (.iastore, 1) := by decide +kernel
theorem dX10_parse_38 : decode cX10_parse 38 = .ok (.aload_n 0, 1) := by decide +kernel
theorem dX10_parse_39 : decode cX10_parse 39 = .ok (.iconst (-1), 1) := by decide +kernel
theorem dX10_parse_40 : decode cX10_parse 40 = .ok (.putfield 181, 3) := by decide +kernel
theorem dX10_parse_43 : decode cX10_parse 43 = .ok (.aload_n 0, 1) := by decide +kernel
theorem dX10_parse_44 : decode cX10_parse 44 = .ok (.iconst 0, 1) := by decide +kernel
theorem dX10_parse_45 : decode cX10_parse 45 = .ok (.putfield 162, 3) := by decide +kernel
theorem dX10_parse_48 : decode cX10_parse 48 = .ok (.iconst 0, 1) := by decide +kernel
theorem dX10_parse_49 : decode cX10_parse 49 = .ok (.istore_n 1, 1) := by decide +kernel
theorem dX10_parse_50 : decode cX10_parse 50 = .ok (.aload_n 0, 1) := by decide +kernel
theorem dX10_parse_51 : decode cX10_parse 51 = .ok (.getfield 162, 3) := by decide +kernel
theorem dX10_parse_54 : decode cX10_parse 54 = .ok (.aload_n 0, 1) := by decide +kernel
theorem dX10_parse_55 : decode cX10_parse 55 = .ok (.getfield 159, 3) := by decide +kernel
theorem dX10_parse_58 : decode cX10_parse 58 = .ok (.if_icmp .ge 28, 3) := by decide +kernel
theorem dX10_parse_61 : decode cX10_parse 61 = .ok (.aload_n 0, 1) := by decide +kernel
theorem dX10_parse_62 : decode cX10_parse 62 = .ok (.invokevirtual 184, 3) := by decide +kernel
theorem dX10_parse_65 : decode cX10_parse 65 = .ok (.ifCond .ne 15, 3) := by decide +kernel
theorem dX10_parse_68 : decode cX10_parse 68 = .ok (.aload_n 0, 1) := by decide +kernel
theorem dX10_parse_69 : decode cX10_parse 69 = .ok (.invokevirtual 146, 3) := by decide +kernel
theorem dX10_parse_72 : decode cX10_parse 72 = .ok (.bipush (-10), 2) := by decide +kernel
theorem dX10_parse_74 : decode cX10_parse 74 = .ok (.aload_n 0, 1) := by decide +kernel
theorem dX10_parse_75 : decode cX10_parse 75 = .ok (.getfield 162, 3) := by decide +kernel
theorem dX10_parse_78 : decode cX10_parse 78 = .ok (.isub, 1) := by decide +kernel
theorem dX10_parse_79 : decode cX10_parse 79 = .ok (.ireturn, 1) := by decide +kernel
theorem dX10_parse_80 : decode cX10_parse 80 = .ok (.iinc 1 1, 3) := by decide +kernel
theorem dX10_parse_83 : decode cX10_parse 83 = .ok (.goto (-33), 3) := by decide +kernel
theorem dX10_parse_86 : decode cX10_parse 86 = .ok (.iconst 0, 1) := by decide +kernel
theorem dX10_parse_87 : decode cX10_parse 87 = .ok (.istore_n 2, 1) := by decide +kernel
theorem dX10_parse_88 : decode cX10_parse 88 = .ok (.iload_n 2, 1) := by decide +kernel
theorem dX10_parse_89 : decode cX10_parse 89 = .ok (.sipush 942, 3) := by decide +kernel
theorem dX10_parse_92 : decode cX10_parse 92 = .ok (.if_icmp .ge 35, 3) := by decide +kernel
theorem dX10_parse_95 : decode cX10_parse 95 = .ok (.aload_n 0, 1) := by decide +kernel
theorem dX10_parse_96 : decode cX10_parse 96 = .ok (.getfield 7, 3) := by decide +kernel
theorem dX10_parse_99 : decode cX10_parse 99 = .ok (.iload_n 2, 1) := by decide +kernel
theorem dX10_parse_100 : decode cX10_parse 100 = .ok (.iaload, 1) := by decide +kernel
theorem dX10_parse_101 : decode cX10_parse 101 = .ok (.istore_n 3, 1) := by decide +kernel
theorem dX10_parse_102 : decode cX10_parse 102 = .ok (.aload_n 0, 1) := by decide +kernel
theorem dX10_parse_103 : decode cX10_parse 103 = .ok (.getfield 7, 3) := by decide +kernel
theorem dX10_parse_106 : decode cX10_parse 106 = .ok (.iload_n 2, 1) := by decide +kernel
theorem dX10_parse_107 : decode cX10_parse 107 = .ok (.aload_n 0, 1) := by decide +kernel
theorem dX10_parse_108 : decode cX10_parse 108 = .ok (.getfield 16, 3) := by decide +kernel
theorem dX10_parse_111 : decode cX10_parse 111 = .ok (.iload_n 2, 1) := by decide +kernel
theorem dX10_parse_112 : decode cX10_parse 112 = .ok (.iaload, 1) := by decide +kernel
theorem dX10_parse_113 : decode cX10_parse 113 = .ok (.iastore, 1) := by decide +kernel
theorem dX10_parse_114 : decode cX10_parse 114 = .ok (.aload_n 0, 1) := by decide +kernel
theorem dX10_parse_115 : decode cX10_parse 115 = .ok (.getfield 16, 3) := by decide +kernel
theorem dX10_parse_118 : decode cX10_parse 118 = .ok (.iload_n 2, 1) := by decide +kernel
theorem dX10_parse_119 : decode cX10_parse 119 = .ok (.iload_n 3, 1) := by decide +kernel
theorem dX10_parse_120 : decode cX10_parse 120 = .ok (.iastore, 1) := by decide +kernel
theorem dX10_parse_121 : decode cX10_parse 121 = .ok (.iinc 2 1, 3) := by decide +kernel
theorem dX10_parse_124 : decode cX10_parse 124 = .ok (.goto (-36), 3) := by decide +kernel
theorem dX10_parse_127 : decode cX10_parse 127 = .ok (.aload_n 0, 1) := by decide +kernel
theorem dX10_parse_128 : decode cX10_parse 128 = .ok (.invokevirtual 57, 3) := by decide +kernel
theorem dX10_parse_131 : decode cX10_parse 131 = .ok (.aload_n 0, 1) := by decide +kernel
theorem dX10_parse_132 : decode cX10_parse 132 = .ok (.invokevirtual 146, 3) := by decide +kernel
theorem dX10_parse_135 : decode cX10_parse 135 = .ok (.iload_n 1, 1) := by decide +kernel
theorem dX10_parse_136 : decode cX10_parse 136 = .ok (.ireturn, 1) := by decide +kernel
theorem dX10_undo_0 : decode cX10_undo 0 = .ok (.aload_n 0, 1) := by decide +kernel
theorem dX10_undo_1 : decode cX10_undo 1 = .ok (.aload_n 0, 1) := by decide +kernel
theorem dX10_undo_2 : decode cX10_undo 2 = .ok (.getfield 26, 3) := by decide +kernel
theorem dX10_undo_5 : decode cX10_undo 5 = .ok (.ifCond .le 7, 3) := by decide +kernel
theorem dX10_undo_8 : decode cX10_undo 8 = .ok (.iconst 1, 1) := by decide +kernel
theorem dX10_undo_9 : decode cX10_undo 9 = .ok (.goto 4, 3) := by decide +kernel
theorem dX10_undo_12 : decode cX10_undo 12 = .ok (.iconst 0, 1) := by decide +kernel
theorem dX10_undo_13 : decode cX10_undo 13 = .ok (.iconst 1, 1) := by decide +kernel
theorem dX10_undo_14 : decode cX10_undo 14 = .ok (.iconst 1, 1) := by decide +kernel
theorem dX10_undo_15 : decode cX10_undo 15 = .ok (.invokevirtual 53, 3) := by decide +kernel
theorem dX10_undo_18 : decode cX10_undo 18 = .ok (.ifCond .ne 5, 3) := by decide +kernel
theorem dX10_undo_21 : decode cX10_undo 21 = .ok (.iconst 0, 1) := by decide +kernel
theorem dX10_undo_22 : decode cX10_undo 22 = .ok (.ireturn, 1) := by decide +kernel
theorem dX10_undo_23 : decode cX10_undo 23 = .ok (.aload_n 0, 1) := by decide +kernel
theorem dX10_undo_24 : decode cX10_undo 24 = .ok (.dup, 1) := by decide +kernel
theorem dX10_undo_25 : decode cX10_undo 25 = .ok (.getfield 26, 3) := by decide +kernel
theorem dX10_undo_28 : decode cX10_undo 28 = .ok (.iconst 1, 1) := by decide +kernel
theorem dX10_undo_29 : decode cX10_undo 29 = .ok (.isub, 1) := by decide +kernel
theorem dX10_undo_30 : decode cX10_undo 30 = .ok (.putfield 26, 3) := by decide +kernel
theorem dX10_undo_33 : decode cX10_undo 33 = .ok (.iconst 0, 1) := by decide +kernel
theorem dX10_undo_34 : decode cX10_undo 34 = .ok (.istore_n 1, 1) := by decide +kernel
theorem dX10_undo_35 : decode cX10_undo 35 = .ok (.iload_n 1, 1) := by decide +kernel
theorem dX10_undo_36 : decode cX10_undo 36 = .ok (.sipush 942, 3) := by decide +kernel
theorem dX10_undo_39 : decode cX10_undo 39 = .ok (.if_icmp .ge 30, 3) := by decide +kernel
theorem dX10_undo_42 : decode cX10_undo 42 = .ok (.aload_n 0, 1) := by decide +kernel
theorem dX10_undo_43 : decode cX10_undo 43 = .ok (.getfield 7, 3) := by decide +kernel
theorem dX10_undo_46 : decode cX10_undo 46 = .ok (.iload_n 1, 1) := by decide +kernel
theorem dX10_undo_47 : decode cX10_undo 47 = .ok (.aload_n 0, 1) := by decide +kernel
theorem dX10_undo_48 : decode cX10_undo 48 = .ok (.getfield 13, 3) := by decide +kernel
theorem dX10_undo_51 : decode cX10_undo 51 = .ok (.sipush 942, 3) := by decide +kernel
theorem dX10_undo_54 : decode cX10_undo 54 = .ok (.aload_n 0, 1) := by decide +kernel
theorem dX10_undo_55 : decode cX10_undo 55 = .ok (.getfield 26, 3) := by decide +kernel
theorem dX10_undo_58 : decode cX10_undo 58 = .ok (.imul, 1) := by decide +kernel
theorem dX10_undo_59 : decode cX10_undo 59 = .ok (.iload_n 1, 1) := by decide +kernel
theorem dX10_undo_60 : decode cX10_undo 60 = .ok (.iadd, 1) := by decide +kernel
theorem dX10_undo_61 : decode cX10_undo 61 = .ok (.iaload, 1) := by decide +kernel
theorem dX10_undo_62 : decode cX10_undo 62 = .ok (.iastore, 1) := by decide +kernel
theorem dX10_undo_63 : decode cX10_undo 63 = .ok (.iinc 1 1, 3) := by decide +kernel
theorem dX10_undo_66 : decode cX10_undo 66 = .ok (.goto (-31), 3) := by decide +kernel
theorem dX10_undo_69 : decode cX10_undo 69 = .ok (.aload_n 0, 1) := by decide +kernel
theorem dX10_undo_70 : decode cX10_undo 70 = .ok (.getfield 26, 3) := by decide +kernel
theorem dX10_undo_73 : decode cX10_undo 73 = .ok (.ireturn, 1) := by decide +kernel
theorem dX10_sums_0 : decode cX10_sums 0 = .ok (.ldc2_w 33, 3) := by decide +kernel
theorem dX10_sums_3 : decode cX10_sums 3 = .ok (.lload_n 0, 1) := by decide +kernel
theorem dX10_sums_4 : decode cX10_sums 4 = .ok (.lmul, 1) := by decide +kernel
theorem dX10_sums_5 : decode cX10_sums 5 = .ok (.lload_n 2, 1) := by decide +kernel
theorem dX10_sums_6 : decode cX10_sums 6 = .ok (.ladd, 1) := by decide +kernel
theorem dX10_sums_7 : decode cX10_sums 7 = .ok (.lreturn, 1) := by decide +kernel
theorem dX10_withStation_0 : decode cX10_withStation 0 = .ok (.lload_n 1, 1) := by decide +kernel
theorem dX10_withStation_1 : decode cX10_withStation 1 = .ok (.iload_n 3, 1) := by decide +kernel
theorem dX10_withStation_2 : decode cX10_withStation 2 = .ok (.i2l, 1) := by decide +kernel
theorem dX10_withStation_3 : decode cX10_withStation 3 = .ok (.invokestatic 187, 3) := by decide +kernel
theorem dX10_withStation_6 : decode cX10_withStation 6 = .ok (.lstore 4, 2) := by decide +kernel
theorem dX10_withStation_8 : decode cX10_withStation 8 = .ok (.iconst 0, 1) := by decide +kernel
theorem dX10_withStation_9 : decode cX10_withStation 9 = .ok (.istore 6, 2) := by decide +kernel
theorem dX10_withStation_11 : decode cX10_withStation 11 = .ok (.iload 6, 2) := by decide +kernel
theorem dX10_withStation_13 : decode cX10_withStation 13 = .ok (.bipush 7, 2) := by decide +kernel
theorem dX10_withStation_15 : decode cX10_withStation 15 = .ok (.if_icmp .ge 24, 3) := by decide +kernel
theorem dX10_withStation_18 : decode cX10_withStation 18 = .ok (.lload 4, 2) := by decide +kernel
theorem dX10_withStation_20 : decode cX10_withStation 20 = .ok (.aload_n 0, 1) := by decide +kernel
theorem dX10_withStation_21 : decode cX10_withStation 21 = .ok (.iload_n 3, 1) := by decide +kernel
theorem dX10_withStation_22 : decode cX10_withStation 22 = .ok (.iload 6, 2) := by decide +kernel
theorem dX10_withStation_24 : decode cX10_withStation 24 = .ok (.invokevirtual 136, 3) := by decide +kernel
theorem dX10_withStation_27 : decode cX10_withStation 27 = .ok (.i2l, 1) := by decide +kernel
theorem dX10_withStation_28 : decode cX10_withStation 28 = .ok (.invokestatic 187, 3) := by decide +kernel
theorem dX10_withStation_31 : decode cX10_withStation 31 = .ok (.lstore 4, 2) := by decide +kernel
theorem dX10_withStation_33 : decode cX10_withStation 33 = .ok (.iinc 6 1, 3) := by decide +kernel
theorem dX10_withStation_36 : decode cX10_withStation 36 = .ok (.goto (-25), 3) := by decide +kernel
theorem dX10_withStation_39 : decode cX10_withStation 39 = .ok (.aload_n 0, 1) := by decide +kernel
theorem dX10_withStation_40 : decode cX10_withStation 40 = .ok (.iload_n 3, 1) := by decide +kernel
theorem dX10_withStation_41 : decode cX10_withStation 41 = .ok (.iconst (-1), 1) := by decide +kernel
theorem dX10_withStation_42 : decode cX10_withStation 42 = .ok (.invokevirtual 86, 3) := by decide +kernel
theorem dX10_withStation_45 : decode cX10_withStation 45 = .ok (.istore 6, 2) := by decide +kernel
theorem dX10_withStation_47 : decode cX10_withStation 47 = .ok (.iload 6, 2) := by decide +kernel
theorem dX10_withStation_49 : decode cX10_withStation 49 = .ok (.iconst (-1), 1) := by decide +kernel
theorem dX10_withStation_50 : decode cX10_withStation 50 = .ok (.if_icmp .eq 25, 3) := by decide +kernel
theorem dX10_withStation_53 : decode cX10_withStation 53 = .ok (.lload 4, 2) := by decide +kernel
theorem dX10_withStation_55 : decode cX10_withStation 55 = .ok (.iload 6, 2) := by decide +kernel
theorem dX10_withStation_57 : decode cX10_withStation 57 = .ok (.i2l, 1) := by decide +kernel
theorem dX10_withStation_58 : decode cX10_withStation 58 = .ok (.invokestatic 187, 3) := by decide +kernel
theorem dX10_withStation_61 : decode cX10_withStation 61 = .ok (.lstore 4, 2) := by decide +kernel
theorem dX10_withStation_63 : decode cX10_withStation 63 = .ok (.aload_n 0, 1) := by decide +kernel
theorem dX10_withStation_64 : decode cX10_withStation 64 = .ok (.iload_n 3, 1) := by decide +kernel
theorem dX10_withStation_65 : decode cX10_withStation 65 = .ok (.iload 6, 2) := by decide +kernel
theorem dX10_withStation_67 : decode cX10_withStation 67 = .ok (.invokevirtual 86, 3) := by decide +kernel
theorem dX10_withStation_70 : decode cX10_withStation 70 = .ok (.istore 6, 2) := by decide +kernel
theorem dX10_withStation_72 : decode cX10_withStation 72 = .ok (.goto (-25), 3) := by decide +kernel
theorem dX10_withStation_75 : decode cX10_withStation 75 = .ok (.lload 4, 2) := by decide +kernel
theorem dX10_withStation_77 : decode cX10_withStation 77 = .ok (.lreturn, 1) := by decide +kernel
theorem dX10_digest_0 : decode cX10_digest 0 = .ok (.aload_n 0, 1) := by decide +kernel
theorem dX10_digest_1 : decode cX10_digest 1 = .ok (.iconst 0, 1) := by decide +kernel
theorem dX10_digest_2 : decode cX10_digest 2 = .ok (.putfield 22, 3) := by decide +kernel
theorem dX10_digest_5 : decode cX10_digest 5 = .ok (.ldc2_w 191, 3) := by decide +kernel
theorem dX10_digest_8 : decode cX10_digest 8 = .ok (.aload_n 0, 1) := by decide +kernel
theorem dX10_digest_9 : decode cX10_digest 9 = .ok (.getfield 159, 3) := by decide +kernel
theorem dX10_digest_12 : decode cX10_digest 12 = .ok (.i2l, 1) := by decide +kernel
theorem dX10_digest_13 : decode cX10_digest 13 = .ok (.invokestatic 187, 3) := by decide +kernel
theorem dX10_digest_16 : decode cX10_digest 16 = .ok (.lstore_n 1, 1) := by decide +kernel
theorem dX10_digest_17 : decode cX10_digest 17 = .ok (.iconst 0, 1) := by decide +kernel
theorem dX10_digest_18 : decode cX10_digest 18 = .ok (.istore_n 3, 1) := by decide +kernel
theorem dX10_digest_19 : decode cX10_digest 19 = .ok (.iload_n 3, 1) := by decide +kernel
theorem dX10_digest_20 : decode cX10_digest 20 = .ok (.bipush 9, 2) := by decide +kernel
theorem dX10_digest_22 : decode cX10_digest 22 = .ok (.if_icmp .ge 20, 3) := by decide +kernel
theorem dX10_digest_25 : decode cX10_digest 25 = .ok (.lload_n 1, 1) := by decide +kernel
theorem dX10_digest_26 : decode cX10_digest 26 = .ok (.aload_n 0, 1) := by decide +kernel
theorem dX10_digest_27 : decode cX10_digest 27 = .ok (.iload_n 3, 1) := by decide +kernel
theorem dX10_digest_28 : decode cX10_digest 28 = .ok (.invokevirtual 127, 3) := by decide +kernel
theorem dX10_digest_31 : decode cX10_digest 31 = .ok (.i2l, 1) := by decide +kernel
theorem dX10_digest_32 : decode cX10_digest 32 = .ok (.invokestatic 187, 3) := by decide +kernel
theorem dX10_digest_35 : decode cX10_digest 35 = .ok (.lstore_n 1, 1) := by decide +kernel
theorem dX10_digest_36 : decode cX10_digest 36 = .ok (.iinc 3 1, 3) := by decide +kernel
theorem dX10_digest_39 : decode cX10_digest 39 = .ok (.goto (-20), 3) := by decide +kernel
theorem dX10_digest_42 : decode cX10_digest 42 = .ok (.iconst 0, 1) := by decide +kernel
theorem dX10_digest_43 : decode cX10_digest 43 = .ok (.istore_n 3, 1) := by decide +kernel
theorem dX10_digest_44 : decode cX10_digest 44 = .ok (.iload_n 3, 1) := by decide +kernel
theorem dX10_digest_45 : decode cX10_digest 45 = .ok (.bipush 32, 2) := by decide +kernel
theorem dX10_digest_47 : decode cX10_digest 47 = .ok (.if_icmp .ge 30, 3) := by decide +kernel
theorem dX10_digest_50 : decode cX10_digest 50 = .ok (.aload_n 0, 1) := by decide +kernel
theorem dX10_digest_51 : decode cX10_digest 51 = .ok (.iload_n 3, 1) := by decide +kernel
theorem dX10_digest_52 : decode cX10_digest 52 = .ok (.iconst 0, 1) := by decide +kernel
theorem dX10_digest_53 : decode cX10_digest 53 = .ok (.invokevirtual 39, 3) := by decide +kernel
theorem dX10_digest_56 : decode cX10_digest 56 = .ok (.iconst 1, 1) := by decide +kernel
theorem dX10_digest_57 : decode cX10_digest 57 = .ok (.if_icmp .ne 12, 3) := by decide +kernel
theorem dX10_digest_60 : decode cX10_digest 60 = .ok (.aload_n 0, 1) := by decide +kernel
theorem dX10_digest_61 : decode cX10_digest 61 = .ok (.lload_n 1, 1) := by decide +kernel
theorem dX10_digest_62 : decode cX10_digest 62 = .ok (.iload_n 3, 1) := by decide +kernel
theorem dX10_digest_63 : decode cX10_digest 63 = .ok (.invokevirtual 193, 3) := by decide +kernel
theorem dX10_digest_66 : decode cX10_digest 66 = .ok (.goto 4, 3) := by decide +kernel
theorem dX10_digest_69 : decode cX10_digest 69 = .ok (.lload_n 1, 1) := by decide +kernel
theorem dX10_digest_70 : decode cX10_digest 70 = .ok (.lstore_n 1, 1) := by decide +kernel
theorem dX10_digest_71 : decode cX10_digest 71 = .ok (.iinc 3 1, 3) := by decide +kernel
theorem dX10_digest_74 : decode cX10_digest 74 = .ok (.goto (-30), 3) := by decide +kernel
theorem dX10_digest_77 : decode cX10_digest 77 = .ok (.iconst 0, 1) := by decide +kernel
theorem dX10_digest_78 : decode cX10_digest 78 = .ok (.istore_n 3, 1) := by decide +kernel
theorem dX10_digest_79 : decode cX10_digest 79 = .ok (.iload_n 3, 1) := by decide +kernel
theorem dX10_digest_80 : decode cX10_digest 80 = .ok (.iconst 5, 1) := by decide +kernel
theorem dX10_digest_81 : decode cX10_digest 81 = .ok (.aload_n 0, 1) := by decide +kernel
theorem dX10_digest_82 : decode cX10_digest 82 = .ok (.getfield 7, 3) := by decide +kernel
theorem dX10_digest_85 : decode cX10_digest 85 = .ok (.iconst 5, 1) := by decide +kernel
theorem dX10_digest_86 : decode cX10_digest 86 = .ok (.iaload, 1) := by decide +kernel
theorem dX10_digest_87 : decode cX10_digest 87 = .ok (.imul, 1) := by decide +kernel
theorem dX10_digest_88 : decode cX10_digest 88 = .ok (.if_icmp .ge 25, 3) := by decide +kernel
theorem dX10_digest_91 : decode cX10_digest 91 = .ok (.lload_n 1, 1) := by decide +kernel
theorem dX10_digest_92 : decode cX10_digest 92 = .ok (.aload_n 0, 1) := by decide +kernel
theorem dX10_digest_93 : decode cX10_digest 93 = .ok (.getfield 7, 3) := by decide +kernel
theorem dX10_digest_96 : decode cX10_digest 96 = .ok (.sipush 242, 3) := by decide +kernel
theorem dX10_digest_99 : decode cX10_digest 99 = .ok (.iload_n 3, 1) := by decide +kernel
theorem dX10_digest_100 : decode cX10_digest 100 = .ok (.iadd, 1) := by decide +kernel
theorem dX10_digest_101 : decode cX10_digest 101 = .ok (.iaload, 1) := by decide +kernel
theorem dX10_digest_102 : decode cX10_digest 102 = .ok (.i2l, 1) := by decide +kernel
theorem dX10_digest_103 : decode cX10_digest 103 = .ok (.invokestatic 187, 3) := by decide +kernel
theorem dX10_digest_106 : decode cX10_digest 106 = .ok (.lstore_n 1, 1) := by decide +kernel
theorem dX10_digest_107 : decode cX10_digest 107 = .ok (.iinc 3 1, 3) := by decide +kernel
theorem dX10_digest_110 : decode cX10_digest 110 = .ok (.goto (-31), 3) := by decide +kernel
theorem dX10_digest_113 : decode cX10_digest 113 = .ok (.iconst 0, 1) := by decide +kernel
theorem dX10_digest_114 : decode cX10_digest 114 = .ok (.istore_n 3, 1) := by decide +kernel
theorem dX10_digest_115 : decode cX10_digest 115 = .ok (.iload_n 3, 1) := by decide +kernel
theorem dX10_digest_116 : decode cX10_digest 116 = .ok (.bipush 7, 2) := by decide +kernel
theorem dX10_digest_118 : decode cX10_digest 118 = .ok (.if_icmp .ge 24, 3) := by decide +kernel
theorem dX10_digest_121 : decode cX10_digest 121 = .ok (.lload_n 1, 1) := by decide +kernel
theorem dX10_digest_122 : decode cX10_digest 122 = .ok (.aload_n 0, 1) := by decide +kernel
theorem dX10_digest_123 : decode cX10_digest 123 = .ok (.getfield 7, 3) := by decide +kernel
theorem dX10_digest_126 : decode cX10_digest 126 = .ok (.bipush 9, 2) := by decide +kernel
theorem dX10_digest_128 : decode cX10_digest 128 = .ok (.iload_n 3, 1) := by decide +kernel
theorem dX10_digest_129 : decode cX10_digest 129 = .ok (.iadd, 1) := by decide +kernel
theorem dX10_digest_130 : decode cX10_digest 130 = .ok (.iaload, 1) := by decide +kernel
theorem dX10_digest_131 : decode cX10_digest 131 = .ok (.i2l, 1) := by decide +kernel
theorem dX10_digest_132 : decode cX10_digest 132 = .ok (.invokestatic 187, 3) := by decide +kernel
theorem dX10_digest_135 : decode cX10_digest 135 = .ok (.lstore_n 1, 1) := by decide +kernel
theorem dX10_digest_136 : decode cX10_digest 136 = .ok (.iinc 3 1, 3) := by decide +kernel
theorem dX10_digest_139 : decode cX10_digest 139 = .ok (.goto (-24), 3) := by decide +kernel
theorem dX10_digest_142 : decode cX10_digest 142 = .ok (.lload_n 1, 1) := by decide +kernel
theorem dX10_digest_143 : decode cX10_digest 143 = .ok (.aload_n 0, 1) := by decide +kernel
theorem dX10_digest_144 : decode cX10_digest 144 = .ok (.getfield 7, 3) := by decide +kernel
theorem dX10_digest_147 : decode cX10_digest 147 = .ok (.bipush 8, 2) := by decide +kernel
theorem dX10_digest_149 : decode cX10_digest 149 = .ok (.iaload, 1) := by decide +kernel
theorem dX10_digest_150 : decode cX10_digest 150 = .ok (.i2l, 1) := by decide +kernel
theorem dX10_digest_151 : decode cX10_digest 151 = .ok (.invokestatic 187, 3) := by decide +kernel
theorem dX10_digest_154 : decode cX10_digest 154 = .ok (.aload_n 0, 1) := by decide +kernel
theorem dX10_digest_155 : decode cX10_digest 155 = .ok (.getfield 7, 3) := by decide +kernel
theorem dX10_digest_158 : decode cX10_digest 158 = .ok (.bipush 7, 2) := by decide +kernel
theorem dX10_digest_160 : decode cX10_digest 160 = .ok (.iaload, 1) := by decide +kernel
theorem dX10_digest_161 : decode cX10_digest 161 = .ok (.i2l, 1) := by decide +kernel
theorem dX10_digest_162 : decode cX10_digest 162 = .ok (.invokestatic 187, 3) := by decide +kernel
theorem dX10_digest_165 : decode cX10_digest 165 = .ok (.lstore_n 1, 1) := by decide +kernel
theorem dX10_digest_166 : decode cX10_digest 166 = .ok (.iconst 0, 1) := by decide +kernel
theorem dX10_digest_167 : decode cX10_digest 167 = .ok (.istore_n 3, 1) := by decide +kernel
theorem dX10_digest_168 : decode cX10_digest 168 = .ok (.iload_n 3, 1) := by decide +kernel
theorem dX10_digest_169 : decode cX10_digest 169 = .ok (.iconst 4, 1) := by decide +kernel
theorem dX10_digest_170 : decode cX10_digest 170 = .ok (.aload_n 0, 1) := by decide +kernel
theorem dX10_digest_171 : decode cX10_digest 171 = .ok (.getfield 7, 3) := by decide +kernel
theorem dX10_digest_174 : decode cX10_digest 174 = .ok (.bipush 7, 2) := by decide +kernel
theorem dX10_digest_176 : decode cX10_digest 176 = .ok (.iaload, 1) := by decide +kernel
theorem dX10_digest_177 : decode cX10_digest 177 = .ok (.imul, 1) := by decide +kernel
theorem dX10_digest_178 : decode cX10_digest 178 = .ok (.if_icmp .ge 25, 3) := by decide +kernel
theorem dX10_digest_181 : decode cX10_digest 181 = .ok (.lload_n 1, 1) := by decide +kernel
theorem dX10_digest_182 : decode cX10_digest 182 = .ok (.aload_n 0, 1) := by decide +kernel
theorem dX10_digest_183 : decode cX10_digest 183 = .ok (.getfield 7, 3) := by decide +kernel
theorem dX10_digest_186 : decode cX10_digest 186 = .ok (.sipush 782, 3) := by decide +kernel
theorem dX10_digest_189 : decode cX10_digest 189 = .ok (.iload_n 3, 1) := by decide +kernel
theorem dX10_digest_190 : decode cX10_digest 190 = .ok (.iadd, 1) := by decide +kernel
theorem dX10_digest_191 : decode cX10_digest 191 = .ok (.iaload, 1) := by decide +kernel
theorem dX10_digest_192 : decode cX10_digest 192 = .ok (.i2l, 1) := by decide +kernel
theorem dX10_digest_193 : decode cX10_digest 193 = .ok (.invokestatic 187, 3) := by decide +kernel
theorem dX10_digest_196 : decode cX10_digest 196 = .ok (.lstore_n 1, 1) := by decide +kernel
theorem dX10_digest_197 : decode cX10_digest 197 = .ok (.iinc 3 1, 3) := by decide +kernel
theorem dX10_digest_200 : decode cX10_digest 200 = .ok (.goto (-32), 3) := by decide +kernel
theorem dX10_digest_203 : decode cX10_digest 203 = .ok (.lload_n 1, 1) := by decide +kernel
theorem dX10_digest_204 : decode cX10_digest 204 = .ok (.aload_n 0, 1) := by decide +kernel
theorem dX10_digest_205 : decode cX10_digest 205 = .ok (.getfield 26, 3) := by decide +kernel
theorem dX10_digest_208 : decode cX10_digest 208 = .ok (.i2l, 1) := by decide +kernel
theorem dX10_digest_209 : decode cX10_digest 209 = .ok (.invokestatic 187, 3) := by decide +kernel
theorem dX10_digest_212 : decode cX10_digest 212 = .ok (.lreturn, 1) := by decide +kernel
theorem dL_addStation_0 : decode cL_addStation 0 = .ok (.aload_n 2, 1) := by decide +kernel
theorem dL_addStation_1 : decode cL_addStation 1 = .ok (.iconst 0, 1) := by decide +kernel
theorem dL_addStation_2 : decode cL_addStation 2 = .ok (.aload_n 0, 1) := by decide +kernel
theorem dL_addStation_3 : decode cL_addStation 3 = .ok (.iload_n 1, 1) := by decide +kernel
theorem dL_addStation_4 : decode cL_addStation 4 = .ok (.invokevirtual 7, 3) := by decide +kernel
theorem dL_addStation_7 : decode cL_addStation 7 = .ok (.i2l, 1) := by decide +kernel
theorem dL_addStation_8 : decode cL_addStation 8 = .ok (.lastore, 1) := by decide +kernel
theorem dL_addStation_9 : decode cL_addStation 9 = .ok (.goto 9, 3) := by decide +kernel
theorem dL_addStation_12 : decode cL_addStation 12 = .ok (.astore_n 3, 1) := by decide +kernel
theorem dL_addStation_13 : decode cL_addStation 13 = .ok (.iconst 1, 1) := by decide +kernel
theorem dL_addStation_14 : decode cL_addStation 14 = .ok (.ireturn, 1) := by decide +kernel
theorem dL_addStation_15 : decode cL_addStation 15 = .ok (.astore_n 3, 1) := by decide +kernel
theorem dL_addStation_16 : decode cL_addStation 16 = .ok (.iconst 2, 1) := by decide +kernel
theorem dL_addStation_17 : decode cL_addStation 17 = .ok (.ireturn, 1) := by decide +kernel
theorem dL_addStation_18 : decode cL_addStation 18 = .ok (.iconst 0, 1) := by decide +kernel
theorem dL_addStation_19 : decode cL_addStation 19 = .ok (.ireturn, 1) := by decide +kernel
theorem dL_setOn_0 : decode cL_setOn 0 = .ok (.aload_n 3, 1) := by decide +kernel
theorem dL_setOn_1 : decode cL_setOn 1 = .ok (.iconst 0, 1) := by decide +kernel
theorem dL_setOn_2 : decode cL_setOn 2 = .ok (.aload_n 0, 1) := by decide +kernel
theorem dL_setOn_3 : decode cL_setOn 3 = .ok (.iload_n 1, 1) := by decide +kernel
theorem dL_setOn_4 : decode cL_setOn 4 = .ok (.iload_n 2, 1) := by decide +kernel
theorem dL_setOn_5 : decode cL_setOn 5 = .ok (.invokevirtual 17, 3) := by decide +kernel
theorem dL_setOn_8 : decode cL_setOn 8 = .ok (.ifCond .eq 7, 3) := by decide +kernel
theorem dL_setOn_11 : decode cL_setOn 11 = .ok (.lconst 1, 1) := by decide +kernel
theorem dL_setOn_12 : decode cL_setOn 12 = .ok (.goto 4, 3) := by decide +kernel
theorem dL_setOn_15 : decode cL_setOn 15 = .ok (.lconst 0, 1) := by decide +kernel
theorem dL_setOn_16 : decode cL_setOn 16 = .ok (.lastore, 1) := by decide +kernel
theorem dL_setOn_17 : decode cL_setOn 17 = .ok (.goto 7, 3) := by decide +kernel
theorem dL_setOn_20 : decode cL_setOn 20 = .ok (.astore 4, 2) := by decide +kernel
theorem dL_setOn_22 : decode cL_setOn 22 = .ok (.iconst 1, 1) := by decide +kernel
theorem dL_setOn_23 : decode cL_setOn 23 = .ok (.ireturn, 1) := by decide +kernel
theorem dL_setOn_24 : decode cL_setOn 24 = .ok (.iconst 0, 1) := by decide +kernel
theorem dL_setOn_25 : decode cL_setOn 25 = .ok (.ireturn, 1) := by decide +kernel
theorem dL_setTimes_0 : decode cL_setTimes 0 = .ok (.aload 4, 2) := by decide +kernel
theorem dL_setTimes_2 : decode cL_setTimes 2 = .ok (.iconst 0, 1) := by decide +kernel
theorem dL_setTimes_3 : decode cL_setTimes 3 = .ok (.aload_n 0, 1) := by decide +kernel
theorem dL_setTimes_4 : decode cL_setTimes 4 = .ok (.iload_n 1, 1) := by decide +kernel
theorem dL_setTimes_5 : decode cL_setTimes 5 = .ok (.iload_n 2, 1) := by decide +kernel
theorem dL_setTimes_6 : decode cL_setTimes 6 = .ok (.iload_n 3, 1) := by decide +kernel
theorem dL_setTimes_7 : decode cL_setTimes 7 = .ok (.invokevirtual 23, 3) := by decide +kernel
theorem dL_setTimes_10 : decode cL_setTimes 10 = .ok (.i2l, 1) := by decide +kernel
theorem dL_setTimes_11 : decode cL_setTimes 11 = .ok (.lastore, 1) := by decide +kernel
theorem dL_setTimes_12 : decode cL_setTimes 12 = .ok (.goto 7, 3) := by decide +kernel
theorem dL_setTimes_15 : decode cL_setTimes 15 = .ok (.astore 5, 2) := by decide +kernel
theorem dL_setTimes_17 : decode cL_setTimes 17 = .ok (.iconst 1, 1) := by decide +kernel
theorem dL_setTimes_18 : decode cL_setTimes 18 = .ok (.ireturn, 1) := by decide +kernel
theorem dL_setTimes_19 : decode cL_setTimes 19 = .ok (.iconst 0, 1) := by decide +kernel
theorem dL_setTimes_20 : decode cL_setTimes 20 = .ok (.ireturn, 1) := by decide +kernel
theorem dL_give_0 : decode cL_give 0 = .ok (.aload 4, 2) := by decide +kernel
theorem dL_give_2 : decode cL_give 2 = .ok (.iconst 0, 1) := by decide +kernel
theorem dL_give_3 : decode cL_give 3 = .ok (.aload_n 0, 1) := by decide +kernel
theorem dL_give_4 : decode cL_give 4 = .ok (.iload_n 1, 1) := by decide +kernel
theorem dL_give_5 : decode cL_give 5 = .ok (.iload_n 2, 1) := by decide +kernel
theorem dL_give_6 : decode cL_give 6 = .ok (.iload_n 3, 1) := by decide +kernel
theorem dL_give_7 : decode cL_give 7 = .ok (.invokevirtual 27, 3) := by decide +kernel
theorem dL_give_10 : decode cL_give 10 = .ok (.i2l, 1) := by decide +kernel
theorem dL_give_11 : decode cL_give 11 = .ok (.lastore, 1) := by decide +kernel
theorem dL_give_12 : decode cL_give 12 = .ok (.goto 15, 3) := by decide +kernel
theorem dL_give_15 : decode cL_give 15 = .ok (.astore 5, 2) := by decide +kernel
theorem dL_give_17 : decode cL_give 17 = .ok (.iconst 1, 1) := by decide +kernel
theorem dL_give_18 : decode cL_give 18 = .ok (.ireturn, 1) := by decide +kernel
theorem dL_give_19 : decode cL_give 19 = .ok (.astore 5, 2) := by decide +kernel
theorem dL_give_21 : decode cL_give 21 = .ok (.iconst 2, 1) := by decide +kernel
theorem dL_give_22 : decode cL_give 22 = .ok (.ireturn, 1) := by decide +kernel
theorem dL_give_23 : decode cL_give 23 = .ok (.astore 5, 2) := by decide +kernel
theorem dL_give_25 : decode cL_give 25 = .ok (.iconst 3, 1) := by decide +kernel
theorem dL_give_26 : decode cL_give 26 = .ok (.ireturn, 1) := by decide +kernel
theorem dL_give_27 : decode cL_give 27 = .ok (.iconst 0, 1) := by decide +kernel
theorem dL_give_28 : decode cL_give 28 = .ok (.ireturn, 1) := by decide +kernel
theorem dL_addNoise_0 : decode cL_addNoise 0 = .ok (.aload_n 3, 1) := by decide +kernel
theorem dL_addNoise_1 : decode cL_addNoise 1 = .ok (.iconst 0, 1) := by decide +kernel
theorem dL_addNoise_2 : decode cL_addNoise 2 = .ok (.aload_n 0, 1) := by decide +kernel
theorem dL_addNoise_3 : decode cL_addNoise 3 = .ok (.iload_n 1, 1) := by decide +kernel
theorem dL_addNoise_4 : decode cL_addNoise 4 = .ok (.iload_n 2, 1) := by decide +kernel
theorem dL_addNoise_5 : decode cL_addNoise 5 = .ok (.invokevirtual 30, 3) := by decide +kernel
theorem dL_addNoise_8 : decode cL_addNoise 8 = .ok (.i2l, 1) := by decide +kernel
theorem dL_addNoise_9 : decode cL_addNoise 9 = .ok (.lastore, 1) := by decide +kernel
theorem dL_addNoise_10 : decode cL_addNoise 10 = .ok (.goto 11, 3) := by decide +kernel
theorem dL_addNoise_13 : decode cL_addNoise 13 = .ok (.astore 4, 2) := by decide +kernel
theorem dL_addNoise_15 : decode cL_addNoise 15 = .ok (.iconst 1, 1) := by decide +kernel
theorem dL_addNoise_16 : decode cL_addNoise 16 = .ok (.ireturn, 1) := by decide +kernel
theorem dL_addNoise_17 : decode cL_addNoise 17 = .ok (.astore 4, 2) := by decide +kernel
theorem dL_addNoise_19 : decode cL_addNoise 19 = .ok (.iconst 2, 1) := by decide +kernel
theorem dL_addNoise_20 : decode cL_addNoise 20 = .ok (.ireturn, 1) := by decide +kernel
theorem dL_addNoise_21 : decode cL_addNoise 21 = .ok (.iconst 0, 1) := by decide +kernel
theorem dL_addNoise_22 : decode cL_addNoise 22 = .ok (.ireturn, 1) := by decide +kernel
theorem dL_run_0 : decode cL_run 0 = .ok (.aload_n 2, 1) := by decide +kernel
theorem dL_run_1 : decode cL_run 1 = .ok (.iconst 0, 1) := by decide +kernel
theorem dL_run_2 : decode cL_run 2 = .ok (.aload_n 0, 1) := by decide +kernel
theorem dL_run_3 : decode cL_run 3 = .ok (.iload_n 1, 1) := by decide +kernel
theorem dL_run_4 : decode cL_run 4 = .ok (.invokevirtual 34, 3) := by decide +kernel
theorem dL_run_7 : decode cL_run 7 = .ok (.i2l, 1) := by decide +kernel
theorem dL_run_8 : decode cL_run 8 = .ok (.lastore, 1) := by decide +kernel
theorem dL_run_9 : decode cL_run 9 = .ok (.goto 9, 3) := by decide +kernel
theorem dL_run_12 : decode cL_run 12 = .ok (.astore_n 3, 1) := by decide +kernel
theorem dL_run_13 : decode cL_run 13 = .ok (.iconst 1, 1) := by decide +kernel
theorem dL_run_14 : decode cL_run 14 = .ok (.ireturn, 1) := by decide +kernel
theorem dL_run_15 : decode cL_run 15 = .ok (.astore_n 3, 1) := by decide +kernel
theorem dL_run_16 : decode cL_run 16 = .ok (.iconst 2, 1) := by decide +kernel
theorem dL_run_17 : decode cL_run 17 = .ok (.ireturn, 1) := by decide +kernel
theorem dL_run_18 : decode cL_run 18 = .ok (.iconst 0, 1) := by decide +kernel
theorem dL_run_19 : decode cL_run 19 = .ok (.ireturn, 1) := by decide +kernel
theorem dL_setting_0 : decode cL_setting 0 = .ok (.aload_n 2, 1) := by decide +kernel
theorem dL_setting_1 : decode cL_setting 1 = .ok (.iconst 0, 1) := by decide +kernel
theorem dL_setting_2 : decode cL_setting 2 = .ok (.aload_n 0, 1) := by decide +kernel
theorem dL_setting_3 : decode cL_setting 3 = .ok (.iload_n 1, 1) := by decide +kernel
theorem dL_setting_4 : decode cL_setting 4 = .ok (.invokevirtual 37, 3) := by decide +kernel
theorem dL_setting_7 : decode cL_setting 7 = .ok (.i2l, 1) := by decide +kernel
theorem dL_setting_8 : decode cL_setting 8 = .ok (.lastore, 1) := by decide +kernel
theorem dL_setting_9 : decode cL_setting 9 = .ok (.goto 6, 3) := by decide +kernel
theorem dL_setting_12 : decode cL_setting 12 = .ok (.astore_n 3, 1) := by decide +kernel
theorem dL_setting_13 : decode cL_setting 13 = .ok (.iconst 1, 1) := by decide +kernel
theorem dL_setting_14 : decode cL_setting 14 = .ok (.ireturn, 1) := by decide +kernel
theorem dL_setting_15 : decode cL_setting 15 = .ok (.iconst 0, 1) := by decide +kernel
theorem dL_setting_16 : decode cL_setting 16 = .ok (.ireturn, 1) := by decide +kernel
theorem dL_station_0 : decode cL_station 0 = .ok (.aload_n 3, 1) := by decide +kernel
theorem dL_station_1 : decode cL_station 1 = .ok (.iconst 0, 1) := by decide +kernel
theorem dL_station_2 : decode cL_station 2 = .ok (.aload_n 0, 1) := by decide +kernel
theorem dL_station_3 : decode cL_station 3 = .ok (.iload_n 1, 1) := by decide +kernel
theorem dL_station_4 : decode cL_station 4 = .ok (.iload_n 2, 1) := by decide +kernel
theorem dL_station_5 : decode cL_station 5 = .ok (.invokevirtual 40, 3) := by decide +kernel
theorem dL_station_8 : decode cL_station 8 = .ok (.i2l, 1) := by decide +kernel
theorem dL_station_9 : decode cL_station 9 = .ok (.lastore, 1) := by decide +kernel
theorem dL_station_10 : decode cL_station 10 = .ok (.goto 11, 3) := by decide +kernel
theorem dL_station_13 : decode cL_station 13 = .ok (.astore 4, 2) := by decide +kernel
theorem dL_station_15 : decode cL_station 15 = .ok (.iconst 1, 1) := by decide +kernel
theorem dL_station_16 : decode cL_station 16 = .ok (.ireturn, 1) := by decide +kernel
theorem dL_station_17 : decode cL_station 17 = .ok (.astore 4, 2) := by decide +kernel
theorem dL_station_19 : decode cL_station 19 = .ok (.iconst 2, 1) := by decide +kernel
theorem dL_station_20 : decode cL_station 20 = .ok (.ireturn, 1) := by decide +kernel
theorem dL_station_21 : decode cL_station 21 = .ok (.iconst 0, 1) := by decide +kernel
theorem dL_station_22 : decode cL_station 22 = .ok (.ireturn, 1) := by decide +kernel
theorem dL_addressAt_0 : decode cL_addressAt 0 = .ok (.aload_n 2, 1) := by decide +kernel
theorem dL_addressAt_1 : decode cL_addressAt 1 = .ok (.iconst 0, 1) := by decide +kernel
theorem dL_addressAt_2 : decode cL_addressAt 2 = .ok (.aload_n 0, 1) := by decide +kernel
theorem dL_addressAt_3 : decode cL_addressAt 3 = .ok (.iload_n 1, 1) := by decide +kernel
theorem dL_addressAt_4 : decode cL_addressAt 4 = .ok (.invokevirtual 43, 3) := by decide +kernel
theorem dL_addressAt_7 : decode cL_addressAt 7 = .ok (.i2l, 1) := by decide +kernel
theorem dL_addressAt_8 : decode cL_addressAt 8 = .ok (.lastore, 1) := by decide +kernel
theorem dL_addressAt_9 : decode cL_addressAt 9 = .ok (.goto 6, 3) := by decide +kernel
theorem dL_addressAt_12 : decode cL_addressAt 12 = .ok (.astore_n 3, 1) := by decide +kernel
theorem dL_addressAt_13 : decode cL_addressAt 13 = .ok (.iconst 1, 1) := by decide +kernel
theorem dL_addressAt_14 : decode cL_addressAt 14 = .ok (.ireturn, 1) := by decide +kernel
theorem dL_addressAt_15 : decode cL_addressAt 15 = .ok (.iconst 0, 1) := by decide +kernel
theorem dL_addressAt_16 : decode cL_addressAt 16 = .ok (.ireturn, 1) := by decide +kernel
theorem dL_queued_0 : decode cL_queued 0 = .ok (.aload_n 3, 1) := by decide +kernel
theorem dL_queued_1 : decode cL_queued 1 = .ok (.iconst 0, 1) := by decide +kernel
theorem dL_queued_2 : decode cL_queued 2 = .ok (.aload_n 0, 1) := by decide +kernel
theorem dL_queued_3 : decode cL_queued 3 = .ok (.iload_n 1, 1) := by decide +kernel
theorem dL_queued_4 : decode cL_queued 4 = .ok (.iload_n 2, 1) := by decide +kernel
theorem dL_queued_5 : decode cL_queued 5 = .ok (.invokevirtual 48, 3) := by decide +kernel
theorem dL_queued_8 : decode cL_queued 8 = .ok (.i2l, 1) := by decide +kernel
theorem dL_queued_9 : decode cL_queued 9 = .ok (.lastore, 1) := by decide +kernel
theorem dL_queued_10 : decode cL_queued 10 = .ok (.goto 11, 3) := by decide +kernel
theorem dL_queued_13 : decode cL_queued 13 = .ok (.astore 4, 2) := by decide +kernel
theorem dL_queued_15 : decode cL_queued 15 = .ok (.iconst 1, 1) := by decide +kernel
theorem dL_queued_16 : decode cL_queued 16 = .ok (.ireturn, 1) := by decide +kernel
theorem dL_queued_17 : decode cL_queued 17 = .ok (.astore 4, 2) := by decide +kernel
theorem dL_queued_19 : decode cL_queued 19 = .ok (.iconst 2, 1) := by decide +kernel
theorem dL_queued_20 : decode cL_queued 20 = .ok (.ireturn, 1) := by decide +kernel
theorem dL_queued_21 : decode cL_queued 21 = .ok (.iconst 0, 1) := by decide +kernel
theorem dL_queued_22 : decode cL_queued 22 = .ok (.ireturn, 1) := by decide +kernel
theorem dL_message_0 : decode cL_message 0 = .ok (.aload_n 3, 1) := by decide +kernel
theorem dL_message_1 : decode cL_message 1 = .ok (.iconst 0, 1) := by decide +kernel
theorem dL_message_2 : decode cL_message 2 = .ok (.aload_n 0, 1) := by decide +kernel
theorem dL_message_3 : decode cL_message 3 = .ok (.iload_n 1, 1) := by decide +kernel
theorem dL_message_4 : decode cL_message 4 = .ok (.iload_n 2, 1) := by decide +kernel
theorem dL_message_5 : decode cL_message 5 = .ok (.invokevirtual 51, 3) := by decide +kernel
theorem dL_message_8 : decode cL_message 8 = .ok (.i2l, 1) := by decide +kernel
theorem dL_message_9 : decode cL_message 9 = .ok (.lastore, 1) := by decide +kernel
theorem dL_message_10 : decode cL_message 10 = .ok (.goto 11, 3) := by decide +kernel
theorem dL_message_13 : decode cL_message 13 = .ok (.astore 4, 2) := by decide +kernel
theorem dL_message_15 : decode cL_message 15 = .ok (.iconst 1, 1) := by decide +kernel
theorem dL_message_16 : decode cL_message 16 = .ok (.ireturn, 1) := by decide +kernel
theorem dL_message_17 : decode cL_message 17 = .ok (.astore 4, 2) := by decide +kernel
theorem dL_message_19 : decode cL_message 19 = .ok (.iconst 2, 1) := by decide +kernel
theorem dL_message_20 : decode cL_message 20 = .ok (.ireturn, 1) := by decide +kernel
theorem dL_message_21 : decode cL_message 21 = .ok (.iconst 0, 1) := by decide +kernel
theorem dL_message_22 : decode cL_message 22 = .ok (.ireturn, 1) := by decide +kernel
theorem dL_count_0 : decode cL_count 0 = .ok (.aload_n 2, 1) := by decide +kernel
theorem dL_count_1 : decode cL_count 1 = .ok (.iconst 0, 1) := by decide +kernel
theorem dL_count_2 : decode cL_count 2 = .ok (.aload_n 0, 1) := by decide +kernel
theorem dL_count_3 : decode cL_count 3 = .ok (.iload_n 1, 1) := by decide +kernel
theorem dL_count_4 : decode cL_count 4 = .ok (.invokevirtual 54, 3) := by decide +kernel
theorem dL_count_7 : decode cL_count 7 = .ok (.i2l, 1) := by decide +kernel
theorem dL_count_8 : decode cL_count 8 = .ok (.lastore, 1) := by decide +kernel
theorem dL_count_9 : decode cL_count 9 = .ok (.goto 6, 3) := by decide +kernel
theorem dL_count_12 : decode cL_count 12 = .ok (.astore_n 3, 1) := by decide +kernel
theorem dL_count_13 : decode cL_count 13 = .ok (.iconst 1, 1) := by decide +kernel
theorem dL_count_14 : decode cL_count 14 = .ok (.ireturn, 1) := by decide +kernel
theorem dL_count_15 : decode cL_count 15 = .ok (.iconst 0, 1) := by decide +kernel
theorem dL_count_16 : decode cL_count 16 = .ok (.ireturn, 1) := by decide +kernel
theorem dL_isNoisy_0 : decode cL_isNoisy 0 = .ok (.aload_n 2, 1) := by decide +kernel
theorem dL_isNoisy_1 : decode cL_isNoisy 1 = .ok (.iconst 0, 1) := by decide +kernel
theorem dL_isNoisy_2 : decode cL_isNoisy 2 = .ok (.aload_n 0, 1) := by decide +kernel
theorem dL_isNoisy_3 : decode cL_isNoisy 3 = .ok (.iload_n 1, 1) := by decide +kernel
theorem dL_isNoisy_4 : decode cL_isNoisy 4 = .ok (.invokevirtual 57, 3) := by decide +kernel
theorem dL_isNoisy_7 : decode cL_isNoisy 7 = .ok (.ifCond .eq 7, 3) := by decide +kernel
theorem dL_isNoisy_10 : decode cL_isNoisy 10 = .ok (.lconst 1, 1) := by decide +kernel
theorem dL_isNoisy_11 : decode cL_isNoisy 11 = .ok (.goto 4, 3) := by decide +kernel
theorem dL_isNoisy_14 : decode cL_isNoisy 14 = .ok (.lconst 0, 1) := by decide +kernel
theorem dL_isNoisy_15 : decode cL_isNoisy 15 = .ok (.lastore, 1) := by decide +kernel
theorem dL_isNoisy_16 : decode cL_isNoisy 16 = .ok (.goto 6, 3) := by decide +kernel
theorem dL_isNoisy_19 : decode cL_isNoisy 19 = .ok (.astore_n 3, 1) := by decide +kernel
theorem dL_isNoisy_20 : decode cL_isNoisy 20 = .ok (.iconst 1, 1) := by decide +kernel
theorem dL_isNoisy_21 : decode cL_isNoisy 21 = .ok (.ireturn, 1) := by decide +kernel
theorem dL_isNoisy_22 : decode cL_isNoisy 22 = .ok (.iconst 0, 1) := by decide +kernel
theorem dL_isNoisy_23 : decode cL_isNoisy 23 = .ok (.ireturn, 1) := by decide +kernel
theorem dL_visit_0 : decode cL_visit 0 = .ok (.aload_n 3, 1) := by decide +kernel
theorem dL_visit_1 : decode cL_visit 1 = .ok (.iconst 0, 1) := by decide +kernel
theorem dL_visit_2 : decode cL_visit 2 = .ok (.aload_n 0, 1) := by decide +kernel
theorem dL_visit_3 : decode cL_visit 3 = .ok (.iload_n 1, 1) := by decide +kernel
theorem dL_visit_4 : decode cL_visit 4 = .ok (.iload_n 2, 1) := by decide +kernel
theorem dL_visit_5 : decode cL_visit 5 = .ok (.invokevirtual 61, 3) := by decide +kernel
theorem dL_visit_8 : decode cL_visit 8 = .ok (.i2l, 1) := by decide +kernel
theorem dL_visit_9 : decode cL_visit 9 = .ok (.lastore, 1) := by decide +kernel
theorem dL_visit_10 : decode cL_visit 10 = .ok (.goto 11, 3) := by decide +kernel
theorem dL_visit_13 : decode cL_visit 13 = .ok (.astore 4, 2) := by decide +kernel
theorem dL_visit_15 : decode cL_visit 15 = .ok (.iconst 1, 1) := by decide +kernel
theorem dL_visit_16 : decode cL_visit 16 = .ok (.ireturn, 1) := by decide +kernel
theorem dL_visit_17 : decode cL_visit 17 = .ok (.astore 4, 2) := by decide +kernel
theorem dL_visit_19 : decode cL_visit 19 = .ok (.iconst 2, 1) := by decide +kernel
theorem dL_visit_20 : decode cL_visit 20 = .ok (.ireturn, 1) := by decide +kernel
theorem dL_visit_21 : decode cL_visit 21 = .ok (.iconst 0, 1) := by decide +kernel
theorem dL_visit_22 : decode cL_visit 22 = .ok (.ireturn, 1) := by decide +kernel
theorem dL_waitOf_0 : decode cL_waitOf 0 = .ok (.aload_n 2, 1) := by decide +kernel
theorem dL_waitOf_1 : decode cL_waitOf 1 = .ok (.iconst 0, 1) := by decide +kernel
theorem dL_waitOf_2 : decode cL_waitOf 2 = .ok (.aload_n 0, 1) := by decide +kernel
theorem dL_waitOf_3 : decode cL_waitOf 3 = .ok (.iload_n 1, 1) := by decide +kernel
theorem dL_waitOf_4 : decode cL_waitOf 4 = .ok (.invokevirtual 64, 3) := by decide +kernel
theorem dL_waitOf_7 : decode cL_waitOf 7 = .ok (.i2l, 1) := by decide +kernel
theorem dL_waitOf_8 : decode cL_waitOf 8 = .ok (.lastore, 1) := by decide +kernel
theorem dL_waitOf_9 : decode cL_waitOf 9 = .ok (.goto 9, 3) := by decide +kernel
theorem dL_waitOf_12 : decode cL_waitOf 12 = .ok (.astore_n 3, 1) := by decide +kernel
theorem dL_waitOf_13 : decode cL_waitOf 13 = .ok (.iconst 1, 1) := by decide +kernel
theorem dL_waitOf_14 : decode cL_waitOf 14 = .ok (.ireturn, 1) := by decide +kernel
theorem dL_waitOf_15 : decode cL_waitOf 15 = .ok (.astore_n 3, 1) := by decide +kernel
theorem dL_waitOf_16 : decode cL_waitOf 16 = .ok (.iconst 2, 1) := by decide +kernel
theorem dL_waitOf_17 : decode cL_waitOf 17 = .ok (.ireturn, 1) := by decide +kernel
theorem dL_waitOf_18 : decode cL_waitOf 18 = .ok (.iconst 0, 1) := by decide +kernel
theorem dL_waitOf_19 : decode cL_waitOf 19 = .ok (.ireturn, 1) := by decide +kernel
theorem dL_completeAfter_0 : decode cL_completeAfter 0 = .ok (.aload_n 1, 1) := by decide +kernel
theorem dL_completeAfter_1 : decode cL_completeAfter 1 = .ok (.iconst 0, 1) := by decide +kernel
theorem dL_completeAfter_2 : decode cL_completeAfter 2 = .ok (.aload_n 0, 1) := by decide +kernel
theorem dL_completeAfter_3 : decode cL_completeAfter 3 = .ok (.invokevirtual 67, 3) := by decide +kernel
theorem dL_completeAfter_6 : decode cL_completeAfter 6 = .ok (.i2l, 1) := by decide +kernel
theorem dL_completeAfter_7 : decode cL_completeAfter 7 = .ok (.lastore, 1) := by decide +kernel
theorem dL_completeAfter_8 : decode cL_completeAfter 8 = .ok (.goto 6, 3) := by decide +kernel
theorem dL_completeAfter_11 : decode cL_completeAfter 11 = .ok (.astore_n 2, 1) := by decide +kernel
theorem dL_completeAfter_12 : decode cL_completeAfter 12 = .ok (.iconst 1, 1) := by decide +kernel
theorem dL_completeAfter_13 : decode cL_completeAfter 13 = .ok (.ireturn, 1) := by decide +kernel
theorem dL_completeAfter_14 : decode cL_completeAfter 14 = .ok (.iconst 0, 1) := by decide +kernel
theorem dL_completeAfter_15 : decode cL_completeAfter 15 = .ok (.ireturn, 1) := by decide +kernel
theorem dL_leastTarget_0 : decode cL_leastTarget 0 = .ok (.aload_n 2, 1) := by decide +kernel
theorem dL_leastTarget_1 : decode cL_leastTarget 1 = .ok (.iconst 0, 1) := by decide +kernel
theorem dL_leastTarget_2 : decode cL_leastTarget 2 = .ok (.aload_n 0, 1) := by decide +kernel
theorem dL_leastTarget_3 : decode cL_leastTarget 3 = .ok (.iload_n 1, 1) := by decide +kernel
theorem dL_leastTarget_4 : decode cL_leastTarget 4 = .ok (.invokevirtual 71, 3) := by decide +kernel
theorem dL_leastTarget_7 : decode cL_leastTarget 7 = .ok (.i2l, 1) := by decide +kernel
theorem dL_leastTarget_8 : decode cL_leastTarget 8 = .ok (.lastore, 1) := by decide +kernel
theorem dL_leastTarget_9 : decode cL_leastTarget 9 = .ok (.goto 9, 3) := by decide +kernel
theorem dL_leastTarget_12 : decode cL_leastTarget 12 = .ok (.astore_n 3, 1) := by decide +kernel
theorem dL_leastTarget_13 : decode cL_leastTarget 13 = .ok (.iconst 1, 1) := by decide +kernel
theorem dL_leastTarget_14 : decode cL_leastTarget 14 = .ok (.ireturn, 1) := by decide +kernel
theorem dL_leastTarget_15 : decode cL_leastTarget 15 = .ok (.astore_n 3, 1) := by decide +kernel
theorem dL_leastTarget_16 : decode cL_leastTarget 16 = .ok (.iconst 2, 1) := by decide +kernel
theorem dL_leastTarget_17 : decode cL_leastTarget 17 = .ok (.ireturn, 1) := by decide +kernel
theorem dL_leastTarget_18 : decode cL_leastTarget 18 = .ok (.iconst 0, 1) := by decide +kernel
theorem dL_leastTarget_19 : decode cL_leastTarget 19 = .ok (.ireturn, 1) := by decide +kernel
theorem dL_append_0 : decode cL_append 0 = .ok (.aload_n 2, 1) := by decide +kernel
theorem dL_append_1 : decode cL_append 1 = .ok (.iconst 0, 1) := by decide +kernel
theorem dL_append_2 : decode cL_append 2 = .ok (.aload_n 0, 1) := by decide +kernel
theorem dL_append_3 : decode cL_append 3 = .ok (.iload_n 1, 1) := by decide +kernel
theorem dL_append_4 : decode cL_append 4 = .ok (.invokevirtual 74, 3) := by decide +kernel
theorem dL_append_7 : decode cL_append 7 = .ok (.i2l, 1) := by decide +kernel
theorem dL_append_8 : decode cL_append 8 = .ok (.lastore, 1) := by decide +kernel
theorem dL_append_9 : decode cL_append 9 = .ok (.goto 9, 3) := by decide +kernel
theorem dL_append_12 : decode cL_append 12 = .ok (.astore_n 3, 1) := by decide +kernel
theorem dL_append_13 : decode cL_append 13 = .ok (.iconst 1, 1) := by decide +kernel
theorem dL_append_14 : decode cL_append 14 = .ok (.ireturn, 1) := by decide +kernel
theorem dL_append_15 : decode cL_append 15 = .ok (.astore_n 3, 1) := by decide +kernel
theorem dL_append_16 : decode cL_append 16 = .ok (.iconst 2, 1) := by decide +kernel
theorem dL_append_17 : decode cL_append 17 = .ok (.ireturn, 1) := by decide +kernel
theorem dL_append_18 : decode cL_append 18 = .ok (.iconst 0, 1) := by decide +kernel
theorem dL_append_19 : decode cL_append 19 = .ok (.ireturn, 1) := by decide +kernel
theorem dL_undo_0 : decode cL_undo 0 = .ok (.aload_n 1, 1) := by decide +kernel
theorem dL_undo_1 : decode cL_undo 1 = .ok (.iconst 0, 1) := by decide +kernel
theorem dL_undo_2 : decode cL_undo 2 = .ok (.aload_n 0, 1) := by decide +kernel
theorem dL_undo_3 : decode cL_undo 3 = .ok (.invokevirtual 77, 3) := by decide +kernel
theorem dL_undo_6 : decode cL_undo 6 = .ok (.i2l, 1) := by decide +kernel
theorem dL_undo_7 : decode cL_undo 7 = .ok (.lastore, 1) := by decide +kernel
theorem dL_undo_8 : decode cL_undo 8 = .ok (.goto 6, 3) := by decide +kernel
theorem dL_undo_11 : decode cL_undo 11 = .ok (.astore_n 2, 1) := by decide +kernel
theorem dL_undo_12 : decode cL_undo 12 = .ok (.iconst 1, 1) := by decide +kernel
theorem dL_undo_13 : decode cL_undo 13 = .ok (.ireturn, 1) := by decide +kernel
theorem dL_undo_14 : decode cL_undo 14 = .ok (.iconst 0, 1) := by decide +kernel
theorem dL_undo_15 : decode cL_undo 15 = .ok (.ireturn, 1) := by decide +kernel
theorem dL_law_0 : decode cL_law 0 = .ok (.new 8, 3) := by decide +kernel
theorem dL_law_3 : decode cL_law 3 = .ok (.dup, 1) := by decide +kernel
theorem dL_law_4 : decode cL_law 4 = .ok (.invokespecial 80, 3) := by decide +kernel
theorem dL_law_7 : decode cL_law 7 = .ok (.astore_n 1, 1) := by decide +kernel
theorem dL_law_8 : decode cL_law 8 = .ok (.new 81, 3) := by decide +kernel
theorem dL_law_11 : decode cL_law 11 = .ok (.dup, 1) := by decide +kernel
theorem dL_law_12 : decode cL_law 12 = .ok (.invokespecial 83, 3) := by decide +kernel
theorem dL_law_15 : decode cL_law 15 = .ok (.astore_n 2, 1) := by decide +kernel
theorem dL_law_16 : decode cL_law 16 = .ok (.iconst 1, 1) := by decide +kernel
theorem dL_law_17 : decode cL_law 17 = .ok (.newarray .long, 2) := by decide +kernel
theorem dL_law_19 : decode cL_law 19 = .ok (.astore_n 3, 1) := by decide +kernel
theorem dL_law_20 : decode cL_law 20 = .ok (.iconst 0, 1) := by decide +kernel
theorem dL_law_21 : decode cL_law 21 = .ok (.istore 4, 2) := by decide +kernel
theorem dL_law_23 : decode cL_law 23 = .ok (.iload 4, 2) := by decide +kernel
theorem dL_law_25 : decode cL_law 25 = .ok (.aload_n 0, 1) := by decide +kernel
theorem dL_law_26 : decode cL_law 26 = .ok (.arraylength, 1) := by decide +kernel
theorem dL_law_27 : decode cL_law 27 = .ok (.iconst 4, 1) := by decide +kernel
theorem dL_law_28 : decode cL_law 28 = .ok (.isub, 1) := by decide +kernel
theorem dL_law_29 : decode cL_law 29 = .ok (.if_icmp .gt 1516, 3) := by decide +kernel
theorem dL_law_32 : decode cL_law 32 = .ok (.aload_n 0, 1) := by decide +kernel
theorem dL_law_33 : decode cL_law 33 = .ok (.iload 4, 2) := by decide +kernel
theorem dL_law_35 : decode cL_law 35 = .ok (.iaload, 1) := by decide +kernel
theorem dL_law_36 : decode cL_law 36 = .ok (.bipush 31, 2) := by decide +kernel
theorem dL_law_38 : decode cL_law 38 = .ok (.iand, 1) := by decide +kernel
theorem dL_law_39 : decode cL_law 39 = .ok (.tableswitch 1500 0 26 #[121, 177, 268, 348, 428, 496, 552, 565, 621, 689, 745, 813, 881, 937, 1000, 1013, 1081, 1094, 1163, 1204, 1260, 1304, 1360, 1416, 1429, 1442, 1486], 121) := by decide +kernel
theorem dL_law_160 : decode cL_law 160 = .ok (.aload_n 1, 1) := by decide +kernel
theorem dL_law_161 : decode cL_law 161 = .ok (.aload_n 0, 1) := by decide +kernel
theorem dL_law_162 : decode cL_law 162 = .ok (.iload 4, 2) := by decide +kernel
theorem dL_law_164 : decode cL_law 164 = .ok (.iconst 1, 1) := by decide +kernel
theorem dL_law_165 : decode cL_law 165 = .ok (.iadd, 1) := by decide +kernel
theorem dL_law_166 : decode cL_law 166 = .ok (.iaload, 1) := by decide +kernel
theorem dL_law_167 : decode cL_law 167 = .ok (.aload_n 3, 1) := by decide +kernel
theorem dL_law_168 : decode cL_law 168 = .ok (.invokestatic 84, 3) := by decide +kernel
theorem dL_law_171 : decode cL_law 171 = .ok (.istore 5, 2) := by decide +kernel
theorem dL_law_173 : decode cL_law 173 = .ok (.aload_n 2, 1) := by decide +kernel
theorem dL_law_174 : decode cL_law 174 = .ok (.aload_n 0, 1) := by decide +kernel
theorem dL_law_175 : decode cL_law 175 = .ok (.iload 4, 2) := by decide +kernel
theorem dL_law_177 : decode cL_law 177 = .ok (.iconst 1, 1) := by decide +kernel
theorem dL_law_178 : decode cL_law 178 = .ok (.iadd, 1) := by decide +kernel
theorem dL_law_179 : decode cL_law 179 = .ok (.iaload, 1) := by decide +kernel
theorem dL_law_180 : decode cL_law 180 = .ok (.invokevirtual 89, 3) := by decide +kernel
theorem dL_law_183 : decode cL_law 183 = .ok (.istore 6, 2) := by decide +kernel
theorem dL_law_185 : decode cL_law 185 = .ok (.aload_n 2, 1) := by decide +kernel
theorem dL_law_186 : decode cL_law 186 = .ok (.invokevirtual 90, 3) := by decide +kernel
theorem dL_law_189 : decode cL_law 189 = .ok (.iload 5, 2) := by decide +kernel
theorem dL_law_191 : decode cL_law 191 = .ok (.if_icmp .eq 5, 3) := by decide +kernel
theorem dL_law_194 : decode cL_law 194 = .ok (.iconst 0, 1) := by decide +kernel
theorem dL_law_195 : decode cL_law 195 = .ok (.ireturn, 1) := by decide +kernel
theorem dL_law_196 : decode cL_law 196 = .ok (.iload 5, 2) := by decide +kernel
theorem dL_law_198 : decode cL_law 198 = .ok (.ifCond .ne 15, 3) := by decide +kernel
theorem dL_law_201 : decode cL_law 201 = .ok (.aload_n 3, 1) := by decide +kernel
theorem dL_law_202 : decode cL_law 202 = .ok (.iconst 0, 1) := by decide +kernel
theorem dL_law_203 : decode cL_law 203 = .ok (.laload, 1) := by decide +kernel
theorem dL_law_204 : decode cL_law 204 = .ok (.iload 6, 2) := by decide +kernel
theorem dL_law_206 : decode cL_law 206 = .ok (.i2l, 1) := by decide +kernel
theorem dL_law_207 : decode cL_law 207 = .ok (.lcmp, 1) := by decide +kernel
theorem dL_law_208 : decode cL_law 208 = .ok (.ifCond .eq 5, 3) := by decide +kernel
theorem dL_law_211 : decode cL_law 211 = .ok (.iconst 0, 1) := by decide +kernel
theorem dL_law_212 : decode cL_law 212 = .ok (.ireturn, 1) := by decide +kernel
theorem dL_law_213 : decode cL_law 213 = .ok (.goto 1326, 3) := by decide +kernel
theorem dL_law_216 : decode cL_law 216 = .ok (.aload_n 1, 1) := by decide +kernel
theorem dL_law_217 : decode cL_law 217 = .ok (.aload_n 0, 1) := by decide +kernel
theorem dL_law_218 : decode cL_law 218 = .ok (.iload 4, 2) := by decide +kernel
theorem dL_law_220 : decode cL_law 220 = .ok (.iconst 1, 1) := by decide +kernel
theorem dL_law_221 : decode cL_law 221 = .ok (.iadd, 1) := by decide +kernel
theorem dL_law_222 : decode cL_law 222 = .ok (.iaload, 1) := by decide +kernel
theorem dL_law_223 : decode cL_law 223 = .ok (.aload_n 0, 1) := by decide +kernel
theorem dL_law_224 : decode cL_law 224 = .ok (.iload 4, 2) := by decide +kernel
theorem dL_law_226 : decode cL_law 226 = .ok (.iconst 2, 1) := by decide +kernel
theorem dL_law_227 : decode cL_law 227 = .ok (.iadd, 1) := by decide +kernel
theorem dL_law_228 : decode cL_law 228 = .ok (.iaload, 1) := by decide +kernel
theorem dL_law_229 : decode cL_law 229 = .ok (.ifCond .eq 7, 3) := by decide +kernel
theorem dL_law_232 : decode cL_law 232 = .ok (.iconst 1, 1) := by decide +kernel
theorem dL_law_233 : decode cL_law 233 = .ok (.goto 4, 3) := by decide +kernel
theorem dL_law_236 : decode cL_law 236 = .ok (.iconst 0, 1) := by decide +kernel
theorem dL_law_237 : decode cL_law 237 = .ok (.aload_n 3, 1) := by decide +kernel
theorem dL_law_238 : decode cL_law 238 = .ok (.invokestatic 93, 3) := by decide +kernel
theorem dL_law_241 : decode cL_law 241 = .ok (.istore 5, 2) := by decide +kernel
theorem dL_law_243 : decode cL_law 243 = .ok (.aload_n 2, 1) := by decide +kernel
theorem dL_law_244 : decode cL_law 244 = .ok (.aload_n 0, 1) := by decide +kernel
theorem dL_law_245 : decode cL_law 245 = .ok (.iload 4, 2) := by decide +kernel
theorem dL_law_247 : decode cL_law 247 = .ok (.iconst 1, 1) := by decide +kernel
theorem dL_law_248 : decode cL_law 248 = .ok (.iadd, 1) := by decide +kernel
theorem dL_law_249 : decode cL_law 249 = .ok (.iaload, 1) := by decide +kernel
theorem dL_law_250 : decode cL_law 250 = .ok (.aload_n 0, 1) := by decide +kernel
theorem dL_law_251 : decode cL_law 251 = .ok (.iload 4, 2) := by decide +kernel
theorem dL_law_253 : decode cL_law 253 = .ok (.iconst 2, 1) := by decide +kernel
theorem dL_law_254 : decode cL_law 254 = .ok (.iadd, 1) := by decide +kernel
theorem dL_law_255 : decode cL_law 255 = .ok (.iaload, 1) := by decide +kernel
theorem dL_law_256 : decode cL_law 256 = .ok (.ifCond .eq 7, 3) := by decide +kernel
theorem dL_law_259 : decode cL_law 259 = .ok (.iconst 1, 1) := by decide +kernel
theorem dL_law_260 : decode cL_law 260 = .ok (.goto 4, 3) := by decide +kernel
theorem dL_law_263 : decode cL_law 263 = .ok (.iconst 0, 1) := by decide +kernel
theorem dL_law_264 : decode cL_law 264 = .ok (.invokevirtual 96, 3) := by decide +kernel
theorem dL_law_267 : decode cL_law 267 = .ok (.istore 6, 2) := by decide +kernel
theorem dL_law_269 : decode cL_law 269 = .ok (.aload_n 2, 1) := by decide +kernel
theorem dL_law_270 : decode cL_law 270 = .ok (.invokevirtual 90, 3) := by decide +kernel
theorem dL_law_273 : decode cL_law 273 = .ok (.iload 5, 2) := by decide +kernel
theorem dL_law_275 : decode cL_law 275 = .ok (.if_icmp .eq 5, 3) := by decide +kernel
theorem dL_law_278 : decode cL_law 278 = .ok (.iconst 0, 1) := by decide +kernel
theorem dL_law_279 : decode cL_law 279 = .ok (.ireturn, 1) := by decide +kernel
theorem dL_law_280 : decode cL_law 280 = .ok (.iload 5, 2) := by decide +kernel
theorem dL_law_282 : decode cL_law 282 = .ok (.ifCond .ne 22, 3) := by decide +kernel
theorem dL_law_285 : decode cL_law 285 = .ok (.aload_n 3, 1) := by decide +kernel
theorem dL_law_286 : decode cL_law 286 = .ok (.iconst 0, 1) := by decide +kernel
theorem dL_law_287 : decode cL_law 287 = .ok (.laload, 1) := by decide +kernel
theorem dL_law_288 : decode cL_law 288 = .ok (.iload 6, 2) := by decide +kernel
theorem dL_law_290 : decode cL_law 290 = .ok (.ifCond .eq 7, 3) := by decide +kernel
theorem dL_law_293 : decode cL_law 293 = .ok (.lconst 1, 1) := by decide +kernel
theorem dL_law_294 : decode cL_law 294 = .ok (.goto 4, 3) := by decide +kernel
theorem dL_law_297 : decode cL_law 297 = .ok (.lconst 0, 1) := by decide +kernel
theorem dL_law_298 : decode cL_law 298 = .ok (.lcmp, 1) := by decide +kernel
theorem dL_law_299 : decode cL_law 299 = .ok (.ifCond .eq 5, 3) := by decide +kernel
theorem dL_law_302 : decode cL_law 302 = .ok (.iconst 0, 1) := by decide +kernel
theorem dL_law_303 : decode cL_law 303 = .ok (.ireturn, 1) := by decide +kernel
theorem dL_law_304 : decode cL_law 304 = .ok (.goto 1235, 3) := by decide +kernel
theorem dL_law_307 : decode cL_law 307 = .ok (.aload_n 1, 1) := by decide +kernel
theorem dL_law_308 : decode cL_law 308 = .ok (.aload_n 0, 1) := by decide +kernel
theorem dL_law_309 : decode cL_law 309 = .ok (.iload 4, 2) := by decide +kernel
theorem dL_law_311 : decode cL_law 311 = .ok (.iconst 1, 1) := by decide +kernel
theorem dL_law_312 : decode cL_law 312 = .ok (.iadd, 1) := by decide +kernel
theorem dL_law_313 : decode cL_law 313 = .ok (.iaload, 1) := by decide +kernel
theorem dL_law_314 : decode cL_law 314 = .ok (.aload_n 0, 1) := by decide +kernel
theorem dL_law_315 : decode cL_law 315 = .ok (.iload 4, 2) := by decide +kernel
theorem dL_law_317 : decode cL_law 317 = .ok (.iconst 2, 1) := by decide +kernel
theorem dL_law_318 : decode cL_law 318 = .ok (.iadd, 1) := by decide +kernel
theorem dL_law_319 : decode cL_law 319 = .ok (.iaload, 1) := by decide +kernel
theorem dL_law_320 : decode cL_law 320 = .ok (.aload_n 0, 1) := by decide +kernel
theorem dL_law_321 : decode cL_law 321 = .ok (.iload 4, 2) := by decide +kernel
theorem dL_law_323 : decode cL_law 323 = .ok (.iconst 3, 1) := by decide +kernel
theorem dL_law_324 : decode cL_law 324 = .ok (.iadd, 1) := by decide +kernel
theorem dL_law_325 : decode cL_law 325 = .ok (.iaload, 1) := by decide +kernel
theorem dL_law_326 : decode cL_law 326 = .ok (.aload_n 3, 1) := by decide +kernel
theorem dL_law_327 : decode cL_law 327 = .ok (.invokestatic 97, 3) := by decide +kernel
theorem dL_law_330 : decode cL_law 330 = .ok (.istore 5, 2) := by decide +kernel
theorem dL_law_332 : decode cL_law 332 = .ok (.aload_n 2, 1) := by decide +kernel
theorem dL_law_333 : decode cL_law 333 = .ok (.aload_n 0, 1) := by decide +kernel
theorem dL_law_334 : decode cL_law 334 = .ok (.iload 4, 2) := by decide +kernel
theorem dL_law_336 : decode cL_law 336 = .ok (.iconst 1, 1) := by decide +kernel
theorem dL_law_337 : decode cL_law 337 = .ok (.iadd, 1) := by decide +kernel
theorem dL_law_338 : decode cL_law 338 = .ok (.iaload, 1) := by decide +kernel
theorem dL_law_339 : decode cL_law 339 = .ok (.aload_n 0, 1) := by decide +kernel
theorem dL_law_340 : decode cL_law 340 = .ok (.iload 4, 2) := by decide +kernel
theorem dL_law_342 : decode cL_law 342 = .ok (.iconst 2, 1) := by decide +kernel
theorem dL_law_343 : decode cL_law 343 = .ok (.iadd, 1) := by decide +kernel
theorem dL_law_344 : decode cL_law 344 = .ok (.iaload, 1) := by decide +kernel
theorem dL_law_345 : decode cL_law 345 = .ok (.aload_n 0, 1) := by decide +kernel
theorem dL_law_346 : decode cL_law 346 = .ok (.iload 4, 2) := by decide +kernel
theorem dL_law_348 : decode cL_law 348 = .ok (.iconst 3, 1) := by decide +kernel
theorem dL_law_349 : decode cL_law 349 = .ok (.iadd, 1) := by decide +kernel
theorem dL_law_350 : decode cL_law 350 = .ok (.iaload, 1) := by decide +kernel
theorem dL_law_351 : decode cL_law 351 = .ok (.invokevirtual 100, 3) := by decide +kernel
theorem dL_law_354 : decode cL_law 354 = .ok (.istore 6, 2) := by decide +kernel
theorem dL_law_356 : decode cL_law 356 = .ok (.aload_n 2, 1) := by decide +kernel
theorem dL_law_357 : decode cL_law 357 = .ok (.invokevirtual 90, 3) := by decide +kernel
theorem dL_law_360 : decode cL_law 360 = .ok (.iload 5, 2) := by decide +kernel
theorem dL_law_362 : decode cL_law 362 = .ok (.if_icmp .eq 5, 3) := by decide +kernel
theorem dL_law_365 : decode cL_law 365 = .ok (.iconst 0, 1) := by decide +kernel
theorem dL_law_366 : decode cL_law 366 = .ok (.ireturn, 1) := by decide +kernel
theorem dL_law_367 : decode cL_law 367 = .ok (.iload 5, 2) := by decide +kernel
theorem dL_law_369 : decode cL_law 369 = .ok (.ifCond .ne 15, 3) := by decide +kernel
theorem dL_law_372 : decode cL_law 372 = .ok (.aload_n 3, 1) := by decide +kernel
theorem dL_law_373 : decode cL_law 373 = .ok (.iconst 0, 1) := by decide +kernel
theorem dL_law_374 : decode cL_law 374 = .ok (.laload, 1) := by decide +kernel
theorem dL_law_375 : decode cL_law 375 = .ok (.iload 6, 2) := by decide +kernel
theorem dL_law_377 : decode cL_law 377 = .ok (.i2l, 1) := by decide +kernel
theorem dL_law_378 : decode cL_law 378 = .ok (.lcmp, 1) := by decide +kernel
theorem dL_law_379 : decode cL_law 379 = .ok (.ifCond .eq 5, 3) := by decide +kernel
theorem dL_law_382 : decode cL_law 382 = .ok (.iconst 0, 1) := by decide +kernel
theorem dL_law_383 : decode cL_law 383 = .ok (.ireturn, 1) := by decide +kernel
theorem dL_law_384 : decode cL_law 384 = .ok (.goto 1155, 3) := by decide +kernel
theorem dL_law_387 : decode cL_law 387 = .ok (.aload_n 1, 1) := by decide +kernel
theorem dL_law_388 : decode cL_law 388 = .ok (.aload_n 0, 1) := by decide +kernel
theorem dL_law_389 : decode cL_law 389 = .ok (.iload 4, 2) := by decide +kernel
theorem dL_law_391 : decode cL_law 391 = .ok (.iconst 1, 1) := by decide +kernel
theorem dL_law_392 : decode cL_law 392 = .ok (.iadd, 1) := by decide +kernel
theorem dL_law_393 : decode cL_law 393 = .ok (.iaload, 1) := by decide +kernel
theorem dL_law_394 : decode cL_law 394 = .ok (.aload_n 0, 1) := by decide +kernel
theorem dL_law_395 : decode cL_law 395 = .ok (.iload 4, 2) := by decide +kernel
theorem dL_law_397 : decode cL_law 397 = .ok (.iconst 2, 1) := by decide +kernel
theorem dL_law_398 : decode cL_law 398 = .ok (.iadd, 1) := by decide +kernel
theorem dL_law_399 : decode cL_law 399 = .ok (.iaload, 1) := by decide +kernel
theorem dL_law_400 : decode cL_law 400 = .ok (.aload_n 0, 1) := by decide +kernel
theorem dL_law_401 : decode cL_law 401 = .ok (.iload 4, 2) := by decide +kernel
theorem dL_law_403 : decode cL_law 403 = .ok (.iconst 3, 1) := by decide +kernel
theorem dL_law_404 : decode cL_law 404 = .ok (.iadd, 1) := by decide +kernel
theorem dL_law_405 : decode cL_law 405 = .ok (.iaload, 1) := by decide +kernel
theorem dL_law_406 : decode cL_law 406 = .ok (.aload_n 3, 1) := by decide +kernel
theorem dL_law_407 : decode cL_law 407 = .ok (.invokestatic 101, 3) := by decide +kernel
theorem dL_law_410 : decode cL_law 410 = .ok (.istore 5, 2) := by decide +kernel
theorem dL_law_412 : decode cL_law 412 = .ok (.aload_n 2, 1) := by decide +kernel
theorem dL_law_413 : decode cL_law 413 = .ok (.aload_n 0, 1) := by decide +kernel
theorem dL_law_414 : decode cL_law 414 = .ok (.iload 4, 2) := by decide +kernel
theorem dL_law_416 : decode cL_law 416 = .ok (.iconst 1, 1) := by decide +kernel
theorem dL_law_417 : decode cL_law 417 = .ok (.iadd, 1) := by decide +kernel
theorem dL_law_418 : decode cL_law 418 = .ok (.iaload, 1) := by decide +kernel
theorem dL_law_419 : decode cL_law 419 = .ok (.aload_n 0, 1) := by decide +kernel
theorem dL_law_420 : decode cL_law 420 = .ok (.iload 4, 2) := by decide +kernel
theorem dL_law_422 : decode cL_law 422 = .ok (.iconst 2, 1) := by decide +kernel
theorem dL_law_423 : decode cL_law 423 = .ok (.iadd, 1) := by decide +kernel
theorem dL_law_424 : decode cL_law 424 = .ok (.iaload, 1) := by decide +kernel
theorem dL_law_425 : decode cL_law 425 = .ok (.aload_n 0, 1) := by decide +kernel
theorem dL_law_426 : decode cL_law 426 = .ok (.iload 4, 2) := by decide +kernel
theorem dL_law_428 : decode cL_law 428 = .ok (.iconst 3, 1) := by decide +kernel
theorem dL_law_429 : decode cL_law 429 = .ok (.iadd, 1) := by decide +kernel
theorem dL_law_430 : decode cL_law 430 = .ok (.iaload, 1) := by decide +kernel
theorem dL_law_431 : decode cL_law 431 = .ok (.invokevirtual 103, 3) := by decide +kernel
theorem dL_law_434 : decode cL_law 434 = .ok (.istore 6, 2) := by decide +kernel
theorem dL_law_436 : decode cL_law 436 = .ok (.aload_n 2, 1) := by decide +kernel
theorem dL_law_437 : decode cL_law 437 = .ok (.invokevirtual 90, 3) := by decide +kernel
theorem dL_law_440 : decode cL_law 440 = .ok (.iload 5, 2) := by decide +kernel
theorem dL_law_442 : decode cL_law 442 = .ok (.if_icmp .eq 5, 3) := by decide +kernel
theorem dL_law_445 : decode cL_law 445 = .ok (.iconst 0, 1) := by decide +kernel
theorem dL_law_446 : decode cL_law 446 = .ok (.ireturn, 1) := by decide +kernel
theorem dL_law_447 : decode cL_law 447 = .ok (.iload 5, 2) := by decide +kernel
theorem dL_law_449 : decode cL_law 449 = .ok (.ifCond .ne 15, 3) := by decide +kernel
theorem dL_law_452 : decode cL_law 452 = .ok (.aload_n 3, 1) := by decide +kernel
theorem dL_law_453 : decode cL_law 453 = .ok (.iconst 0, 1) := by decide +kernel
theorem dL_law_454 : decode cL_law 454 = .ok (.laload, 1) := by decide +kernel
theorem dL_law_455 : decode cL_law 455 = .ok (.iload 6, 2) := by decide +kernel
theorem dL_law_457 : decode cL_law 457 = .ok (.i2l, 1) := by decide +kernel
theorem dL_law_458 : decode cL_law 458 = .ok (.lcmp, 1) := by decide +kernel
theorem dL_law_459 : decode cL_law 459 = .ok (.ifCond .eq 5, 3) := by decide +kernel
theorem dL_law_462 : decode cL_law 462 = .ok (.iconst 0, 1) := by decide +kernel
theorem dL_law_463 : decode cL_law 463 = .ok (.ireturn, 1) := by decide +kernel
theorem dL_law_464 : decode cL_law 464 = .ok (.goto 1075, 3) := by decide +kernel
theorem dL_law_467 : decode cL_law 467 = .ok (.aload_n 1, 1) := by decide +kernel
theorem dL_law_468 : decode cL_law 468 = .ok (.aload_n 0, 1) := by decide +kernel
theorem dL_law_469 : decode cL_law 469 = .ok (.iload 4, 2) := by decide +kernel
theorem dL_law_471 : decode cL_law 471 = .ok (.iconst 1, 1) := by decide +kernel
theorem dL_law_472 : decode cL_law 472 = .ok (.iadd, 1) := by decide +kernel
theorem dL_law_473 : decode cL_law 473 = .ok (.iaload, 1) := by decide +kernel
theorem dL_law_474 : decode cL_law 474 = .ok (.aload_n 0, 1) := by decide +kernel
theorem dL_law_475 : decode cL_law 475 = .ok (.iload 4, 2) := by decide +kernel
theorem dL_law_477 : decode cL_law 477 = .ok (.iconst 2, 1) := by decide +kernel
theorem dL_law_478 : decode cL_law 478 = .ok (.iadd, 1) := by decide +kernel
theorem dL_law_479 : decode cL_law 479 = .ok (.iaload, 1) := by decide +kernel
theorem dL_law_480 : decode cL_law 480 = .ok (.aload_n 3, 1) := by decide +kernel
theorem dL_law_481 : decode cL_law 481 = .ok (.invokestatic 104, 3) := by decide +kernel
theorem dL_law_484 : decode cL_law 484 = .ok (.istore 5, 2) := by decide +kernel
theorem dL_law_486 : decode cL_law 486 = .ok (.aload_n 2, 1) := by decide +kernel
theorem dL_law_487 : decode cL_law 487 = .ok (.aload_n 0, 1) := by decide +kernel
theorem dL_law_488 : decode cL_law 488 = .ok (.iload 4, 2) := by decide +kernel
theorem dL_law_490 : decode cL_law 490 = .ok (.iconst 1, 1) := by decide +kernel
theorem dL_law_491 : decode cL_law 491 = .ok (.iadd, 1) := by decide +kernel
theorem dL_law_492 : decode cL_law 492 = .ok (.iaload, 1) := by decide +kernel
theorem dL_law_493 : decode cL_law 493 = .ok (.aload_n 0, 1) := by decide +kernel
theorem dL_law_494 : decode cL_law 494 = .ok (.iload 4, 2) := by decide +kernel
theorem dL_law_496 : decode cL_law 496 = .ok (.iconst 2, 1) := by decide +kernel
theorem dL_law_497 : decode cL_law 497 = .ok (.iadd, 1) := by decide +kernel
theorem dL_law_498 : decode cL_law 498 = .ok (.iaload, 1) := by decide +kernel
theorem dL_law_499 : decode cL_law 499 = .ok (.invokevirtual 107, 3) := by decide +kernel
theorem dL_law_502 : decode cL_law 502 = .ok (.istore 6, 2) := by decide +kernel
theorem dL_law_504 : decode cL_law 504 = .ok (.aload_n 2, 1) := by decide +kernel
theorem dL_law_505 : decode cL_law 505 = .ok (.invokevirtual 90, 3) := by decide +kernel
theorem dL_law_508 : decode cL_law 508 = .ok (.iload 5, 2) := by decide +kernel
theorem dL_law_510 : decode cL_law 510 = .ok (.if_icmp .eq 5, 3) := by decide +kernel
theorem dL_law_513 : decode cL_law 513 = .ok (.iconst 0, 1) := by decide +kernel
theorem dL_law_514 : decode cL_law 514 = .ok (.ireturn, 1) := by decide +kernel
theorem dL_law_515 : decode cL_law 515 = .ok (.iload 5, 2) := by decide +kernel
theorem dL_law_517 : decode cL_law 517 = .ok (.ifCond .ne 15, 3) := by decide +kernel
theorem dL_law_520 : decode cL_law 520 = .ok (.aload_n 3, 1) := by decide +kernel
theorem dL_law_521 : decode cL_law 521 = .ok (.iconst 0, 1) := by decide +kernel
theorem dL_law_522 : decode cL_law 522 = .ok (.laload, 1) := by decide +kernel
theorem dL_law_523 : decode cL_law 523 = .ok (.iload 6, 2) := by decide +kernel
theorem dL_law_525 : decode cL_law 525 = .ok (.i2l, 1) := by decide +kernel
theorem dL_law_526 : decode cL_law 526 = .ok (.lcmp, 1) := by decide +kernel
theorem dL_law_527 : decode cL_law 527 = .ok (.ifCond .eq 5, 3) := by decide +kernel
theorem dL_law_530 : decode cL_law 530 = .ok (.iconst 0, 1) := by decide +kernel
theorem dL_law_531 : decode cL_law 531 = .ok (.ireturn, 1) := by decide +kernel
theorem dL_law_532 : decode cL_law 532 = .ok (.goto 1007, 3) := by decide +kernel
theorem dL_law_535 : decode cL_law 535 = .ok (.aload_n 1, 1) := by decide +kernel
theorem dL_law_536 : decode cL_law 536 = .ok (.aload_n 0, 1) := by decide +kernel
theorem dL_law_537 : decode cL_law 537 = .ok (.iload 4, 2) := by decide +kernel
theorem dL_law_539 : decode cL_law 539 = .ok (.iconst 1, 1) := by decide +kernel
theorem dL_law_540 : decode cL_law 540 = .ok (.iadd, 1) := by decide +kernel
theorem dL_law_541 : decode cL_law 541 = .ok (.iaload, 1) := by decide +kernel
theorem dL_law_542 : decode cL_law 542 = .ok (.aload_n 3, 1) := by decide +kernel
theorem dL_law_543 : decode cL_law 543 = .ok (.invokestatic 108, 3) := by decide +kernel
theorem dL_law_546 : decode cL_law 546 = .ok (.istore 5, 2) := by decide +kernel
theorem dL_law_548 : decode cL_law 548 = .ok (.aload_n 2, 1) := by decide +kernel
theorem dL_law_549 : decode cL_law 549 = .ok (.aload_n 0, 1) := by decide +kernel
theorem dL_law_550 : decode cL_law 550 = .ok (.iload 4, 2) := by decide +kernel
theorem dL_law_552 : decode cL_law 552 = .ok (.iconst 1, 1) := by decide +kernel
theorem dL_law_553 : decode cL_law 553 = .ok (.iadd, 1) := by decide +kernel
theorem dL_law_554 : decode cL_law 554 = .ok (.iaload, 1) := by decide +kernel
theorem dL_law_555 : decode cL_law 555 = .ok (.invokevirtual 110, 3) := by decide +kernel
theorem dL_law_558 : decode cL_law 558 = .ok (.istore 6, 2) := by decide +kernel
theorem dL_law_560 : decode cL_law 560 = .ok (.aload_n 2, 1) := by decide +kernel
theorem dL_law_561 : decode cL_law 561 = .ok (.invokevirtual 90, 3) := by decide +kernel
theorem dL_law_564 : decode cL_law 564 = .ok (.iload 5, 2) := by decide +kernel
theorem dL_law_566 : decode cL_law 566 = .ok (.if_icmp .eq 5, 3) := by decide +kernel
theorem dL_law_569 : decode cL_law 569 = .ok (.iconst 0, 1) := by decide +kernel
theorem dL_law_570 : decode cL_law 570 = .ok (.ireturn, 1) := by decide +kernel
theorem dL_law_571 : decode cL_law 571 = .ok (.iload 5, 2) := by decide +kernel
theorem dL_law_573 : decode cL_law 573 = .ok (.ifCond .ne 15, 3) := by decide +kernel
theorem dL_law_576 : decode cL_law 576 = .ok (.aload_n 3, 1) := by decide +kernel
theorem dL_law_577 : decode cL_law 577 = .ok (.iconst 0, 1) := by decide +kernel
theorem dL_law_578 : decode cL_law 578 = .ok (.laload, 1) := by decide +kernel
theorem dL_law_579 : decode cL_law 579 = .ok (.iload 6, 2) := by decide +kernel
theorem dL_law_581 : decode cL_law 581 = .ok (.i2l, 1) := by decide +kernel
theorem dL_law_582 : decode cL_law 582 = .ok (.lcmp, 1) := by decide +kernel
theorem dL_law_583 : decode cL_law 583 = .ok (.ifCond .eq 5, 3) := by decide +kernel
theorem dL_law_586 : decode cL_law 586 = .ok (.iconst 0, 1) := by decide +kernel
theorem dL_law_587 : decode cL_law 587 = .ok (.ireturn, 1) := by decide +kernel
theorem dL_law_588 : decode cL_law 588 = .ok (.goto 951, 3) := by decide +kernel
theorem dL_law_591 : decode cL_law 591 = .ok (.aload_n 1, 1) := by decide +kernel
theorem dL_law_592 : decode cL_law 592 = .ok (.invokevirtual 111, 3) := by decide +kernel
theorem dL_law_595 : decode cL_law 595 = .ok (.aload_n 2, 1) := by decide +kernel
theorem dL_law_596 : decode cL_law 596 = .ok (.invokevirtual 114, 3) := by decide +kernel
theorem dL_law_599 : decode cL_law 599 = .ok (.if_icmp .eq 940, 3) := by decide +kernel
theorem dL_law_602 : decode cL_law 602 = .ok (.iconst 0, 1) := by decide +kernel
theorem dL_law_603 : decode cL_law 603 = .ok (.ireturn, 1) := by decide +kernel
theorem dL_law_604 : decode cL_law 604 = .ok (.aload_n 1, 1) := by decide +kernel
theorem dL_law_605 : decode cL_law 605 = .ok (.aload_n 0, 1) := by decide +kernel
theorem dL_law_606 : decode cL_law 606 = .ok (.iload 4, 2) := by decide +kernel
theorem dL_law_608 : decode cL_law 608 = .ok (.iconst 1, 1) := by decide +kernel
theorem dL_law_609 : decode cL_law 609 = .ok (.iadd, 1) := by decide +kernel
theorem dL_law_610 : decode cL_law 610 = .ok (.iaload, 1) := by decide +kernel
theorem dL_law_611 : decode cL_law 611 = .ok (.aload_n 3, 1) := by decide +kernel
theorem dL_law_612 : decode cL_law 612 = .ok (.invokestatic 115, 3) := by decide +kernel
theorem dL_law_615 : decode cL_law 615 = .ok (.istore 5, 2) := by decide +kernel
theorem dL_law_617 : decode cL_law 617 = .ok (.aload_n 2, 1) := by decide +kernel
theorem dL_law_618 : decode cL_law 618 = .ok (.aload_n 0, 1) := by decide +kernel
theorem dL_law_619 : decode cL_law 619 = .ok (.iload 4, 2) := by decide +kernel
theorem dL_law_621 : decode cL_law 621 = .ok (.iconst 1, 1) := by decide +kernel
theorem dL_law_622 : decode cL_law 622 = .ok (.iadd, 1) := by decide +kernel
theorem dL_law_623 : decode cL_law 623 = .ok (.iaload, 1) := by decide +kernel
theorem dL_law_624 : decode cL_law 624 = .ok (.invokevirtual 117, 3) := by decide +kernel
theorem dL_law_627 : decode cL_law 627 = .ok (.istore 6, 2) := by decide +kernel
theorem dL_law_629 : decode cL_law 629 = .ok (.aload_n 2, 1) := by decide +kernel
theorem dL_law_630 : decode cL_law 630 = .ok (.invokevirtual 90, 3) := by decide +kernel
theorem dL_law_633 : decode cL_law 633 = .ok (.iload 5, 2) := by decide +kernel
theorem dL_law_635 : decode cL_law 635 = .ok (.if_icmp .eq 5, 3) := by decide +kernel
theorem dL_law_638 : decode cL_law 638 = .ok (.iconst 0, 1) := by decide +kernel
theorem dL_law_639 : decode cL_law 639 = .ok (.ireturn, 1) := by decide +kernel
theorem dL_law_640 : decode cL_law 640 = .ok (.iload 5, 2) := by decide +kernel
theorem dL_law_642 : decode cL_law 642 = .ok (.ifCond .ne 15, 3) := by decide +kernel
theorem dL_law_645 : decode cL_law 645 = .ok (.aload_n 3, 1) := by decide +kernel
theorem dL_law_646 : decode cL_law 646 = .ok (.iconst 0, 1) := by decide +kernel
theorem dL_law_647 : decode cL_law 647 = .ok (.laload, 1) := by decide +kernel
theorem dL_law_648 : decode cL_law 648 = .ok (.iload 6, 2) := by decide +kernel
theorem dL_law_650 : decode cL_law 650 = .ok (.i2l, 1) := by decide +kernel
theorem dL_law_651 : decode cL_law 651 = .ok (.lcmp, 1) := by decide +kernel
theorem dL_law_652 : decode cL_law 652 = .ok (.ifCond .eq 5, 3) := by decide +kernel
theorem dL_law_655 : decode cL_law 655 = .ok (.iconst 0, 1) := by decide +kernel
theorem dL_law_656 : decode cL_law 656 = .ok (.ireturn, 1) := by decide +kernel
theorem dL_law_657 : decode cL_law 657 = .ok (.goto 882, 3) := by decide +kernel
theorem dL_law_660 : decode cL_law 660 = .ok (.aload_n 1, 1) := by decide +kernel
theorem dL_law_661 : decode cL_law 661 = .ok (.aload_n 0, 1) := by decide +kernel
theorem dL_law_662 : decode cL_law 662 = .ok (.iload 4, 2) := by decide +kernel
theorem dL_law_664 : decode cL_law 664 = .ok (.iconst 1, 1) := by decide +kernel
theorem dL_law_665 : decode cL_law 665 = .ok (.iadd, 1) := by decide +kernel
theorem dL_law_666 : decode cL_law 666 = .ok (.iaload, 1) := by decide +kernel
theorem dL_law_667 : decode cL_law 667 = .ok (.aload_n 0, 1) := by decide +kernel
theorem dL_law_668 : decode cL_law 668 = .ok (.iload 4, 2) := by decide +kernel
theorem dL_law_670 : decode cL_law 670 = .ok (.iconst 2, 1) := by decide +kernel
theorem dL_law_671 : decode cL_law 671 = .ok (.iadd, 1) := by decide +kernel
theorem dL_law_672 : decode cL_law 672 = .ok (.iaload, 1) := by decide +kernel
theorem dL_law_673 : decode cL_law 673 = .ok (.aload_n 3, 1) := by decide +kernel
theorem dL_law_674 : decode cL_law 674 = .ok (.invokestatic 118, 3) := by decide +kernel
theorem dL_law_677 : decode cL_law 677 = .ok (.istore 5, 2) := by decide +kernel
theorem dL_law_679 : decode cL_law 679 = .ok (.aload_n 2, 1) := by decide +kernel
theorem dL_law_680 : decode cL_law 680 = .ok (.aload_n 0, 1) := by decide +kernel
theorem dL_law_681 : decode cL_law 681 = .ok (.iload 4, 2) := by decide +kernel
theorem dL_law_683 : decode cL_law 683 = .ok (.iconst 1, 1) := by decide +kernel
theorem dL_law_684 : decode cL_law 684 = .ok (.iadd, 1) := by decide +kernel
theorem dL_law_685 : decode cL_law 685 = .ok (.iaload, 1) := by decide +kernel
theorem dL_law_686 : decode cL_law 686 = .ok (.aload_n 0, 1) := by decide +kernel
theorem dL_law_687 : decode cL_law 687 = .ok (.iload 4, 2) := by decide +kernel
theorem dL_law_689 : decode cL_law 689 = .ok (.iconst 2, 1) := by decide +kernel
theorem dL_law_690 : decode cL_law 690 = .ok (.iadd, 1) := by decide +kernel
theorem dL_law_691 : decode cL_law 691 = .ok (.iaload, 1) := by decide +kernel
theorem dL_law_692 : decode cL_law 692 = .ok (.invokevirtual 120, 3) := by decide +kernel
theorem dL_law_695 : decode cL_law 695 = .ok (.istore 6, 2) := by decide +kernel
theorem dL_law_697 : decode cL_law 697 = .ok (.aload_n 2, 1) := by decide +kernel
theorem dL_law_698 : decode cL_law 698 = .ok (.invokevirtual 90, 3) := by decide +kernel
theorem dL_law_701 : decode cL_law 701 = .ok (.iload 5, 2) := by decide +kernel
theorem dL_law_703 : decode cL_law 703 = .ok (.if_icmp .eq 5, 3) := by decide +kernel
theorem dL_law_706 : decode cL_law 706 = .ok (.iconst 0, 1) := by decide +kernel
theorem dL_law_707 : decode cL_law 707 = .ok (.ireturn, 1) := by decide +kernel
theorem dL_law_708 : decode cL_law 708 = .ok (.iload 5, 2) := by decide +kernel
theorem dL_law_710 : decode cL_law 710 = .ok (.ifCond .ne 15, 3) := by decide +kernel
theorem dL_law_713 : decode cL_law 713 = .ok (.aload_n 3, 1) := by decide +kernel
theorem dL_law_714 : decode cL_law 714 = .ok (.iconst 0, 1) := by decide +kernel
theorem dL_law_715 : decode cL_law 715 = .ok (.laload, 1) := by decide +kernel
theorem dL_law_716 : decode cL_law 716 = .ok (.iload 6, 2) := by decide +kernel
theorem dL_law_718 : decode cL_law 718 = .ok (.i2l, 1) := by decide +kernel
theorem dL_law_719 : decode cL_law 719 = .ok (.lcmp, 1) := by decide +kernel
theorem dL_law_720 : decode cL_law 720 = .ok (.ifCond .eq 5, 3) := by decide +kernel
theorem dL_law_723 : decode cL_law 723 = .ok (.iconst 0, 1) := by decide +kernel
theorem dL_law_724 : decode cL_law 724 = .ok (.ireturn, 1) := by decide +kernel
theorem dL_law_725 : decode cL_law 725 = .ok (.goto 814, 3) := by decide +kernel
theorem dL_law_728 : decode cL_law 728 = .ok (.aload_n 1, 1) := by decide +kernel
theorem dL_law_729 : decode cL_law 729 = .ok (.aload_n 0, 1) := by decide +kernel
theorem dL_law_730 : decode cL_law 730 = .ok (.iload 4, 2) := by decide +kernel
theorem dL_law_732 : decode cL_law 732 = .ok (.iconst 1, 1) := by decide +kernel
theorem dL_law_733 : decode cL_law 733 = .ok (.iadd, 1) := by decide +kernel
theorem dL_law_734 : decode cL_law 734 = .ok (.iaload, 1) := by decide +kernel
theorem dL_law_735 : decode cL_law 735 = .ok (.aload_n 3, 1) := by decide +kernel
theorem dL_law_736 : decode cL_law 736 = .ok (.invokestatic 121, 3) := by decide +kernel
theorem dL_law_739 : decode cL_law 739 = .ok (.istore 5, 2) := by decide +kernel
theorem dL_law_741 : decode cL_law 741 = .ok (.aload_n 2, 1) := by decide +kernel
theorem dL_law_742 : decode cL_law 742 = .ok (.aload_n 0, 1) := by decide +kernel
theorem dL_law_743 : decode cL_law 743 = .ok (.iload 4, 2) := by decide +kernel
theorem dL_law_745 : decode cL_law 745 = .ok (.iconst 1, 1) := by decide +kernel
theorem dL_law_746 : decode cL_law 746 = .ok (.iadd, 1) := by decide +kernel
theorem dL_law_747 : decode cL_law 747 = .ok (.iaload, 1) := by decide +kernel
theorem dL_law_748 : decode cL_law 748 = .ok (.invokevirtual 123, 3) := by decide +kernel
theorem dL_law_751 : decode cL_law 751 = .ok (.istore 6, 2) := by decide +kernel
theorem dL_law_753 : decode cL_law 753 = .ok (.aload_n 2, 1) := by decide +kernel
theorem dL_law_754 : decode cL_law 754 = .ok (.invokevirtual 90, 3) := by decide +kernel
theorem dL_law_757 : decode cL_law 757 = .ok (.iload 5, 2) := by decide +kernel
theorem dL_law_759 : decode cL_law 759 = .ok (.if_icmp .eq 5, 3) := by decide +kernel
theorem dL_law_762 : decode cL_law 762 = .ok (.iconst 0, 1) := by decide +kernel
theorem dL_law_763 : decode cL_law 763 = .ok (.ireturn, 1) := by decide +kernel
theorem dL_law_764 : decode cL_law 764 = .ok (.iload 5, 2) := by decide +kernel
theorem dL_law_766 : decode cL_law 766 = .ok (.ifCond .ne 15, 3) := by decide +kernel
theorem dL_law_769 : decode cL_law 769 = .ok (.aload_n 3, 1) := by decide +kernel
theorem dL_law_770 : decode cL_law 770 = .ok (.iconst 0, 1) := by decide +kernel
theorem dL_law_771 : decode cL_law 771 = .ok (.laload, 1) := by decide +kernel
theorem dL_law_772 : decode cL_law 772 = .ok (.iload 6, 2) := by decide +kernel
theorem dL_law_774 : decode cL_law 774 = .ok (.i2l, 1) := by decide +kernel
theorem dL_law_775 : decode cL_law 775 = .ok (.lcmp, 1) := by decide +kernel
theorem dL_law_776 : decode cL_law 776 = .ok (.ifCond .eq 5, 3) := by decide +kernel
theorem dL_law_779 : decode cL_law 779 = .ok (.iconst 0, 1) := by decide +kernel
theorem dL_law_780 : decode cL_law 780 = .ok (.ireturn, 1) := by decide +kernel
theorem dL_law_781 : decode cL_law 781 = .ok (.goto 758, 3) := by decide +kernel
theorem dL_law_784 : decode cL_law 784 = .ok (.aload_n 1, 1) := by decide +kernel
theorem dL_law_785 : decode cL_law 785 = .ok (.aload_n 0, 1) := by decide +kernel
theorem dL_law_786 : decode cL_law 786 = .ok (.iload 4, 2) := by decide +kernel
theorem dL_law_788 : decode cL_law 788 = .ok (.iconst 1, 1) := by decide +kernel
theorem dL_law_789 : decode cL_law 789 = .ok (.iadd, 1) := by decide +kernel
theorem dL_law_790 : decode cL_law 790 = .ok (.iaload, 1) := by decide +kernel
theorem dL_law_791 : decode cL_law 791 = .ok (.aload_n 0, 1) := by decide +kernel
theorem dL_law_792 : decode cL_law 792 = .ok (.iload 4, 2) := by decide +kernel
theorem dL_law_794 : decode cL_law 794 = .ok (.iconst 2, 1) := by decide +kernel
theorem dL_law_795 : decode cL_law 795 = .ok (.iadd, 1) := by decide +kernel
theorem dL_law_796 : decode cL_law 796 = .ok (.iaload, 1) := by decide +kernel
theorem dL_law_797 : decode cL_law 797 = .ok (.aload_n 3, 1) := by decide +kernel
theorem dL_law_798 : decode cL_law 798 = .ok (.invokestatic 124, 3) := by decide +kernel
theorem dL_law_801 : decode cL_law 801 = .ok (.istore 5, 2) := by decide +kernel
theorem dL_law_803 : decode cL_law 803 = .ok (.aload_n 2, 1) := by decide +kernel
theorem dL_law_804 : decode cL_law 804 = .ok (.aload_n 0, 1) := by decide +kernel
theorem dL_law_805 : decode cL_law 805 = .ok (.iload 4, 2) := by decide +kernel
theorem dL_law_807 : decode cL_law 807 = .ok (.iconst 1, 1) := by decide +kernel
theorem dL_law_808 : decode cL_law 808 = .ok (.iadd, 1) := by decide +kernel
theorem dL_law_809 : decode cL_law 809 = .ok (.iaload, 1) := by decide +kernel
theorem dL_law_810 : decode cL_law 810 = .ok (.aload_n 0, 1) := by decide +kernel
theorem dL_law_811 : decode cL_law 811 = .ok (.iload 4, 2) := by decide +kernel
theorem dL_law_813 : decode cL_law 813 = .ok (.iconst 2, 1) := by decide +kernel
theorem dL_law_814 : decode cL_law 814 = .ok (.iadd, 1) := by decide +kernel
theorem dL_law_815 : decode cL_law 815 = .ok (.iaload, 1) := by decide +kernel
theorem dL_law_816 : decode cL_law 816 = .ok (.invokevirtual 126, 3) := by decide +kernel
theorem dL_law_819 : decode cL_law 819 = .ok (.istore 6, 2) := by decide +kernel
theorem dL_law_821 : decode cL_law 821 = .ok (.aload_n 2, 1) := by decide +kernel
theorem dL_law_822 : decode cL_law 822 = .ok (.invokevirtual 90, 3) := by decide +kernel
theorem dL_law_825 : decode cL_law 825 = .ok (.iload 5, 2) := by decide +kernel
theorem dL_law_827 : decode cL_law 827 = .ok (.if_icmp .eq 5, 3) := by decide +kernel
theorem dL_law_830 : decode cL_law 830 = .ok (.iconst 0, 1) := by decide +kernel
theorem dL_law_831 : decode cL_law 831 = .ok (.ireturn, 1) := by decide +kernel
theorem dL_law_832 : decode cL_law 832 = .ok (.iload 5, 2) := by decide +kernel
theorem dL_law_834 : decode cL_law 834 = .ok (.ifCond .ne 15, 3) := by decide +kernel
theorem dL_law_837 : decode cL_law 837 = .ok (.aload_n 3, 1) := by decide +kernel
theorem dL_law_838 : decode cL_law 838 = .ok (.iconst 0, 1) := by decide +kernel
theorem dL_law_839 : decode cL_law 839 = .ok (.laload, 1) := by decide +kernel
theorem dL_law_840 : decode cL_law 840 = .ok (.iload 6, 2) := by decide +kernel
theorem dL_law_842 : decode cL_law 842 = .ok (.i2l, 1) := by decide +kernel
theorem dL_law_843 : decode cL_law 843 = .ok (.lcmp, 1) := by decide +kernel
theorem dL_law_844 : decode cL_law 844 = .ok (.ifCond .eq 5, 3) := by decide +kernel
theorem dL_law_847 : decode cL_law 847 = .ok (.iconst 0, 1) := by decide +kernel
theorem dL_law_848 : decode cL_law 848 = .ok (.ireturn, 1) := by decide +kernel
theorem dL_law_849 : decode cL_law 849 = .ok (.goto 690, 3) := by decide +kernel
theorem dL_law_852 : decode cL_law 852 = .ok (.aload_n 1, 1) := by decide +kernel
theorem dL_law_853 : decode cL_law 853 = .ok (.aload_n 0, 1) := by decide +kernel
theorem dL_law_854 : decode cL_law 854 = .ok (.iload 4, 2) := by decide +kernel
theorem dL_law_856 : decode cL_law 856 = .ok (.iconst 1, 1) := by decide +kernel
theorem dL_law_857 : decode cL_law 857 = .ok (.iadd, 1) := by decide +kernel
theorem dL_law_858 : decode cL_law 858 = .ok (.iaload, 1) := by decide +kernel
theorem dL_law_859 : decode cL_law 859 = .ok (.aload_n 0, 1) := by decide +kernel
theorem dL_law_860 : decode cL_law 860 = .ok (.iload 4, 2) := by decide +kernel
theorem dL_law_862 : decode cL_law 862 = .ok (.iconst 2, 1) := by decide +kernel
theorem dL_law_863 : decode cL_law 863 = .ok (.iadd, 1) := by decide +kernel
theorem dL_law_864 : decode cL_law 864 = .ok (.iaload, 1) := by decide +kernel
theorem dL_law_865 : decode cL_law 865 = .ok (.aload_n 3, 1) := by decide +kernel
theorem dL_law_866 : decode cL_law 866 = .ok (.invokestatic 127, 3) := by decide +kernel
theorem dL_law_869 : decode cL_law 869 = .ok (.istore 5, 2) := by decide +kernel
theorem dL_law_871 : decode cL_law 871 = .ok (.aload_n 2, 1) := by decide +kernel
theorem dL_law_872 : decode cL_law 872 = .ok (.aload_n 0, 1) := by decide +kernel
theorem dL_law_873 : decode cL_law 873 = .ok (.iload 4, 2) := by decide +kernel
theorem dL_law_875 : decode cL_law 875 = .ok (.iconst 1, 1) := by decide +kernel
theorem dL_law_876 : decode cL_law 876 = .ok (.iadd, 1) := by decide +kernel
theorem dL_law_877 : decode cL_law 877 = .ok (.iaload, 1) := by decide +kernel
theorem dL_law_878 : decode cL_law 878 = .ok (.aload_n 0, 1) := by decide +kernel
theorem dL_law_879 : decode cL_law 879 = .ok (.iload 4, 2) := by decide +kernel
theorem dL_law_881 : decode cL_law 881 = .ok (.iconst 2, 1) := by decide +kernel
theorem dL_law_882 : decode cL_law 882 = .ok (.iadd, 1) := by decide +kernel
theorem dL_law_883 : decode cL_law 883 = .ok (.iaload, 1) := by decide +kernel
theorem dL_law_884 : decode cL_law 884 = .ok (.invokevirtual 129, 3) := by decide +kernel
theorem dL_law_887 : decode cL_law 887 = .ok (.istore 6, 2) := by decide +kernel
theorem dL_law_889 : decode cL_law 889 = .ok (.aload_n 2, 1) := by decide +kernel
theorem dL_law_890 : decode cL_law 890 = .ok (.invokevirtual 90, 3) := by decide +kernel
theorem dL_law_893 : decode cL_law 893 = .ok (.iload 5, 2) := by decide +kernel
theorem dL_law_895 : decode cL_law 895 = .ok (.if_icmp .eq 5, 3) := by decide +kernel
theorem dL_law_898 : decode cL_law 898 = .ok (.iconst 0, 1) := by decide +kernel
theorem dL_law_899 : decode cL_law 899 = .ok (.ireturn, 1) := by decide +kernel
theorem dL_law_900 : decode cL_law 900 = .ok (.iload 5, 2) := by decide +kernel
theorem dL_law_902 : decode cL_law 902 = .ok (.ifCond .ne 15, 3) := by decide +kernel
theorem dL_law_905 : decode cL_law 905 = .ok (.aload_n 3, 1) := by decide +kernel
theorem dL_law_906 : decode cL_law 906 = .ok (.iconst 0, 1) := by decide +kernel
theorem dL_law_907 : decode cL_law 907 = .ok (.laload, 1) := by decide +kernel
theorem dL_law_908 : decode cL_law 908 = .ok (.iload 6, 2) := by decide +kernel
theorem dL_law_910 : decode cL_law 910 = .ok (.i2l, 1) := by decide +kernel
theorem dL_law_911 : decode cL_law 911 = .ok (.lcmp, 1) := by decide +kernel
theorem dL_law_912 : decode cL_law 912 = .ok (.ifCond .eq 5, 3) := by decide +kernel
theorem dL_law_915 : decode cL_law 915 = .ok (.iconst 0, 1) := by decide +kernel
theorem dL_law_916 : decode cL_law 916 = .ok (.ireturn, 1) := by decide +kernel
theorem dL_law_917 : decode cL_law 917 = .ok (.goto 622, 3) := by decide +kernel
theorem dL_law_920 : decode cL_law 920 = .ok (.aload_n 1, 1) := by decide +kernel
theorem dL_law_921 : decode cL_law 921 = .ok (.aload_n 0, 1) := by decide +kernel
theorem dL_law_922 : decode cL_law 922 = .ok (.iload 4, 2) := by decide +kernel
theorem dL_law_924 : decode cL_law 924 = .ok (.iconst 1, 1) := by decide +kernel
theorem dL_law_925 : decode cL_law 925 = .ok (.iadd, 1) := by decide +kernel
theorem dL_law_926 : decode cL_law 926 = .ok (.iaload, 1) := by decide +kernel
theorem dL_law_927 : decode cL_law 927 = .ok (.aload_n 3, 1) := by decide +kernel
theorem dL_law_928 : decode cL_law 928 = .ok (.invokestatic 130, 3) := by decide +kernel
theorem dL_law_931 : decode cL_law 931 = .ok (.istore 5, 2) := by decide +kernel
theorem dL_law_933 : decode cL_law 933 = .ok (.aload_n 2, 1) := by decide +kernel
theorem dL_law_934 : decode cL_law 934 = .ok (.aload_n 0, 1) := by decide +kernel
theorem dL_law_935 : decode cL_law 935 = .ok (.iload 4, 2) := by decide +kernel
theorem dL_law_937 : decode cL_law 937 = .ok (.iconst 1, 1) := by decide +kernel
theorem dL_law_938 : decode cL_law 938 = .ok (.iadd, 1) := by decide +kernel
theorem dL_law_939 : decode cL_law 939 = .ok (.iaload, 1) := by decide +kernel
theorem dL_law_940 : decode cL_law 940 = .ok (.invokevirtual 132, 3) := by decide +kernel
theorem dL_law_943 : decode cL_law 943 = .ok (.istore 6, 2) := by decide +kernel
theorem dL_law_945 : decode cL_law 945 = .ok (.aload_n 2, 1) := by decide +kernel
theorem dL_law_946 : decode cL_law 946 = .ok (.invokevirtual 90, 3) := by decide +kernel
theorem dL_law_949 : decode cL_law 949 = .ok (.iload 5, 2) := by decide +kernel
theorem dL_law_951 : decode cL_law 951 = .ok (.if_icmp .eq 5, 3) := by decide +kernel
theorem dL_law_954 : decode cL_law 954 = .ok (.iconst 0, 1) := by decide +kernel
theorem dL_law_955 : decode cL_law 955 = .ok (.ireturn, 1) := by decide +kernel
theorem dL_law_956 : decode cL_law 956 = .ok (.iload 5, 2) := by decide +kernel
theorem dL_law_958 : decode cL_law 958 = .ok (.ifCond .ne 15, 3) := by decide +kernel
theorem dL_law_961 : decode cL_law 961 = .ok (.aload_n 3, 1) := by decide +kernel
theorem dL_law_962 : decode cL_law 962 = .ok (.iconst 0, 1) := by decide +kernel
theorem dL_law_963 : decode cL_law 963 = .ok (.laload, 1) := by decide +kernel
theorem dL_law_964 : decode cL_law 964 = .ok (.iload 6, 2) := by decide +kernel
theorem dL_law_966 : decode cL_law 966 = .ok (.i2l, 1) := by decide +kernel
theorem dL_law_967 : decode cL_law 967 = .ok (.lcmp, 1) := by decide +kernel
theorem dL_law_968 : decode cL_law 968 = .ok (.ifCond .eq 5, 3) := by decide +kernel
theorem dL_law_971 : decode cL_law 971 = .ok (.iconst 0, 1) := by decide +kernel
theorem dL_law_972 : decode cL_law 972 = .ok (.ireturn, 1) := by decide +kernel
theorem dL_law_973 : decode cL_law 973 = .ok (.goto 566, 3) := by decide +kernel
theorem dL_law_976 : decode cL_law 976 = .ok (.aload_n 1, 1) := by decide +kernel
theorem dL_law_977 : decode cL_law 977 = .ok (.aload_n 0, 1) := by decide +kernel
theorem dL_law_978 : decode cL_law 978 = .ok (.iload 4, 2) := by decide +kernel
theorem dL_law_980 : decode cL_law 980 = .ok (.iconst 1, 1) := by decide +kernel
theorem dL_law_981 : decode cL_law 981 = .ok (.iadd, 1) := by decide +kernel
theorem dL_law_982 : decode cL_law 982 = .ok (.iaload, 1) := by decide +kernel
theorem dL_law_983 : decode cL_law 983 = .ok (.aload_n 3, 1) := by decide +kernel
theorem dL_law_984 : decode cL_law 984 = .ok (.invokestatic 133, 3) := by decide +kernel
theorem dL_law_987 : decode cL_law 987 = .ok (.istore 5, 2) := by decide +kernel
theorem dL_law_989 : decode cL_law 989 = .ok (.aload_n 2, 1) := by decide +kernel
theorem dL_law_990 : decode cL_law 990 = .ok (.aload_n 0, 1) := by decide +kernel
theorem dL_law_991 : decode cL_law 991 = .ok (.iload 4, 2) := by decide +kernel
theorem dL_law_993 : decode cL_law 993 = .ok (.iconst 1, 1) := by decide +kernel
theorem dL_law_994 : decode cL_law 994 = .ok (.iadd, 1) := by decide +kernel
theorem dL_law_995 : decode cL_law 995 = .ok (.iaload, 1) := by decide +kernel
theorem dL_law_996 : decode cL_law 996 = .ok (.invokevirtual 135, 3) := by decide +kernel
theorem dL_law_999 : decode cL_law 999 = .ok (.istore 6, 2) := by decide +kernel
theorem dL_law_1001 : decode cL_law 1001 = .ok (.aload_n 2, 1) := by decide +kernel
theorem dL_law_1002 : decode cL_law 1002 = .ok (.invokevirtual 90, 3) := by decide +kernel
theorem dL_law_1005 : decode cL_law 1005 = .ok (.iload 5, 2) := by decide +kernel
theorem dL_law_1007 : decode cL_law 1007 = .ok (.if_icmp .eq 5, 3) := by decide +kernel
theorem dL_law_1010 : decode cL_law 1010 = .ok (.iconst 0, 1) := by decide +kernel
theorem dL_law_1011 : decode cL_law 1011 = .ok (.ireturn, 1) := by decide +kernel
theorem dL_law_1012 : decode cL_law 1012 = .ok (.iload 5, 2) := by decide +kernel
theorem dL_law_1014 : decode cL_law 1014 = .ok (.ifCond .ne 22, 3) := by decide +kernel
theorem dL_law_1017 : decode cL_law 1017 = .ok (.aload_n 3, 1) := by decide +kernel
theorem dL_law_1018 : decode cL_law 1018 = .ok (.iconst 0, 1) := by decide +kernel
theorem dL_law_1019 : decode cL_law 1019 = .ok (.laload, 1) := by decide +kernel
theorem dL_law_1020 : decode cL_law 1020 = .ok (.iload 6, 2) := by decide +kernel
theorem dL_law_1022 : decode cL_law 1022 = .ok (.ifCond .eq 7, 3) := by decide +kernel
theorem dL_law_1025 : decode cL_law 1025 = .ok (.lconst 1, 1) := by decide +kernel
theorem dL_law_1026 : decode cL_law 1026 = .ok (.goto 4, 3) := by decide +kernel
theorem dL_law_1029 : decode cL_law 1029 = .ok (.lconst 0, 1) := by decide +kernel
theorem dL_law_1030 : decode cL_law 1030 = .ok (.lcmp, 1) := by decide +kernel
theorem dL_law_1031 : decode cL_law 1031 = .ok (.ifCond .eq 5, 3) := by decide +kernel
theorem dL_law_1034 : decode cL_law 1034 = .ok (.iconst 0, 1) := by decide +kernel
theorem dL_law_1035 : decode cL_law 1035 = .ok (.ireturn, 1) := by decide +kernel
theorem dL_law_1036 : decode cL_law 1036 = .ok (.goto 503, 3) := by decide +kernel
theorem dL_law_1039 : decode cL_law 1039 = .ok (.aload_n 1, 1) := by decide +kernel
theorem dL_law_1040 : decode cL_law 1040 = .ok (.invokevirtual 136, 3) := by decide +kernel
theorem dL_law_1043 : decode cL_law 1043 = .ok (.aload_n 2, 1) := by decide +kernel
theorem dL_law_1044 : decode cL_law 1044 = .ok (.invokevirtual 139, 3) := by decide +kernel
theorem dL_law_1047 : decode cL_law 1047 = .ok (.if_icmp .eq 492, 3) := by decide +kernel
theorem dL_law_1050 : decode cL_law 1050 = .ok (.iconst 0, 1) := by decide +kernel
theorem dL_law_1051 : decode cL_law 1051 = .ok (.ireturn, 1) := by decide +kernel
theorem dL_law_1052 : decode cL_law 1052 = .ok (.aload_n 1, 1) := by decide +kernel
theorem dL_law_1053 : decode cL_law 1053 = .ok (.aload_n 0, 1) := by decide +kernel
theorem dL_law_1054 : decode cL_law 1054 = .ok (.iload 4, 2) := by decide +kernel
theorem dL_law_1056 : decode cL_law 1056 = .ok (.iconst 1, 1) := by decide +kernel
theorem dL_law_1057 : decode cL_law 1057 = .ok (.iadd, 1) := by decide +kernel
theorem dL_law_1058 : decode cL_law 1058 = .ok (.iaload, 1) := by decide +kernel
theorem dL_law_1059 : decode cL_law 1059 = .ok (.aload_n 0, 1) := by decide +kernel
theorem dL_law_1060 : decode cL_law 1060 = .ok (.iload 4, 2) := by decide +kernel
theorem dL_law_1062 : decode cL_law 1062 = .ok (.iconst 2, 1) := by decide +kernel
theorem dL_law_1063 : decode cL_law 1063 = .ok (.iadd, 1) := by decide +kernel
theorem dL_law_1064 : decode cL_law 1064 = .ok (.iaload, 1) := by decide +kernel
theorem dL_law_1065 : decode cL_law 1065 = .ok (.aload_n 3, 1) := by decide +kernel
theorem dL_law_1066 : decode cL_law 1066 = .ok (.invokestatic 140, 3) := by decide +kernel
theorem dL_law_1069 : decode cL_law 1069 = .ok (.istore 5, 2) := by decide +kernel
theorem dL_law_1071 : decode cL_law 1071 = .ok (.aload_n 2, 1) := by decide +kernel
theorem dL_law_1072 : decode cL_law 1072 = .ok (.aload_n 0, 1) := by decide +kernel
theorem dL_law_1073 : decode cL_law 1073 = .ok (.iload 4, 2) := by decide +kernel
theorem dL_law_1075 : decode cL_law 1075 = .ok (.iconst 1, 1) := by decide +kernel
theorem dL_law_1076 : decode cL_law 1076 = .ok (.iadd, 1) := by decide +kernel
theorem dL_law_1077 : decode cL_law 1077 = .ok (.iaload, 1) := by decide +kernel
theorem dL_law_1078 : decode cL_law 1078 = .ok (.aload_n 0, 1) := by decide +kernel
theorem dL_law_1079 : decode cL_law 1079 = .ok (.iload 4, 2) := by decide +kernel
theorem dL_law_1081 : decode cL_law 1081 = .ok (.iconst 2, 1) := by decide +kernel
theorem dL_law_1082 : decode cL_law 1082 = .ok (.iadd, 1) := by decide +kernel
theorem dL_law_1083 : decode cL_law 1083 = .ok (.iaload, 1) := by decide +kernel
theorem dL_law_1084 : decode cL_law 1084 = .ok (.invokevirtual 142, 3) := by decide +kernel
theorem dL_law_1087 : decode cL_law 1087 = .ok (.istore 6, 2) := by decide +kernel
theorem dL_law_1089 : decode cL_law 1089 = .ok (.aload_n 2, 1) := by decide +kernel
theorem dL_law_1090 : decode cL_law 1090 = .ok (.invokevirtual 90, 3) := by decide +kernel
theorem dL_law_1093 : decode cL_law 1093 = .ok (.iload 5, 2) := by decide +kernel
theorem dL_law_1095 : decode cL_law 1095 = .ok (.if_icmp .eq 5, 3) := by decide +kernel
theorem dL_law_1098 : decode cL_law 1098 = .ok (.iconst 0, 1) := by decide +kernel
theorem dL_law_1099 : decode cL_law 1099 = .ok (.ireturn, 1) := by decide +kernel
theorem dL_law_1100 : decode cL_law 1100 = .ok (.iload 5, 2) := by decide +kernel
theorem dL_law_1102 : decode cL_law 1102 = .ok (.ifCond .ne 15, 3) := by decide +kernel
theorem dL_law_1105 : decode cL_law 1105 = .ok (.aload_n 3, 1) := by decide +kernel
theorem dL_law_1106 : decode cL_law 1106 = .ok (.iconst 0, 1) := by decide +kernel
theorem dL_law_1107 : decode cL_law 1107 = .ok (.laload, 1) := by decide +kernel
theorem dL_law_1108 : decode cL_law 1108 = .ok (.iload 6, 2) := by decide +kernel
theorem dL_law_1110 : decode cL_law 1110 = .ok (.i2l, 1) := by decide +kernel
theorem dL_law_1111 : decode cL_law 1111 = .ok (.lcmp, 1) := by decide +kernel
theorem dL_law_1112 : decode cL_law 1112 = .ok (.ifCond .eq 5, 3) := by decide +kernel
theorem dL_law_1115 : decode cL_law 1115 = .ok (.iconst 0, 1) := by decide +kernel
theorem dL_law_1116 : decode cL_law 1116 = .ok (.ireturn, 1) := by decide +kernel
theorem dL_law_1117 : decode cL_law 1117 = .ok (.goto 422, 3) := by decide +kernel
theorem dL_law_1120 : decode cL_law 1120 = .ok (.aload_n 1, 1) := by decide +kernel
theorem dL_law_1121 : decode cL_law 1121 = .ok (.invokevirtual 143, 3) := by decide +kernel
theorem dL_law_1124 : decode cL_law 1124 = .ok (.aload_n 2, 1) := by decide +kernel
theorem dL_law_1125 : decode cL_law 1125 = .ok (.invokevirtual 146, 3) := by decide +kernel
theorem dL_law_1128 : decode cL_law 1128 = .ok (.if_icmp .eq 411, 3) := by decide +kernel
theorem dL_law_1131 : decode cL_law 1131 = .ok (.iconst 0, 1) := by decide +kernel
theorem dL_law_1132 : decode cL_law 1132 = .ok (.ireturn, 1) := by decide +kernel
theorem dL_law_1133 : decode cL_law 1133 = .ok (.aload_n 1, 1) := by decide +kernel
theorem dL_law_1134 : decode cL_law 1134 = .ok (.aload_n 0, 1) := by decide +kernel
theorem dL_law_1135 : decode cL_law 1135 = .ok (.iload 4, 2) := by decide +kernel
theorem dL_law_1137 : decode cL_law 1137 = .ok (.iconst 1, 1) := by decide +kernel
theorem dL_law_1138 : decode cL_law 1138 = .ok (.iadd, 1) := by decide +kernel
theorem dL_law_1139 : decode cL_law 1139 = .ok (.iaload, 1) := by decide +kernel
theorem dL_law_1140 : decode cL_law 1140 = .ok (.ifCond .eq 7, 3) := by decide +kernel
theorem dL_law_1143 : decode cL_law 1143 = .ok (.iconst 1, 1) := by decide +kernel
theorem dL_law_1144 : decode cL_law 1144 = .ok (.goto 4, 3) := by decide +kernel
theorem dL_law_1147 : decode cL_law 1147 = .ok (.iconst 0, 1) := by decide +kernel
theorem dL_law_1148 : decode cL_law 1148 = .ok (.invokevirtual 147, 3) := by decide +kernel
theorem dL_law_1151 : decode cL_law 1151 = .ok (.dstore 5, 2) := by decide +kernel
theorem dL_law_1153 : decode cL_law 1153 = .ok (.aload_n 2, 1) := by decide +kernel
theorem dL_law_1154 : decode cL_law 1154 = .ok (.aload_n 0, 1) := by decide +kernel
theorem dL_law_1155 : decode cL_law 1155 = .ok (.iload 4, 2) := by decide +kernel
theorem dL_law_1157 : decode cL_law 1157 = .ok (.iconst 1, 1) := by decide +kernel
theorem dL_law_1158 : decode cL_law 1158 = .ok (.iadd, 1) := by decide +kernel
theorem dL_law_1159 : decode cL_law 1159 = .ok (.iaload, 1) := by decide +kernel
theorem dL_law_1160 : decode cL_law 1160 = .ok (.ifCond .eq 7, 3) := by decide +kernel
theorem dL_law_1163 : decode cL_law 1163 = .ok (.iconst 1, 1) := by decide +kernel
theorem dL_law_1164 : decode cL_law 1164 = .ok (.goto 4, 3) := by decide +kernel
theorem dL_law_1167 : decode cL_law 1167 = .ok (.iconst 0, 1) := by decide +kernel
theorem dL_law_1168 : decode cL_law 1168 = .ok (.invokevirtual 151, 3) := by decide +kernel
theorem dL_law_1171 : decode cL_law 1171 = .ok (.dstore 7, 2) := by decide +kernel
theorem dL_law_1173 : decode cL_law 1173 = .ok (.dload 5, 2) := by decide +kernel
theorem dL_law_1175 : decode cL_law 1175 = .ok (.dload 7, 2) := by decide +kernel
theorem dL_law_1177 : decode cL_law 1177 = .ok (.dcmp .l, 1) := by decide +kernel
theorem dL_law_1178 : decode cL_law 1178 = .ok (.ifCond .eq 21, 3) := by decide +kernel
theorem dL_law_1181 : decode cL_law 1181 = .ok (.dload 5, 2) := by decide +kernel
theorem dL_law_1183 : decode cL_law 1183 = .ok (.dload 5, 2) := by decide +kernel
theorem dL_law_1185 : decode cL_law 1185 = .ok (.dcmp .l, 1) := by decide +kernel
theorem dL_law_1186 : decode cL_law 1186 = .ok (.ifCond .eq 11, 3) := by decide +kernel
theorem dL_law_1189 : decode cL_law 1189 = .ok (.dload 7, 2) := by decide +kernel
theorem dL_law_1191 : decode cL_law 1191 = .ok (.dload 7, 2) := by decide +kernel
theorem dL_law_1193 : decode cL_law 1193 = .ok (.dcmp .l, 1) := by decide +kernel
theorem dL_law_1194 : decode cL_law 1194 = .ok (.ifCond .ne 5, 3) := by decide +kernel
theorem dL_law_1197 : decode cL_law 1197 = .ok (.iconst 0, 1) := by decide +kernel
theorem dL_law_1198 : decode cL_law 1198 = .ok (.ireturn, 1) := by decide +kernel
theorem dL_law_1199 : decode cL_law 1199 = .ok (.goto 340, 3) := by decide +kernel
theorem dL_law_1202 : decode cL_law 1202 = .ok (.aload_n 1, 1) := by decide +kernel
theorem dL_law_1203 : decode cL_law 1203 = .ok (.invokevirtual 152, 3) := by decide +kernel
theorem dL_law_1206 : decode cL_law 1206 = .ok (.dstore 5, 2) := by decide +kernel
theorem dL_law_1208 : decode cL_law 1208 = .ok (.aload_n 2, 1) := by decide +kernel
theorem dL_law_1209 : decode cL_law 1209 = .ok (.invokevirtual 156, 3) := by decide +kernel
theorem dL_law_1212 : decode cL_law 1212 = .ok (.dstore 7, 2) := by decide +kernel
theorem dL_law_1214 : decode cL_law 1214 = .ok (.dload 5, 2) := by decide +kernel
theorem dL_law_1216 : decode cL_law 1216 = .ok (.dload 7, 2) := by decide +kernel
theorem dL_law_1218 : decode cL_law 1218 = .ok (.dcmp .l, 1) := by decide +kernel
theorem dL_law_1219 : decode cL_law 1219 = .ok (.ifCond .eq 21, 3) := by decide +kernel
theorem dL_law_1222 : decode cL_law 1222 = .ok (.dload 5, 2) := by decide +kernel
theorem dL_law_1224 : decode cL_law 1224 = .ok (.dload 5, 2) := by decide +kernel
theorem dL_law_1226 : decode cL_law 1226 = .ok (.dcmp .l, 1) := by decide +kernel
theorem dL_law_1227 : decode cL_law 1227 = .ok (.ifCond .eq 11, 3) := by decide +kernel
theorem dL_law_1230 : decode cL_law 1230 = .ok (.dload 7, 2) := by decide +kernel
theorem dL_law_1232 : decode cL_law 1232 = .ok (.dload 7, 2) := by decide +kernel
theorem dL_law_1234 : decode cL_law 1234 = .ok (.dcmp .l, 1) := by decide +kernel
theorem dL_law_1235 : decode cL_law 1235 = .ok (.ifCond .ne 5, 3) := by decide +kernel
theorem dL_law_1238 : decode cL_law 1238 = .ok (.iconst 0, 1) := by decide +kernel
theorem dL_law_1239 : decode cL_law 1239 = .ok (.ireturn, 1) := by decide +kernel
theorem dL_law_1240 : decode cL_law 1240 = .ok (.goto 299, 3) := by decide +kernel
theorem dL_law_1243 : decode cL_law 1243 = .ok (.aload_n 1, 1) := by decide +kernel
theorem dL_law_1244 : decode cL_law 1244 = .ok (.aload_n 0, 1) := by decide +kernel
theorem dL_law_1245 : decode cL_law 1245 = .ok (.iload 4, 2) := by decide +kernel
theorem dL_law_1247 : decode cL_law 1247 = .ok (.iconst 1, 1) := by decide +kernel
theorem dL_law_1248 : decode cL_law 1248 = .ok (.iadd, 1) := by decide +kernel
theorem dL_law_1249 : decode cL_law 1249 = .ok (.iaload, 1) := by decide +kernel
theorem dL_law_1250 : decode cL_law 1250 = .ok (.aload_n 3, 1) := by decide +kernel
theorem dL_law_1251 : decode cL_law 1251 = .ok (.invokestatic 157, 3) := by decide +kernel
theorem dL_law_1254 : decode cL_law 1254 = .ok (.istore 5, 2) := by decide +kernel
theorem dL_law_1256 : decode cL_law 1256 = .ok (.aload_n 2, 1) := by decide +kernel
theorem dL_law_1257 : decode cL_law 1257 = .ok (.aload_n 0, 1) := by decide +kernel
theorem dL_law_1258 : decode cL_law 1258 = .ok (.iload 4, 2) := by decide +kernel
theorem dL_law_1260 : decode cL_law 1260 = .ok (.iconst 1, 1) := by decide +kernel
theorem dL_law_1261 : decode cL_law 1261 = .ok (.iadd, 1) := by decide +kernel
theorem dL_law_1262 : decode cL_law 1262 = .ok (.iaload, 1) := by decide +kernel
theorem dL_law_1263 : decode cL_law 1263 = .ok (.invokevirtual 159, 3) := by decide +kernel
theorem dL_law_1266 : decode cL_law 1266 = .ok (.istore 6, 2) := by decide +kernel
theorem dL_law_1268 : decode cL_law 1268 = .ok (.aload_n 2, 1) := by decide +kernel
theorem dL_law_1269 : decode cL_law 1269 = .ok (.invokevirtual 90, 3) := by decide +kernel
theorem dL_law_1272 : decode cL_law 1272 = .ok (.iload 5, 2) := by decide +kernel
theorem dL_law_1274 : decode cL_law 1274 = .ok (.if_icmp .eq 5, 3) := by decide +kernel
theorem dL_law_1277 : decode cL_law 1277 = .ok (.iconst 0, 1) := by decide +kernel
theorem dL_law_1278 : decode cL_law 1278 = .ok (.ireturn, 1) := by decide +kernel
theorem dL_law_1279 : decode cL_law 1279 = .ok (.iload 5, 2) := by decide +kernel
theorem dL_law_1281 : decode cL_law 1281 = .ok (.ifCond .ne 15, 3) := by decide +kernel
theorem dL_law_1284 : decode cL_law 1284 = .ok (.aload_n 3, 1) := by decide +kernel
theorem dL_law_1285 : decode cL_law 1285 = .ok (.iconst 0, 1) := by decide +kernel
theorem dL_law_1286 : decode cL_law 1286 = .ok (.laload, 1) := by decide +kernel
theorem dL_law_1287 : decode cL_law 1287 = .ok (.iload 6, 2) := by decide +kernel
theorem dL_law_1289 : decode cL_law 1289 = .ok (.i2l, 1) := by decide +kernel
theorem dL_law_1290 : decode cL_law 1290 = .ok (.lcmp, 1) := by decide +kernel
theorem dL_law_1291 : decode cL_law 1291 = .ok (.ifCond .eq 5, 3) := by decide +kernel
theorem dL_law_1294 : decode cL_law 1294 = .ok (.iconst 0, 1) := by decide +kernel
theorem dL_law_1295 : decode cL_law 1295 = .ok (.ireturn, 1) := by decide +kernel
theorem dL_law_1296 : decode cL_law 1296 = .ok (.goto 243, 3) := by decide +kernel
theorem dL_law_1299 : decode cL_law 1299 = .ok (.aload_n 1, 1) := by decide +kernel
theorem dL_law_1300 : decode cL_law 1300 = .ok (.aload_n 3, 1) := by decide +kernel
theorem dL_law_1301 : decode cL_law 1301 = .ok (.invokestatic 160, 3) := by decide +kernel
theorem dL_law_1304 : decode cL_law 1304 = .ok (.istore 5, 2) := by decide +kernel
theorem dL_law_1306 : decode cL_law 1306 = .ok (.aload_n 2, 1) := by decide +kernel
theorem dL_law_1307 : decode cL_law 1307 = .ok (.invokevirtual 163, 3) := by decide +kernel
theorem dL_law_1310 : decode cL_law 1310 = .ok (.istore 6, 2) := by decide +kernel
theorem dL_law_1312 : decode cL_law 1312 = .ok (.aload_n 2, 1) := by decide +kernel
theorem dL_law_1313 : decode cL_law 1313 = .ok (.invokevirtual 90, 3) := by decide +kernel
theorem dL_law_1316 : decode cL_law 1316 = .ok (.iload 5, 2) := by decide +kernel
theorem dL_law_1318 : decode cL_law 1318 = .ok (.if_icmp .eq 5, 3) := by decide +kernel
theorem dL_law_1321 : decode cL_law 1321 = .ok (.iconst 0, 1) := by decide +kernel
theorem dL_law_1322 : decode cL_law 1322 = .ok (.ireturn, 1) := by decide +kernel
theorem dL_law_1323 : decode cL_law 1323 = .ok (.iload 5, 2) := by decide +kernel
theorem dL_law_1325 : decode cL_law 1325 = .ok (.ifCond .ne 15, 3) := by decide +kernel
theorem dL_law_1328 : decode cL_law 1328 = .ok (.aload_n 3, 1) := by decide +kernel
theorem dL_law_1329 : decode cL_law 1329 = .ok (.iconst 0, 1) := by decide +kernel
theorem dL_law_1330 : decode cL_law 1330 = .ok (.laload, 1) := by decide +kernel
theorem dL_law_1331 : decode cL_law 1331 = .ok (.iload 6, 2) := by decide +kernel
theorem dL_law_1333 : decode cL_law 1333 = .ok (.i2l, 1) := by decide +kernel
theorem dL_law_1334 : decode cL_law 1334 = .ok (.lcmp, 1) := by decide +kernel
theorem dL_law_1335 : decode cL_law 1335 = .ok (.ifCond .eq 5, 3) := by decide +kernel
theorem dL_law_1338 : decode cL_law 1338 = .ok (.iconst 0, 1) := by decide +kernel
theorem dL_law_1339 : decode cL_law 1339 = .ok (.ireturn, 1) := by decide +kernel
theorem dL_law_1340 : decode cL_law 1340 = .ok (.goto 199, 3) := by decide +kernel
theorem dL_law_1343 : decode cL_law 1343 = .ok (.aload_n 1, 1) := by decide +kernel
theorem dL_law_1344 : decode cL_law 1344 = .ok (.aload_n 0, 1) := by decide +kernel
theorem dL_law_1345 : decode cL_law 1345 = .ok (.iload 4, 2) := by decide +kernel
theorem dL_law_1347 : decode cL_law 1347 = .ok (.iconst 1, 1) := by decide +kernel
theorem dL_law_1348 : decode cL_law 1348 = .ok (.iadd, 1) := by decide +kernel
theorem dL_law_1349 : decode cL_law 1349 = .ok (.iaload, 1) := by decide +kernel
theorem dL_law_1350 : decode cL_law 1350 = .ok (.aload_n 3, 1) := by decide +kernel
theorem dL_law_1351 : decode cL_law 1351 = .ok (.invokestatic 164, 3) := by decide +kernel
theorem dL_law_1354 : decode cL_law 1354 = .ok (.istore 5, 2) := by decide +kernel
theorem dL_law_1356 : decode cL_law 1356 = .ok (.aload_n 2, 1) := by decide +kernel
theorem dL_law_1357 : decode cL_law 1357 = .ok (.aload_n 0, 1) := by decide +kernel
theorem dL_law_1358 : decode cL_law 1358 = .ok (.iload 4, 2) := by decide +kernel
theorem dL_law_1360 : decode cL_law 1360 = .ok (.iconst 1, 1) := by decide +kernel
theorem dL_law_1361 : decode cL_law 1361 = .ok (.iadd, 1) := by decide +kernel
theorem dL_law_1362 : decode cL_law 1362 = .ok (.iaload, 1) := by decide +kernel
theorem dL_law_1363 : decode cL_law 1363 = .ok (.invokevirtual 166, 3) := by decide +kernel
theorem dL_law_1366 : decode cL_law 1366 = .ok (.istore 6, 2) := by decide +kernel
theorem dL_law_1368 : decode cL_law 1368 = .ok (.aload_n 2, 1) := by decide +kernel
theorem dL_law_1369 : decode cL_law 1369 = .ok (.invokevirtual 90, 3) := by decide +kernel
theorem dL_law_1372 : decode cL_law 1372 = .ok (.iload 5, 2) := by decide +kernel
theorem dL_law_1374 : decode cL_law 1374 = .ok (.if_icmp .eq 5, 3) := by decide +kernel
theorem dL_law_1377 : decode cL_law 1377 = .ok (.iconst 0, 1) := by decide +kernel
theorem dL_law_1378 : decode cL_law 1378 = .ok (.ireturn, 1) := by decide +kernel
theorem dL_law_1379 : decode cL_law 1379 = .ok (.iload 5, 2) := by decide +kernel
theorem dL_law_1381 : decode cL_law 1381 = .ok (.ifCond .ne 15, 3) := by decide +kernel
theorem dL_law_1384 : decode cL_law 1384 = .ok (.aload_n 3, 1) := by decide +kernel
theorem dL_law_1385 : decode cL_law 1385 = .ok (.iconst 0, 1) := by decide +kernel
theorem dL_law_1386 : decode cL_law 1386 = .ok (.laload, 1) := by decide +kernel
theorem dL_law_1387 : decode cL_law 1387 = .ok (.iload 6, 2) := by decide +kernel
theorem dL_law_1389 : decode cL_law 1389 = .ok (.i2l, 1) := by decide +kernel
theorem dL_law_1390 : decode cL_law 1390 = .ok (.lcmp, 1) := by decide +kernel
theorem dL_law_1391 : decode cL_law 1391 = .ok (.ifCond .eq 5, 3) := by decide +kernel
theorem dL_law_1394 : decode cL_law 1394 = .ok (.iconst 0, 1) := by decide +kernel
theorem dL_law_1395 : decode cL_law 1395 = .ok (.ireturn, 1) := by decide +kernel
theorem dL_law_1396 : decode cL_law 1396 = .ok (.goto 143, 3) := by decide +kernel
theorem dL_law_1399 : decode cL_law 1399 = .ok (.aload_n 1, 1) := by decide +kernel
theorem dL_law_1400 : decode cL_law 1400 = .ok (.aload_n 0, 1) := by decide +kernel
theorem dL_law_1401 : decode cL_law 1401 = .ok (.iload 4, 2) := by decide +kernel
theorem dL_law_1403 : decode cL_law 1403 = .ok (.iconst 1, 1) := by decide +kernel
theorem dL_law_1404 : decode cL_law 1404 = .ok (.iadd, 1) := by decide +kernel
theorem dL_law_1405 : decode cL_law 1405 = .ok (.iaload, 1) := by decide +kernel
theorem dL_law_1406 : decode cL_law 1406 = .ok (.aload_n 3, 1) := by decide +kernel
theorem dL_law_1407 : decode cL_law 1407 = .ok (.invokestatic 167, 3) := by decide +kernel
theorem dL_law_1410 : decode cL_law 1410 = .ok (.istore 5, 2) := by decide +kernel
theorem dL_law_1412 : decode cL_law 1412 = .ok (.aload_n 2, 1) := by decide +kernel
theorem dL_law_1413 : decode cL_law 1413 = .ok (.aload_n 0, 1) := by decide +kernel
theorem dL_law_1414 : decode cL_law 1414 = .ok (.iload 4, 2) := by decide +kernel
theorem dL_law_1416 : decode cL_law 1416 = .ok (.iconst 1, 1) := by decide +kernel
theorem dL_law_1417 : decode cL_law 1417 = .ok (.iadd, 1) := by decide +kernel
theorem dL_law_1418 : decode cL_law 1418 = .ok (.iaload, 1) := by decide +kernel
theorem dL_law_1419 : decode cL_law 1419 = .ok (.invokevirtual 169, 3) := by decide +kernel
theorem dL_law_1422 : decode cL_law 1422 = .ok (.istore 6, 2) := by decide +kernel
theorem dL_law_1424 : decode cL_law 1424 = .ok (.aload_n 2, 1) := by decide +kernel
theorem dL_law_1425 : decode cL_law 1425 = .ok (.invokevirtual 90, 3) := by decide +kernel
theorem dL_law_1428 : decode cL_law 1428 = .ok (.iload 5, 2) := by decide +kernel
theorem dL_law_1430 : decode cL_law 1430 = .ok (.if_icmp .eq 5, 3) := by decide +kernel
theorem dL_law_1433 : decode cL_law 1433 = .ok (.iconst 0, 1) := by decide +kernel
theorem dL_law_1434 : decode cL_law 1434 = .ok (.ireturn, 1) := by decide +kernel
theorem dL_law_1435 : decode cL_law 1435 = .ok (.iload 5, 2) := by decide +kernel
theorem dL_law_1437 : decode cL_law 1437 = .ok (.ifCond .ne 15, 3) := by decide +kernel
theorem dL_law_1440 : decode cL_law 1440 = .ok (.aload_n 3, 1) := by decide +kernel
theorem dL_law_1441 : decode cL_law 1441 = .ok (.iconst 0, 1) := by decide +kernel
theorem dL_law_1442 : decode cL_law 1442 = .ok (.laload, 1) := by decide +kernel
theorem dL_law_1443 : decode cL_law 1443 = .ok (.iload 6, 2) := by decide +kernel
theorem dL_law_1445 : decode cL_law 1445 = .ok (.i2l, 1) := by decide +kernel
theorem dL_law_1446 : decode cL_law 1446 = .ok (.lcmp, 1) := by decide +kernel
theorem dL_law_1447 : decode cL_law 1447 = .ok (.ifCond .eq 5, 3) := by decide +kernel
theorem dL_law_1450 : decode cL_law 1450 = .ok (.iconst 0, 1) := by decide +kernel
theorem dL_law_1451 : decode cL_law 1451 = .ok (.ireturn, 1) := by decide +kernel
theorem dL_law_1452 : decode cL_law 1452 = .ok (.goto 87, 3) := by decide +kernel
theorem dL_law_1455 : decode cL_law 1455 = .ok (.aload_n 1, 1) := by decide +kernel
theorem dL_law_1456 : decode cL_law 1456 = .ok (.invokevirtual 170, 3) := by decide +kernel
theorem dL_law_1459 : decode cL_law 1459 = .ok (.aload_n 2, 1) := by decide +kernel
theorem dL_law_1460 : decode cL_law 1460 = .ok (.invokevirtual 173, 3) := by decide +kernel
theorem dL_law_1463 : decode cL_law 1463 = .ok (.if_icmp .eq 76, 3) := by decide +kernel
theorem dL_law_1466 : decode cL_law 1466 = .ok (.iconst 0, 1) := by decide +kernel
theorem dL_law_1467 : decode cL_law 1467 = .ok (.ireturn, 1) := by decide +kernel
theorem dL_law_1468 : decode cL_law 1468 = .ok (.aload_n 1, 1) := by decide +kernel
theorem dL_law_1469 : decode cL_law 1469 = .ok (.invokevirtual 174, 3) := by decide +kernel
theorem dL_law_1472 : decode cL_law 1472 = .ok (.aload_n 2, 1) := by decide +kernel
theorem dL_law_1473 : decode cL_law 1473 = .ok (.invokevirtual 177, 3) := by decide +kernel
theorem dL_law_1476 : decode cL_law 1476 = .ok (.if_icmp .eq 63, 3) := by decide +kernel
theorem dL_law_1479 : decode cL_law 1479 = .ok (.iconst 0, 1) := by decide +kernel
theorem dL_law_1480 : decode cL_law 1480 = .ok (.ireturn, 1) := by decide +kernel
theorem dL_law_1481 : decode cL_law 1481 = .ok (.aload_n 1, 1) := by decide +kernel
theorem dL_law_1482 : decode cL_law 1482 = .ok (.aload_n 3, 1) := by decide +kernel
theorem dL_law_1483 : decode cL_law 1483 = .ok (.invokestatic 178, 3) := by decide +kernel
theorem dL_law_1486 : decode cL_law 1486 = .ok (.istore 5, 2) := by decide +kernel
theorem dL_law_1488 : decode cL_law 1488 = .ok (.aload_n 2, 1) := by decide +kernel
theorem dL_law_1489 : decode cL_law 1489 = .ok (.invokevirtual 180, 3) := by decide +kernel
theorem dL_law_1492 : decode cL_law 1492 = .ok (.istore 6, 2) := by decide +kernel
theorem dL_law_1494 : decode cL_law 1494 = .ok (.aload_n 2, 1) := by decide +kernel
theorem dL_law_1495 : decode cL_law 1495 = .ok (.invokevirtual 90, 3) := by decide +kernel
theorem dL_law_1498 : decode cL_law 1498 = .ok (.iload 5, 2) := by decide +kernel
theorem dL_law_1500 : decode cL_law 1500 = .ok (.if_icmp .eq 5, 3) := by decide +kernel
theorem dL_law_1503 : decode cL_law 1503 = .ok (.iconst 0, 1) := by decide +kernel
theorem dL_law_1504 : decode cL_law 1504 = .ok (.ireturn, 1) := by decide +kernel
theorem dL_law_1505 : decode cL_law 1505 = .ok (.iload 5, 2) := by decide +kernel
theorem dL_law_1507 : decode cL_law 1507 = .ok (.ifCond .ne 15, 3) := by decide +kernel
theorem dL_law_1510 : decode cL_law 1510 = .ok (.aload_n 3, 1) := by decide +kernel
theorem dL_law_1511 : decode cL_law 1511 = .ok (.iconst 0, 1) := by decide +kernel
theorem dL_law_1512 : decode cL_law 1512 = .ok (.laload, 1) := by decide +kernel
theorem dL_law_1513 : decode cL_law 1513 = .ok (.iload 6, 2) := by decide +kernel
theorem dL_law_1515 : decode cL_law 1515 = .ok (.i2l, 1) := by decide +kernel
theorem dL_law_1516 : decode cL_law 1516 = .ok (.lcmp, 1) := by decide +kernel
theorem dL_law_1517 : decode cL_law 1517 = .ok (.ifCond .eq 5, 3) := by decide +kernel
theorem dL_law_1520 : decode cL_law 1520 = .ok (.iconst 0, 1) := by decide +kernel
theorem dL_law_1521 : decode cL_law 1521 = .ok (.ireturn, 1) := by decide +kernel
theorem dL_law_1522 : decode cL_law 1522 = .ok (.goto 17, 3) := by decide +kernel
theorem dL_law_1525 : decode cL_law 1525 = .ok (.aload_n 1, 1) := by decide +kernel
theorem dL_law_1526 : decode cL_law 1526 = .ok (.invokevirtual 181, 3) := by decide +kernel
theorem dL_law_1529 : decode cL_law 1529 = .ok (.aload_n 2, 1) := by decide +kernel
theorem dL_law_1530 : decode cL_law 1530 = .ok (.invokevirtual 185, 3) := by decide +kernel
theorem dL_law_1533 : decode cL_law 1533 = .ok (.lcmp, 1) := by decide +kernel
theorem dL_law_1534 : decode cL_law 1534 = .ok (.ifCond .eq 5, 3) := by decide +kernel
theorem dL_law_1537 : decode cL_law 1537 = .ok (.iconst 0, 1) := by decide +kernel
theorem dL_law_1538 : decode cL_law 1538 = .ok (.ireturn, 1) := by decide +kernel
theorem dL_law_1539 : decode cL_law 1539 = .ok (.iinc 4 4, 3) := by decide +kernel
theorem dL_law_1542 : decode cL_law 1542 = .ok (.goto (-1519), 3) := by decide +kernel
theorem dL_law_1545 : decode cL_law 1545 = .ok (.iconst 1, 1) := by decide +kernel
theorem dL_law_1546 : decode cL_law 1546 = .ok (.ireturn, 1) := by decide +kernel
