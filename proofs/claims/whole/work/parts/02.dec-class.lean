theorem dX0_init_0 : decode cX0_init 0 = .ok (.aload_n 0, 1) := by decide +kernel
theorem dX0_init_1 : decode cX0_init 1 = .ok (.invokespecial 1, 3) := by decide +kernel
theorem dX0_init_4 : decode cX0_init 4 = .ok (.aload_n 0, 1) := by decide +kernel
theorem dX0_init_5 : decode cX0_init 5 = .ok (.new 7, 3) := by decide +kernel
theorem dX0_init_8 : decode cX0_init 8 = .ok (.dup, 1) := by decide +kernel
theorem dX0_init_9 : decode cX0_init 9 = .ok (.invokespecial 9, 3) := by decide +kernel
theorem dX0_init_12 : decode cX0_init 12 = .ok (.putfield 10, 3) := by decide +kernel
theorem dX0_init_15 : decode cX0_init 15 = .ok (.aload_n 0, 1) := by decide +kernel
theorem dX0_init_16 : decode cX0_init 16 = .ok (.iconst 0, 1) := by decide +kernel
theorem dX0_init_17 : decode cX0_init 17 = .ok (.putfield 16, 3) := by decide +kernel
theorem dX0_init_20 : decode cX0_init 20 = .ok (.aload_n 0, 1) := by decide +kernel
theorem dX0_init_21 : decode cX0_init 21 = .ok (.iconst 0, 1) := by decide +kernel
theorem dX0_init_22 : decode cX0_init 22 = .ok (.putfield 20, 3) := by decide +kernel
theorem dX0_init_25 : decode cX0_init 25 = .ok (.aload_n 0, 1) := by decide +kernel
theorem dX0_init_26 : decode cX0_init 26 = .ok (.iconst 0, 1) := by decide +kernel
theorem dX0_init_27 : decode cX0_init 27 = .ok (.putfield 23, 3) := by decide +kernel
theorem dX0_init_30 : decode cX0_init 30 = .ok (.aload_n 0, 1) := by decide +kernel
theorem dX0_init_31 : decode cX0_init 31 = .ok (.iconst 0, 1) := by decide +kernel
theorem dX0_init_32 : decode cX0_init 32 = .ok (.putfield 26, 3) := by decide +kernel
theorem dX0_init_35 : decode cX0_init 35 = .ok (.aload_n 0, 1) := by decide +kernel
theorem dX0_init_36 : decode cX0_init 36 = .ok (.iconst 0, 1) := by decide +kernel
theorem dX0_init_37 : decode cX0_init 37 = .ok (.putfield 29, 3) := by decide +kernel
theorem dX0_init_40 : decode cX0_init 40 = .ok (.aload_n 0, 1) := by decide +kernel
theorem dX0_init_41 : decode cX0_init 41 = .ok (.iconst 0, 1) := by decide +kernel
theorem dX0_init_42 : decode cX0_init 42 = .ok (.putfield 32, 3) := by decide +kernel
theorem dX0_init_45 : decode cX0_init 45 = .ok (.aload_n 0, 1) := by decide +kernel
theorem dX0_init_46 : decode cX0_init 46 = .ok (.iconst 0, 1) := by decide +kernel
theorem dX0_init_47 : decode cX0_init 47 = .ok (.putfield 35, 3) := by decide +kernel
theorem dX0_init_50 : decode cX0_init 50 = .ok (.return_, 1) := by decide +kernel
theorem dX0_begin_0 : decode cX0_begin 0 = .ok (.aload_n 0, 1) := by decide +kernel
theorem dX0_begin_1 : decode cX0_begin 1 = .ok (.getfield 10, 3) := by decide +kernel
theorem dX0_begin_4 : decode cX0_begin 4 = .ok (.aload_n 1, 1) := by decide +kernel
theorem dX0_begin_5 : decode cX0_begin 5 = .ok (.invokevirtual 38, 3) := by decide +kernel
theorem dX0_begin_8 : decode cX0_begin 8 = .ok (.aload_n 0, 1) := by decide +kernel
theorem dX0_begin_9 : decode cX0_begin 9 = .ok (.iconst 0, 1) := by decide +kernel
theorem dX0_begin_10 : decode cX0_begin 10 = .ok (.putfield 23, 3) := by decide +kernel
theorem dX0_begin_13 : decode cX0_begin 13 = .ok (.aload_n 0, 1) := by decide +kernel
theorem dX0_begin_14 : decode cX0_begin 14 = .ok (.iconst 0, 1) := by decide +kernel
theorem dX0_begin_15 : decode cX0_begin 15 = .ok (.putfield 26, 3) := by decide +kernel
theorem dX0_begin_18 : decode cX0_begin 18 = .ok (.aload_n 0, 1) := by decide +kernel
theorem dX0_begin_19 : decode cX0_begin 19 = .ok (.iconst 0, 1) := by decide +kernel
theorem dX0_begin_20 : decode cX0_begin 20 = .ok (.putfield 29, 3) := by decide +kernel
theorem dX0_begin_23 : decode cX0_begin 23 = .ok (.aload_n 0, 1) := by decide +kernel
theorem dX0_begin_24 : decode cX0_begin 24 = .ok (.iconst 0, 1) := by decide +kernel
theorem dX0_begin_25 : decode cX0_begin 25 = .ok (.putfield 32, 3) := by decide +kernel
theorem dX0_begin_28 : decode cX0_begin 28 = .ok (.aload_n 0, 1) := by decide +kernel
theorem dX0_begin_29 : decode cX0_begin 29 = .ok (.iconst 0, 1) := by decide +kernel
theorem dX0_begin_30 : decode cX0_begin 30 = .ok (.putfield 35, 3) := by decide +kernel
theorem dX0_begin_33 : decode cX0_begin 33 = .ok (.aload_n 0, 1) := by decide +kernel
theorem dX0_begin_34 : decode cX0_begin 34 = .ok (.iload_n 2, 1) := by decide +kernel
theorem dX0_begin_35 : decode cX0_begin 35 = .ok (.invokevirtual 42, 3) := by decide +kernel
theorem dX0_begin_38 : decode cX0_begin 38 = .ok (.return_, 1) := by decide +kernel
theorem dX0_copyFrom_0 : decode cX0_copyFrom 0 = .ok (.aload_n 0, 1) := by decide +kernel
theorem dX0_copyFrom_1 : decode cX0_copyFrom 1 = .ok (.getfield 10, 3) := by decide +kernel
theorem dX0_copyFrom_4 : decode cX0_copyFrom 4 = .ok (.aload_n 1, 1) := by decide +kernel
theorem dX0_copyFrom_5 : decode cX0_copyFrom 5 = .ok (.getfield 10, 3) := by decide +kernel
theorem dX0_copyFrom_8 : decode cX0_copyFrom 8 = .ok (.invokevirtual 38, 3) := by decide +kernel
theorem dX0_copyFrom_11 : decode cX0_copyFrom 11 = .ok (.aload_n 0, 1) := by decide +kernel
theorem dX0_copyFrom_12 : decode cX0_copyFrom 12 = .ok (.aload_n 1, 1) := by decide +kernel
theorem dX0_copyFrom_13 : decode cX0_copyFrom 13 = .ok (.getfield 16, 3) := by decide +kernel
theorem dX0_copyFrom_16 : decode cX0_copyFrom 16 = .ok (.putfield 16, 3) := by decide +kernel
theorem dX0_copyFrom_19 : decode cX0_copyFrom 19 = .ok (.aload_n 0, 1) := by decide +kernel
theorem dX0_copyFrom_20 : decode cX0_copyFrom 20 = .ok (.aload_n 1, 1) := by decide +kernel
theorem dX0_copyFrom_21 : decode cX0_copyFrom 21 = .ok (.getfield 20, 3) := by decide +kernel
theorem dX0_copyFrom_24 : decode cX0_copyFrom 24 = .ok (.putfield 20, 3) := by decide +kernel
theorem dX0_copyFrom_27 : decode cX0_copyFrom 27 = .ok (.aload_n 0, 1) := by decide +kernel
theorem dX0_copyFrom_28 : decode cX0_copyFrom 28 = .ok (.aload_n 1, 1) := by decide +kernel
theorem dX0_copyFrom_29 : decode cX0_copyFrom 29 = .ok (.getfield 23, 3) := by decide +kernel
theorem dX0_copyFrom_32 : decode cX0_copyFrom 32 = .ok (.putfield 23, 3) := by decide +kernel
theorem dX0_copyFrom_35 : decode cX0_copyFrom 35 = .ok (.aload_n 0, 1) := by decide +kernel
theorem dX0_copyFrom_36 : decode cX0_copyFrom 36 = .ok (.aload_n 1, 1) := by decide +kernel
theorem dX0_copyFrom_37 : decode cX0_copyFrom 37 = .ok (.getfield 26, 3) := by decide +kernel
theorem dX0_copyFrom_40 : decode cX0_copyFrom 40 = .ok (.putfield 26, 3) := by decide +kernel
theorem dX0_copyFrom_43 : decode cX0_copyFrom 43 = .ok (.aload_n 0, 1) := by decide +kernel
theorem dX0_copyFrom_44 : decode cX0_copyFrom 44 = .ok (.aload_n 1, 1) := by decide +kernel
theorem dX0_copyFrom_45 : decode cX0_copyFrom 45 = .ok (.getfield 29, 3) := by decide +kernel
theorem dX0_copyFrom_48 : decode cX0_copyFrom 48 = .ok (.putfield 29, 3) := by decide +kernel
theorem dX0_copyFrom_51 : decode cX0_copyFrom 51 = .ok (.aload_n 0, 1) := by decide +kernel
theorem dX0_copyFrom_52 : decode cX0_copyFrom 52 = .ok (.aload_n 1, 1) := by decide +kernel
theorem dX0_copyFrom_53 : decode cX0_copyFrom 53 = .ok (.getfield 32, 3) := by decide +kernel
theorem dX0_copyFrom_56 : decode cX0_copyFrom 56 = .ok (.putfield 32, 3) := by decide +kernel
theorem dX0_copyFrom_59 : decode cX0_copyFrom 59 = .ok (.aload_n 0, 1) := by decide +kernel
theorem dX0_copyFrom_60 : decode cX0_copyFrom 60 = .ok (.aload_n 1, 1) := by decide +kernel
theorem dX0_copyFrom_61 : decode cX0_copyFrom 61 = .ok (.getfield 35, 3) := by decide +kernel
theorem dX0_copyFrom_64 : decode cX0_copyFrom 64 = .ok (.putfield 35, 3) := by decide +kernel
theorem dX0_copyFrom_67 : decode cX0_copyFrom 67 = .ok (.return_, 1) := by decide +kernel
theorem dX0_vow_0 : decode cX0_vow 0 = .ok (.aload_n 0, 1) := by decide +kernel
theorem dX0_vow_1 : decode cX0_vow 1 = .ok (.aload_n 0, 1) := by decide +kernel
theorem dX0_vow_2 : decode cX0_vow 2 = .ok (.getfield 10, 3) := by decide +kernel
theorem dX0_vow_5 : decode cX0_vow 5 = .ok (.invokestatic 46, 3) := by decide +kernel
theorem dX0_vow_8 : decode cX0_vow 8 = .ok (.putfield 16, 3) := by decide +kernel
theorem dX0_vow_11 : decode cX0_vow 11 = .ok (.aload_n 0, 1) := by decide +kernel
theorem dX0_vow_12 : decode cX0_vow 12 = .ok (.iload_n 1, 1) := by decide +kernel
theorem dX0_vow_13 : decode cX0_vow 13 = .ok (.putfield 20, 3) := by decide +kernel
theorem dX0_vow_16 : decode cX0_vow 16 = .ok (.aload_n 0, 1) := by decide +kernel
theorem dX0_vow_17 : decode cX0_vow 17 = .ok (.dup, 1) := by decide +kernel
theorem dX0_vow_18 : decode cX0_vow 18 = .ok (.getfield 35, 3) := by decide +kernel
theorem dX0_vow_21 : decode cX0_vow 21 = .ok (.iconst 1, 1) := by decide +kernel
theorem dX0_vow_22 : decode cX0_vow 22 = .ok (.iadd, 1) := by decide +kernel
theorem dX0_vow_23 : decode cX0_vow 23 = .ok (.putfield 35, 3) := by decide +kernel
theorem dX0_vow_26 : decode cX0_vow 26 = .ok (.return_, 1) := by decide +kernel
theorem dX0_absorb_0 : decode cX0_absorb 0 = .ok (.aload_n 0, 1) := by decide +kernel
theorem dX0_absorb_1 : decode cX0_absorb 1 = .ok (.getfield 10, 3) := by decide +kernel
theorem dX0_absorb_4 : decode cX0_absorb 4 = .ok (.aload_n 1, 1) := by decide +kernel
theorem dX0_absorb_5 : decode cX0_absorb 5 = .ok (.getfield 10, 3) := by decide +kernel
theorem dX0_absorb_8 : decode cX0_absorb 8 = .ok (.iconst 0, 1) := by decide +kernel
theorem dX0_absorb_9 : decode cX0_absorb 9 = .ok (.invokevirtual 52, 3) := by decide +kernel
theorem dX0_absorb_12 : decode cX0_absorb 12 = .ok (.aload_n 0, 1) := by decide +kernel
theorem dX0_absorb_13 : decode cX0_absorb 13 = .ok (.dup, 1) := by decide +kernel
theorem dX0_absorb_14 : decode cX0_absorb 14 = .ok (.getfield 23, 3) := by decide +kernel
theorem dX0_absorb_17 : decode cX0_absorb 17 = .ok (.aload_n 1, 1) := by decide +kernel
theorem dX0_absorb_18 : decode cX0_absorb 18 = .ok (.getfield 23, 3) := by decide +kernel
theorem dX0_absorb_21 : decode cX0_absorb 21 = .ok (.iadd, 1) := by decide +kernel
theorem dX0_absorb_22 : decode cX0_absorb 22 = .ok (.putfield 23, 3) := by decide +kernel
theorem dX0_absorb_25 : decode cX0_absorb 25 = .ok (.aload_n 0, 1) := by decide +kernel
theorem dX0_absorb_26 : decode cX0_absorb 26 = .ok (.dup, 1) := by decide +kernel
theorem dX0_absorb_27 : decode cX0_absorb 27 = .ok (.getfield 26, 3) := by decide +kernel
theorem dX0_absorb_30 : decode cX0_absorb 30 = .ok (.aload_n 1, 1) := by decide +kernel
theorem dX0_absorb_31 : decode cX0_absorb 31 = .ok (.getfield 26, 3) := by decide +kernel
theorem dX0_absorb_34 : decode cX0_absorb 34 = .ok (.iadd, 1) := by decide +kernel
theorem dX0_absorb_35 : decode cX0_absorb 35 = .ok (.putfield 26, 3) := by decide +kernel
theorem dX0_absorb_38 : decode cX0_absorb 38 = .ok (.aload_n 0, 1) := by decide +kernel
theorem dX0_absorb_39 : decode cX0_absorb 39 = .ok (.dup, 1) := by decide +kernel
theorem dX0_absorb_40 : decode cX0_absorb 40 = .ok (.getfield 32, 3) := by decide +kernel
theorem dX0_absorb_43 : decode cX0_absorb 43 = .ok (.aload_n 1, 1) := by decide +kernel
theorem dX0_absorb_44 : decode cX0_absorb 44 = .ok (.getfield 32, 3) := by decide +kernel
theorem dX0_absorb_47 : decode cX0_absorb 47 = .ok (.iadd, 1) := by decide +kernel
theorem dX0_absorb_48 : decode cX0_absorb 48 = .ok (.putfield 32, 3) := by decide +kernel
theorem dX0_absorb_51 : decode cX0_absorb 51 = .ok (.return_, 1) := by decide +kernel
theorem dX0_excess_0 : decode cX0_excess 0 = .ok (.aload_n 0, 1) := by decide +kernel
theorem dX0_excess_1 : decode cX0_excess 1 = .ok (.getfield 10, 3) := by decide +kernel
theorem dX0_excess_4 : decode cX0_excess 4 = .ok (.aload_n 0, 1) := by decide +kernel
theorem dX0_excess_5 : decode cX0_excess 5 = .ok (.getfield 16, 3) := by decide +kernel
theorem dX0_excess_8 : decode cX0_excess 8 = .ok (.invokestatic 56, 3) := by decide +kernel
theorem dX0_excess_11 : decode cX0_excess 11 = .ok (.aload_n 0, 1) := by decide +kernel
theorem dX0_excess_12 : decode cX0_excess 12 = .ok (.getfield 10, 3) := by decide +kernel
theorem dX0_excess_15 : decode cX0_excess 15 = .ok (.aload_n 0, 1) := by decide +kernel
theorem dX0_excess_16 : decode cX0_excess 16 = .ok (.getfield 10, 3) := by decide +kernel
theorem dX0_excess_19 : decode cX0_excess 19 = .ok (.invokestatic 46, 3) := by decide +kernel
theorem dX0_excess_22 : decode cX0_excess 22 = .ok (.invokestatic 56, 3) := by decide +kernel
theorem dX0_excess_25 : decode cX0_excess 25 = .ok (.isub, 1) := by decide +kernel
theorem dX0_excess_26 : decode cX0_excess 26 = .ok (.ireturn, 1) := by decide +kernel
theorem dX0_daysLeft_0 : decode cX0_daysLeft 0 = .ok (.iconst 0, 1) := by decide +kernel
theorem dX0_daysLeft_1 : decode cX0_daysLeft 1 = .ok (.iload_n 2, 1) := by decide +kernel
theorem dX0_daysLeft_2 : decode cX0_daysLeft 2 = .ok (.iload_n 1, 1) := by decide +kernel
theorem dX0_daysLeft_3 : decode cX0_daysLeft 3 = .ok (.aload_n 0, 1) := by decide +kernel
theorem dX0_daysLeft_4 : decode cX0_daysLeft 4 = .ok (.getfield 20, 3) := by decide +kernel
theorem dX0_daysLeft_7 : decode cX0_daysLeft 7 = .ok (.isub, 1) := by decide +kernel
theorem dX0_daysLeft_8 : decode cX0_daysLeft 8 = .ok (.isub, 1) := by decide +kernel
theorem dX0_daysLeft_9 : decode cX0_daysLeft 9 = .ok (.invokestatic 60, 3) := by decide +kernel
theorem dX0_daysLeft_12 : decode cX0_daysLeft 12 = .ok (.ireturn, 1) := by decide +kernel
theorem dX0_liveDay_0 : decode cX0_liveDay 0 = .ok (.aload_n 0, 1) := by decide +kernel
theorem dX0_liveDay_1 : decode cX0_liveDay 1 = .ok (.invokevirtual 66, 3) := by decide +kernel
theorem dX0_liveDay_4 : decode cX0_liveDay 4 = .ok (.istore_n 3, 1) := by decide +kernel
theorem dX0_liveDay_5 : decode cX0_liveDay 5 = .ok (.aload_n 0, 1) := by decide +kernel
theorem dX0_liveDay_6 : decode cX0_liveDay 6 = .ok (.dup, 1) := by decide +kernel
theorem dX0_liveDay_7 : decode cX0_liveDay 7 = .ok (.getfield 23, 3) := by decide +kernel
theorem dX0_liveDay_10 : decode cX0_liveDay 10 = .ok (.iload_n 3, 1) := by decide +kernel
theorem dX0_liveDay_11 : decode cX0_liveDay 11 = .ok (.iadd, 1) := by decide +kernel
theorem dX0_liveDay_12 : decode cX0_liveDay 12 = .ok (.putfield 23, 3) := by decide +kernel
theorem dX0_liveDay_15 : decode cX0_liveDay 15 = .ok (.aload_n 0, 1) := by decide +kernel
theorem dX0_liveDay_16 : decode cX0_liveDay 16 = .ok (.iload_n 1, 1) := by decide +kernel
theorem dX0_liveDay_17 : decode cX0_liveDay 17 = .ok (.iload_n 2, 1) := by decide +kernel
theorem dX0_liveDay_18 : decode cX0_liveDay 18 = .ok (.invokevirtual 70, 3) := by decide +kernel
theorem dX0_liveDay_21 : decode cX0_liveDay 21 = .ok (.ifCond .ne 8, 3) := by decide +kernel
theorem dX0_liveDay_24 : decode cX0_liveDay 24 = .ok (.aload_n 0, 1) := by decide +kernel
theorem dX0_liveDay_25 : decode cX0_liveDay 25 = .ok (.iload_n 1, 1) := by decide +kernel
theorem dX0_liveDay_26 : decode cX0_liveDay 26 = .ok (.invokevirtual 42, 3) := by decide +kernel
theorem dX0_liveDay_29 : decode cX0_liveDay 29 = .ok (.iload_n 3, 1) := by decide +kernel
theorem dX0_liveDay_30 : decode cX0_liveDay 30 = .ok (.ireturn, 1) := by decide +kernel
theorem dX1_bits_0 : decode cX1_bits 0 = .ok (.aload_n 0, 1) := by decide +kernel
theorem dX1_bits_1 : decode cX1_bits 1 = .ok (.invokevirtual 9, 3) := by decide +kernel
theorem dX1_bits_4 : decode cX1_bits 4 = .ok (.istore_n 2, 1) := by decide +kernel
theorem dX1_bits_5 : decode cX1_bits 5 = .ok (.iload_n 1, 1) := by decide +kernel
theorem dX1_bits_6 : decode cX1_bits 6 = .ok (.tableswitch 97 0 4 #[34, 39, 48, 67, 82], 34) := by decide +kernel
theorem dX1_bits_40 : decode cX1_bits 40 = .ok (.bipush 8, 2) := by decide +kernel
theorem dX1_bits_42 : decode cX1_bits 42 = .ok (.iload_n 2, 1) := by decide +kernel
theorem dX1_bits_43 : decode cX1_bits 43 = .ok (.imul, 1) := by decide +kernel
theorem dX1_bits_44 : decode cX1_bits 44 = .ok (.ireturn, 1) := by decide +kernel
theorem dX1_bits_45 : decode cX1_bits 45 = .ok (.bipush 13, 2) := by decide +kernel
theorem dX1_bits_47 : decode cX1_bits 47 = .ok (.aload_n 0, 1) := by decide +kernel
theorem dX1_bits_48 : decode cX1_bits 48 = .ok (.iload_n 2, 1) := by decide +kernel
theorem dX1_bits_49 : decode cX1_bits 49 = .ok (.invokevirtual 15, 3) := by decide +kernel
theorem dX1_bits_52 : decode cX1_bits 52 = .ok (.imul, 1) := by decide +kernel
theorem dX1_bits_53 : decode cX1_bits 53 = .ok (.ireturn, 1) := by decide +kernel
theorem dX1_bits_54 : decode cX1_bits 54 = .ok (.aload_n 0, 1) := by decide +kernel
theorem dX1_bits_55 : decode cX1_bits 55 = .ok (.invokevirtual 19, 3) := by decide +kernel
theorem dX1_bits_58 : decode cX1_bits 58 = .ok (.istore_n 3, 1) := by decide +kernel
theorem dX1_bits_59 : decode cX1_bits 59 = .ok (.iconst 5, 1) := by decide +kernel
theorem dX1_bits_60 : decode cX1_bits 60 = .ok (.bipush 8, 2) := by decide +kernel
theorem dX1_bits_62 : decode cX1_bits 62 = .ok (.iload_n 3, 1) := by decide +kernel
theorem dX1_bits_63 : decode cX1_bits 63 = .ok (.imul, 1) := by decide +kernel
theorem dX1_bits_64 : decode cX1_bits 64 = .ok (.iadd, 1) := by decide +kernel
theorem dX1_bits_65 : decode cX1_bits 65 = .ok (.iload_n 2, 1) := by decide +kernel
theorem dX1_bits_66 : decode cX1_bits 66 = .ok (.iload_n 3, 1) := by decide +kernel
theorem dX1_bits_67 : decode cX1_bits 67 = .ok (.invokestatic 22, 3) := by decide +kernel
theorem dX1_bits_70 : decode cX1_bits 70 = .ok (.imul, 1) := by decide +kernel
theorem dX1_bits_71 : decode cX1_bits 71 = .ok (.iadd, 1) := by decide +kernel
theorem dX1_bits_72 : decode cX1_bits 72 = .ok (.ireturn, 1) := by decide +kernel
theorem dX1_bits_73 : decode cX1_bits 73 = .ok (.bipush 12, 2) := by decide +kernel
theorem dX1_bits_75 : decode cX1_bits 75 = .ok (.iload_n 2, 1) := by decide +kernel
theorem dX1_bits_76 : decode cX1_bits 76 = .ok (.iconst 1, 1) := by decide +kernel
theorem dX1_bits_77 : decode cX1_bits 77 = .ok (.isub, 1) := by decide +kernel
theorem dX1_bits_78 : decode cX1_bits 78 = .ok (.aload_n 0, 1) := by decide +kernel
theorem dX1_bits_79 : decode cX1_bits 79 = .ok (.invokevirtual 27, 3) := by decide +kernel
theorem dX1_bits_82 : decode cX1_bits 82 = .ok (.invokestatic 22, 3) := by decide +kernel
theorem dX1_bits_85 : decode cX1_bits 85 = .ok (.imul, 1) := by decide +kernel
theorem dX1_bits_86 : decode cX1_bits 86 = .ok (.iadd, 1) := by decide +kernel
theorem dX1_bits_87 : decode cX1_bits 87 = .ok (.ireturn, 1) := by decide +kernel
theorem dX1_bits_88 : decode cX1_bits 88 = .ok (.bipush 8, 2) := by decide +kernel
theorem dX1_bits_90 : decode cX1_bits 90 = .ok (.iload_n 2, 1) := by decide +kernel
theorem dX1_bits_91 : decode cX1_bits 91 = .ok (.iadd, 1) := by decide +kernel
theorem dX1_bits_92 : decode cX1_bits 92 = .ok (.bipush 8, 2) := by decide +kernel
theorem dX1_bits_94 : decode cX1_bits 94 = .ok (.iload_n 2, 1) := by decide +kernel
theorem dX1_bits_95 : decode cX1_bits 95 = .ok (.aload_n 0, 1) := by decide +kernel
theorem dX1_bits_96 : decode cX1_bits 96 = .ok (.invokevirtual 30, 3) := by decide +kernel
theorem dX1_bits_99 : decode cX1_bits 99 = .ok (.isub, 1) := by decide +kernel
theorem dX1_bits_100 : decode cX1_bits 100 = .ok (.imul, 1) := by decide +kernel
theorem dX1_bits_101 : decode cX1_bits 101 = .ok (.iadd, 1) := by decide +kernel
theorem dX1_bits_102 : decode cX1_bits 102 = .ok (.ireturn, 1) := by decide +kernel
theorem dX1_bits_103 : decode cX1_bits 103 = .ok (.bipush 12, 2) := by decide +kernel
theorem dX1_bits_105 : decode cX1_bits 105 = .ok (.iload_n 2, 1) := by decide +kernel
theorem dX1_bits_106 : decode cX1_bits 106 = .ok (.aload_n 0, 1) := by decide +kernel
theorem dX1_bits_107 : decode cX1_bits 107 = .ok (.invokevirtual 33, 3) := by decide +kernel
theorem dX1_bits_110 : decode cX1_bits 110 = .ok (.invokestatic 22, 3) := by decide +kernel
theorem dX1_bits_113 : decode cX1_bits 113 = .ok (.imul, 1) := by decide +kernel
theorem dX1_bits_114 : decode cX1_bits 114 = .ok (.iadd, 1) := by decide +kernel
theorem dX1_bits_115 : decode cX1_bits 115 = .ok (.ireturn, 1) := by decide +kernel
theorem dX1_best_0 : decode cX1_best 0 = .ok (.iconst 0, 1) := by decide +kernel
theorem dX1_best_1 : decode cX1_best 1 = .ok (.istore_n 1, 1) := by decide +kernel
theorem dX1_best_2 : decode cX1_best 2 = .ok (.aload_n 0, 1) := by decide +kernel
theorem dX1_best_3 : decode cX1_best 3 = .ok (.iconst 0, 1) := by decide +kernel
theorem dX1_best_4 : decode cX1_best 4 = .ok (.invokestatic 36, 3) := by decide +kernel
theorem dX1_best_7 : decode cX1_best 7 = .ok (.istore_n 2, 1) := by decide +kernel
theorem dX1_best_8 : decode cX1_best 8 = .ok (.iconst 1, 1) := by decide +kernel
theorem dX1_best_9 : decode cX1_best 9 = .ok (.istore_n 3, 1) := by decide +kernel
theorem dX1_best_10 : decode cX1_best 10 = .ok (.iload_n 3, 1) := by decide +kernel
theorem dX1_best_11 : decode cX1_best 11 = .ok (.bipush 6, 2) := by decide +kernel
theorem dX1_best_13 : decode cX1_best 13 = .ok (.if_icmp .ge 27, 3) := by decide +kernel
theorem dX1_best_16 : decode cX1_best 16 = .ok (.aload_n 0, 1) := by decide +kernel
theorem dX1_best_17 : decode cX1_best 17 = .ok (.iload_n 3, 1) := by decide +kernel
theorem dX1_best_18 : decode cX1_best 18 = .ok (.invokestatic 36, 3) := by decide +kernel
theorem dX1_best_21 : decode cX1_best 21 = .ok (.istore 4, 2) := by decide +kernel
theorem dX1_best_23 : decode cX1_best 23 = .ok (.iload 4, 2) := by decide +kernel
theorem dX1_best_25 : decode cX1_best 25 = .ok (.iload_n 2, 1) := by decide +kernel
theorem dX1_best_26 : decode cX1_best 26 = .ok (.if_icmp .ge 8, 3) := by decide +kernel
theorem dX1_best_29 : decode cX1_best 29 = .ok (.iload 4, 2) := by decide +kernel
theorem dX1_best_31 : decode cX1_best 31 = .ok (.istore_n 2, 1) := by decide +kernel
theorem dX1_best_32 : decode cX1_best 32 = .ok (.iload_n 3, 1) := by decide +kernel
theorem dX1_best_33 : decode cX1_best 33 = .ok (.istore_n 1, 1) := by decide +kernel
theorem dX1_best_34 : decode cX1_best 34 = .ok (.iinc 3 1, 3) := by decide +kernel
theorem dX1_best_37 : decode cX1_best 37 = .ok (.goto (-27), 3) := by decide +kernel
theorem dX1_best_40 : decode cX1_best 40 = .ok (.iload_n 1, 1) := by decide +kernel
theorem dX1_best_41 : decode cX1_best 41 = .ok (.ireturn, 1) := by decide +kernel
theorem dX1_answer_0 : decode cX1_answer 0 = .ok (.iload_n 1, 1) := by decide +kernel
theorem dX1_answer_1 : decode cX1_answer 1 = .ok (.lookupswitch 38 #[(0, 27), (1, 33)], 27) := by decide +kernel
theorem dX1_answer_28 : decode cX1_answer 28 = .ok (.aload_n 0, 1) := by decide +kernel
theorem dX1_answer_29 : decode cX1_answer 29 = .ok (.iload_n 2, 1) := by decide +kernel
theorem dX1_answer_30 : decode cX1_answer 30 = .ok (.invokevirtual 40, 3) := by decide +kernel
theorem dX1_answer_33 : decode cX1_answer 33 = .ok (.ireturn, 1) := by decide +kernel
theorem dX1_answer_34 : decode cX1_answer 34 = .ok (.aload_n 0, 1) := by decide +kernel
theorem dX1_answer_35 : decode cX1_answer 35 = .ok (.invokevirtual 43, 3) := by decide +kernel
theorem dX1_answer_38 : decode cX1_answer 38 = .ok (.ireturn, 1) := by decide +kernel
theorem dX1_answer_39 : decode cX1_answer 39 = .ok (.aload_n 0, 1) := by decide +kernel
theorem dX1_answer_40 : decode cX1_answer 40 = .ok (.iload_n 2, 1) := by decide +kernel
theorem dX1_answer_41 : decode cX1_answer 41 = .ok (.invokevirtual 46, 3) := by decide +kernel
theorem dX1_answer_44 : decode cX1_answer 44 = .ok (.ireturn, 1) := by decide +kernel
theorem dX1_effort_0 : decode cX1_effort 0 = .ok (.iload_n 1, 1) := by decide +kernel
theorem dX1_effort_1 : decode cX1_effort 1 = .ok (.tableswitch 78 0 4 #[71, 35, 57, 71, 64], 35) := by decide +kernel
theorem dX1_effort_36 : decode cX1_effort 36 = .ok (.aload_n 0, 1) := by decide +kernel
theorem dX1_effort_37 : decode cX1_effort 37 = .ok (.iload_n 2, 1) := by decide +kernel
theorem dX1_effort_38 : decode cX1_effort 38 = .ok (.iconst 2, 1) := by decide +kernel
theorem dX1_effort_39 : decode cX1_effort 39 = .ok (.if_icmp .ne 11, 3) := by decide +kernel
theorem dX1_effort_42 : decode cX1_effort 42 = .ok (.aload_n 0, 1) := by decide +kernel
theorem dX1_effort_43 : decode cX1_effort 43 = .ok (.iload_n 3, 1) := by decide +kernel
theorem dX1_effort_44 : decode cX1_effort 44 = .ok (.invokestatic 49, 3) := by decide +kernel
theorem dX1_effort_47 : decode cX1_effort 47 = .ok (.goto 7, 3) := by decide +kernel
theorem dX1_effort_50 : decode cX1_effort 50 = .ok (.aload_n 0, 1) := by decide +kernel
theorem dX1_effort_51 : decode cX1_effort 51 = .ok (.invokevirtual 9, 3) := by decide +kernel
theorem dX1_effort_54 : decode cX1_effort 54 = .ok (.invokevirtual 15, 3) := by decide +kernel
theorem dX1_effort_57 : decode cX1_effort 57 = .ok (.ireturn, 1) := by decide +kernel
theorem dX1_effort_58 : decode cX1_effort 58 = .ok (.aload_n 0, 1) := by decide +kernel
theorem dX1_effort_59 : decode cX1_effort 59 = .ok (.iload_n 2, 1) := by decide +kernel
theorem dX1_effort_60 : decode cX1_effort 60 = .ok (.iload_n 3, 1) := by decide +kernel
theorem dX1_effort_61 : decode cX1_effort 61 = .ok (.invokestatic 52, 3) := by decide +kernel
theorem dX1_effort_64 : decode cX1_effort 64 = .ok (.ireturn, 1) := by decide +kernel
theorem dX1_effort_65 : decode cX1_effort 65 = .ok (.aload_n 0, 1) := by decide +kernel
theorem dX1_effort_66 : decode cX1_effort 66 = .ok (.iload_n 2, 1) := by decide +kernel
theorem dX1_effort_67 : decode cX1_effort 67 = .ok (.iload_n 3, 1) := by decide +kernel
theorem dX1_effort_68 : decode cX1_effort 68 = .ok (.invokestatic 56, 3) := by decide +kernel
theorem dX1_effort_71 : decode cX1_effort 71 = .ok (.ireturn, 1) := by decide +kernel
theorem dX1_effort_72 : decode cX1_effort 72 = .ok (.aload_n 0, 1) := by decide +kernel
theorem dX1_effort_73 : decode cX1_effort 73 = .ok (.iload_n 2, 1) := by decide +kernel
theorem dX1_effort_74 : decode cX1_effort 74 = .ok (.iload_n 3, 1) := by decide +kernel
theorem dX1_effort_75 : decode cX1_effort 75 = .ok (.invokestatic 59, 3) := by decide +kernel
theorem dX1_effort_78 : decode cX1_effort 78 = .ok (.ireturn, 1) := by decide +kernel
theorem dX1_effort_79 : decode cX1_effort 79 = .ok (.aload_n 0, 1) := by decide +kernel
theorem dX1_effort_80 : decode cX1_effort 80 = .ok (.iload_n 2, 1) := by decide +kernel
theorem dX1_effort_81 : decode cX1_effort 81 = .ok (.iload_n 3, 1) := by decide +kernel
theorem dX1_effort_82 : decode cX1_effort 82 = .ok (.invokestatic 62, 3) := by decide +kernel
theorem dX1_effort_85 : decode cX1_effort 85 = .ok (.ireturn, 1) := by decide +kernel
theorem dX1_tableEffort_0 : decode cX1_tableEffort 0 = .ok (.aload_n 0, 1) := by decide +kernel
theorem dX1_tableEffort_1 : decode cX1_tableEffort 1 = .ok (.invokevirtual 19, 3) := by decide +kernel
theorem dX1_tableEffort_4 : decode cX1_tableEffort 4 = .ok (.istore_n 3, 1) := by decide +kernel
theorem dX1_tableEffort_5 : decode cX1_tableEffort 5 = .ok (.aload_n 0, 1) := by decide +kernel
theorem dX1_tableEffort_6 : decode cX1_tableEffort 6 = .ok (.iload_n 2, 1) := by decide +kernel
theorem dX1_tableEffort_7 : decode cX1_tableEffort 7 = .ok (.invokevirtual 46, 3) := by decide +kernel
theorem dX1_tableEffort_10 : decode cX1_tableEffort 10 = .ok (.iconst (-1), 1) := by decide +kernel
theorem dX1_tableEffort_11 : decode cX1_tableEffort 11 = .ok (.if_icmp .eq 7, 3) := by decide +kernel
theorem dX1_tableEffort_14 : decode cX1_tableEffort 14 = .ok (.iconst 1, 1) := by decide +kernel
theorem dX1_tableEffort_15 : decode cX1_tableEffort 15 = .ok (.goto 4, 3) := by decide +kernel
theorem dX1_tableEffort_18 : decode cX1_tableEffort 18 = .ok (.iconst 0, 1) := by decide +kernel
theorem dX1_tableEffort_19 : decode cX1_tableEffort 19 = .ok (.istore 4, 2) := by decide +kernel
theorem dX1_tableEffort_21 : decode cX1_tableEffort 21 = .ok (.iload_n 1, 1) := by decide +kernel
theorem dX1_tableEffort_22 : decode cX1_tableEffort 22 = .ok (.iconst 1, 1) := by decide +kernel
theorem dX1_tableEffort_23 : decode cX1_tableEffort 23 = .ok (.if_icmp .eq 8, 3) := by decide +kernel
theorem dX1_tableEffort_26 : decode cX1_tableEffort 26 = .ok (.iload 4, 2) := by decide +kernel
theorem dX1_tableEffort_28 : decode cX1_tableEffort 28 = .ok (.ifCond .eq 14, 3) := by decide +kernel
theorem dX1_tableEffort_31 : decode cX1_tableEffort 31 = .ok (.iload_n 3, 1) := by decide +kernel
theorem dX1_tableEffort_32 : decode cX1_tableEffort 32 = .ok (.aload_n 0, 1) := by decide +kernel
theorem dX1_tableEffort_33 : decode cX1_tableEffort 33 = .ok (.iload_n 1, 1) := by decide +kernel
theorem dX1_tableEffort_34 : decode cX1_tableEffort 34 = .ok (.iload_n 2, 1) := by decide +kernel
theorem dX1_tableEffort_35 : decode cX1_tableEffort 35 = .ok (.invokestatic 59, 3) := by decide +kernel
theorem dX1_tableEffort_38 : decode cX1_tableEffort 38 = .ok (.iadd, 1) := by decide +kernel
theorem dX1_tableEffort_39 : decode cX1_tableEffort 39 = .ok (.goto 4, 3) := by decide +kernel
theorem dX1_tableEffort_42 : decode cX1_tableEffort 42 = .ok (.iload_n 3, 1) := by decide +kernel
theorem dX1_tableEffort_43 : decode cX1_tableEffort 43 = .ok (.ireturn, 1) := by decide +kernel
theorem dX1_commonEffort_0 : decode cX1_commonEffort 0 = .ok (.iload_n 1, 1) := by decide +kernel
theorem dX1_commonEffort_1 : decode cX1_commonEffort 1 = .ok (.iconst 2, 1) := by decide +kernel
theorem dX1_commonEffort_2 : decode cX1_commonEffort 2 = .ok (.if_icmp .ne 8, 3) := by decide +kernel
theorem dX1_commonEffort_5 : decode cX1_commonEffort 5 = .ok (.aload_n 0, 1) := by decide +kernel
theorem dX1_commonEffort_6 : decode cX1_commonEffort 6 = .ok (.invokevirtual 9, 3) := by decide +kernel
theorem dX1_commonEffort_9 : decode cX1_commonEffort 9 = .ok (.ireturn, 1) := by decide +kernel
theorem dX1_commonEffort_10 : decode cX1_commonEffort 10 = .ok (.iload_n 1, 1) := by decide +kernel
theorem dX1_commonEffort_11 : decode cX1_commonEffort 11 = .ok (.ifCond .ne 15, 3) := by decide +kernel
theorem dX1_commonEffort_14 : decode cX1_commonEffort 14 = .ok (.iload_n 2, 1) := by decide +kernel
theorem dX1_commonEffort_15 : decode cX1_commonEffort 15 = .ok (.aload_n 0, 1) := by decide +kernel
theorem dX1_commonEffort_16 : decode cX1_commonEffort 16 = .ok (.invokevirtual 65, 3) := by decide +kernel
theorem dX1_commonEffort_19 : decode cX1_commonEffort 19 = .ok (.if_icmp .ne 7, 3) := by decide +kernel
theorem dX1_commonEffort_22 : decode cX1_commonEffort 22 = .ok (.iconst 1, 1) := by decide +kernel
theorem dX1_commonEffort_23 : decode cX1_commonEffort 23 = .ok (.goto 4, 3) := by decide +kernel
theorem dX1_commonEffort_26 : decode cX1_commonEffort 26 = .ok (.iconst 0, 1) := by decide +kernel
theorem dX1_commonEffort_27 : decode cX1_commonEffort 27 = .ok (.istore_n 3, 1) := by decide +kernel
theorem dX1_commonEffort_28 : decode cX1_commonEffort 28 = .ok (.iload_n 3, 1) := by decide +kernel
theorem dX1_commonEffort_29 : decode cX1_commonEffort 29 = .ok (.ifCond .eq 7, 3) := by decide +kernel
theorem dX1_commonEffort_32 : decode cX1_commonEffort 32 = .ok (.iconst 1, 1) := by decide +kernel
theorem dX1_commonEffort_33 : decode cX1_commonEffort 33 = .ok (.goto 14, 3) := by decide +kernel
theorem dX1_commonEffort_36 : decode cX1_commonEffort 36 = .ok (.iconst 1, 1) := by decide +kernel
theorem dX1_commonEffort_37 : decode cX1_commonEffort 37 = .ok (.aload_n 0, 1) := by decide +kernel
theorem dX1_commonEffort_38 : decode cX1_commonEffort 38 = .ok (.invokevirtual 9, 3) := by decide +kernel
theorem dX1_commonEffort_41 : decode cX1_commonEffort 41 = .ok (.iadd, 1) := by decide +kernel
theorem dX1_commonEffort_42 : decode cX1_commonEffort 42 = .ok (.aload_n 0, 1) := by decide +kernel
theorem dX1_commonEffort_43 : decode cX1_commonEffort 43 = .ok (.invokevirtual 30, 3) := by decide +kernel
theorem dX1_commonEffort_46 : decode cX1_commonEffort 46 = .ok (.isub, 1) := by decide +kernel
theorem dX1_commonEffort_47 : decode cX1_commonEffort 47 = .ok (.ireturn, 1) := by decide +kernel
theorem dX1_frameEffort_0 : decode cX1_frameEffort 0 = .ok (.aload_n 0, 1) := by decide +kernel
theorem dX1_frameEffort_1 : decode cX1_frameEffort 1 = .ok (.invokevirtual 68, 3) := by decide +kernel
theorem dX1_frameEffort_4 : decode cX1_frameEffort 4 = .ok (.istore_n 3, 1) := by decide +kernel
theorem dX1_frameEffort_5 : decode cX1_frameEffort 5 = .ok (.iload_n 2, 1) := by decide +kernel
theorem dX1_frameEffort_6 : decode cX1_frameEffort 6 = .ok (.iload_n 3, 1) := by decide +kernel
theorem dX1_frameEffort_7 : decode cX1_frameEffort 7 = .ok (.if_icmp .lt 18, 3) := by decide +kernel
theorem dX1_frameEffort_10 : decode cX1_frameEffort 10 = .ok (.iload_n 2, 1) := by decide +kernel
theorem dX1_frameEffort_11 : decode cX1_frameEffort 11 = .ok (.iload_n 3, 1) := by decide +kernel
theorem dX1_frameEffort_12 : decode cX1_frameEffort 12 = .ok (.iconst 1, 1) := by decide +kernel
theorem dX1_frameEffort_13 : decode cX1_frameEffort 13 = .ok (.aload_n 0, 1) := by decide +kernel
theorem dX1_frameEffort_14 : decode cX1_frameEffort 14 = .ok (.invokevirtual 33, 3) := by decide +kernel
theorem dX1_frameEffort_17 : decode cX1_frameEffort 17 = .ok (.invokestatic 22, 3) := by decide +kernel
theorem dX1_frameEffort_20 : decode cX1_frameEffort 20 = .ok (.ishl, 1) := by decide +kernel
theorem dX1_frameEffort_21 : decode cX1_frameEffort 21 = .ok (.iadd, 1) := by decide +kernel
theorem dX1_frameEffort_22 : decode cX1_frameEffort 22 = .ok (.if_icmp .lt 7, 3) := by decide +kernel
theorem dX1_frameEffort_25 : decode cX1_frameEffort 25 = .ok (.iconst 1, 1) := by decide +kernel
theorem dX1_frameEffort_26 : decode cX1_frameEffort 26 = .ok (.goto 4, 3) := by decide +kernel
theorem dX1_frameEffort_29 : decode cX1_frameEffort 29 = .ok (.iconst 0, 1) := by decide +kernel
theorem dX1_frameEffort_30 : decode cX1_frameEffort 30 = .ok (.istore 4, 2) := by decide +kernel
theorem dX1_frameEffort_32 : decode cX1_frameEffort 32 = .ok (.iload_n 1, 1) := by decide +kernel
theorem dX1_frameEffort_33 : decode cX1_frameEffort 33 = .ok (.iconst 1, 1) := by decide +kernel
theorem dX1_frameEffort_34 : decode cX1_frameEffort 34 = .ok (.if_icmp .eq 12, 3) := by decide +kernel
theorem dX1_frameEffort_37 : decode cX1_frameEffort 37 = .ok (.iload 4, 2) := by decide +kernel
theorem dX1_frameEffort_39 : decode cX1_frameEffort 39 = .ok (.ifCond .eq 7, 3) := by decide +kernel
theorem dX1_frameEffort_42 : decode cX1_frameEffort 42 = .ok (.iconst 1, 1) := by decide +kernel
theorem dX1_frameEffort_43 : decode cX1_frameEffort 43 = .ok (.goto 9, 3) := by decide +kernel
theorem dX1_frameEffort_46 : decode cX1_frameEffort 46 = .ok (.aload_n 0, 1) := by decide +kernel
theorem dX1_frameEffort_47 : decode cX1_frameEffort 47 = .ok (.iload_n 1, 1) := by decide +kernel
theorem dX1_frameEffort_48 : decode cX1_frameEffort 48 = .ok (.iload_n 2, 1) := by decide +kernel
theorem dX1_frameEffort_49 : decode cX1_frameEffort 49 = .ok (.invokestatic 59, 3) := by decide +kernel
theorem dX1_frameEffort_52 : decode cX1_frameEffort 52 = .ok (.ireturn, 1) := by decide +kernel
theorem dX1_rowEffort_0 : decode cX1_rowEffort 0 = .ok (.iload_n 1, 1) := by decide +kernel
theorem dX1_rowEffort_1 : decode cX1_rowEffort 1 = .ok (.iconst 2, 1) := by decide +kernel
theorem dX1_rowEffort_2 : decode cX1_rowEffort 2 = .ok (.if_icmp .ne 11, 3) := by decide +kernel
theorem dX1_rowEffort_5 : decode cX1_rowEffort 5 = .ok (.aload_n 0, 1) := by decide +kernel
theorem dX1_rowEffort_6 : decode cX1_rowEffort 6 = .ok (.iload_n 2, 1) := by decide +kernel
theorem dX1_rowEffort_7 : decode cX1_rowEffort 7 = .ok (.invokestatic 49, 3) := by decide +kernel
theorem dX1_rowEffort_10 : decode cX1_rowEffort 10 = .ok (.goto 7, 3) := by decide +kernel
theorem dX1_rowEffort_13 : decode cX1_rowEffort 13 = .ok (.aload_n 0, 1) := by decide +kernel
theorem dX1_rowEffort_14 : decode cX1_rowEffort 14 = .ok (.invokevirtual 9, 3) := by decide +kernel
theorem dX1_rowEffort_17 : decode cX1_rowEffort 17 = .ok (.ireturn, 1) := by decide +kernel
theorem dX1_reach_0 : decode cX1_reach 0 = .ok (.aload_n 0, 1) := by decide +kernel
theorem dX1_reach_1 : decode cX1_reach 1 = .ok (.iload_n 1, 1) := by decide +kernel
theorem dX1_reach_2 : decode cX1_reach 2 = .ok (.invokevirtual 46, 3) := by decide +kernel
theorem dX1_reach_5 : decode cX1_reach 5 = .ok (.istore_n 2, 1) := by decide +kernel
theorem dX1_reach_6 : decode cX1_reach 6 = .ok (.iload_n 2, 1) := by decide +kernel
theorem dX1_reach_7 : decode cX1_reach 7 = .ok (.iconst (-1), 1) := by decide +kernel
theorem dX1_reach_8 : decode cX1_reach 8 = .ok (.if_icmp .ne 10, 3) := by decide +kernel
theorem dX1_reach_11 : decode cX1_reach 11 = .ok (.aload_n 0, 1) := by decide +kernel
theorem dX1_reach_12 : decode cX1_reach 12 = .ok (.invokevirtual 9, 3) := by decide +kernel
theorem dX1_reach_15 : decode cX1_reach 15 = .ok (.goto 6, 3) := by decide +kernel
theorem dX1_reach_18 : decode cX1_reach 18 = .ok (.iload_n 2, 1) := by decide +kernel
theorem dX1_reach_19 : decode cX1_reach 19 = .ok (.iconst 1, 1) := by decide +kernel
theorem dX1_reach_20 : decode cX1_reach 20 = .ok (.iadd, 1) := by decide +kernel
theorem dX1_reach_21 : decode cX1_reach 21 = .ok (.ireturn, 1) := by decide +kernel
theorem dX1_widthFor_0 : decode cX1_widthFor 0 = .ok (.iconst 0, 1) := by decide +kernel
theorem dX1_widthFor_1 : decode cX1_widthFor 1 = .ok (.istore_n 1, 1) := by decide +kernel
theorem dX1_widthFor_2 : decode cX1_widthFor 2 = .ok (.iload_n 1, 1) := by decide +kernel
theorem dX1_widthFor_3 : decode cX1_widthFor 3 = .ok (.bipush 9, 2) := by decide +kernel
theorem dX1_widthFor_5 : decode cX1_widthFor 5 = .ok (.if_icmp .ge 16, 3) := by decide +kernel
theorem dX1_widthFor_8 : decode cX1_widthFor 8 = .ok (.iconst 1, 1) := by decide +kernel
theorem dX1_widthFor_9 : decode cX1_widthFor 9 = .ok (.iload_n 1, 1) := by decide +kernel
theorem dX1_widthFor_10 : decode cX1_widthFor 10 = .ok (.ishl, 1) := by decide +kernel
theorem dX1_widthFor_11 : decode cX1_widthFor 11 = .ok (.iload_n 0, 1) := by decide +kernel
theorem dX1_widthFor_12 : decode cX1_widthFor 12 = .ok (.if_icmp .ge 9, 3) := by decide +kernel
theorem dX1_widthFor_15 : decode cX1_widthFor 15 = .ok (.iinc 1 1, 3) := by decide +kernel
theorem dX1_widthFor_18 : decode cX1_widthFor 18 = .ok (.goto (-16), 3) := by decide +kernel
theorem dX1_widthFor_21 : decode cX1_widthFor 21 = .ok (.iload_n 1, 1) := by decide +kernel
theorem dX1_widthFor_22 : decode cX1_widthFor 22 = .ok (.ireturn, 1) := by decide +kernel
theorem dX2_init_0 : decode cX2_init 0 = .ok (.aload_n 0, 1) := by decide +kernel
theorem dX2_init_1 : decode cX2_init 1 = .ok (.invokespecial 3, 3) := by decide +kernel
theorem dX2_init_4 : decode cX2_init 4 = .ok (.aload_n 0, 1) := by decide +kernel
theorem dX2_init_5 : decode cX2_init 5 = .ok (.bipush 8, 2) := by decide +kernel
theorem dX2_init_7 : decode cX2_init 7 = .ok (.anewarray 9, 3) := by decide +kernel
theorem dX2_init_10 : decode cX2_init 10 = .ok (.putfield 11, 3) := by decide +kernel
theorem dX2_init_13 : decode cX2_init 13 = .ok (.aload_n 0, 1) := by decide +kernel
theorem dX2_init_14 : decode cX2_init 14 = .ok (.iconst 0, 1) := by decide +kernel
theorem dX2_init_15 : decode cX2_init 15 = .ok (.putfield 17, 3) := by decide +kernel
theorem dX2_init_18 : decode cX2_init 18 = .ok (.aload_n 0, 1) := by decide +kernel
theorem dX2_init_19 : decode cX2_init 19 = .ok (.iconst 0, 1) := by decide +kernel
theorem dX2_init_20 : decode cX2_init 20 = .ok (.putfield 21, 3) := by decide +kernel
theorem dX2_init_23 : decode cX2_init 23 = .ok (.aload_n 0, 1) := by decide +kernel
theorem dX2_init_24 : decode cX2_init 24 = .ok (.bipush 30, 2) := by decide +kernel
theorem dX2_init_26 : decode cX2_init 26 = .ok (.putfield 24, 3) := by decide +kernel
theorem dX2_init_29 : decode cX2_init 29 = .ok (.aload_n 0, 1) := by decide +kernel
theorem dX2_init_30 : decode cX2_init 30 = .ok (.iconst 4, 1) := by decide +kernel
theorem dX2_init_31 : decode cX2_init 31 = .ok (.putfield 27, 3) := by decide +kernel
theorem dX2_init_34 : decode cX2_init 34 = .ok (.iconst 0, 1) := by decide +kernel
theorem dX2_init_35 : decode cX2_init 35 = .ok (.istore_n 1, 1) := by decide +kernel
theorem dX2_init_36 : decode cX2_init 36 = .ok (.iload_n 1, 1) := by decide +kernel
theorem dX2_init_37 : decode cX2_init 37 = .ok (.aload_n 0, 1) := by decide +kernel
theorem dX2_init_38 : decode cX2_init 38 = .ok (.getfield 11, 3) := by decide +kernel
theorem dX2_init_41 : decode cX2_init 41 = .ok (.arraylength, 1) := by decide +kernel
theorem dX2_init_42 : decode cX2_init 42 = .ok (.if_icmp .ge 22, 3) := by decide +kernel
theorem dX2_init_45 : decode cX2_init 45 = .ok (.aload_n 0, 1) := by decide +kernel
theorem dX2_init_46 : decode cX2_init 46 = .ok (.getfield 11, 3) := by decide +kernel
theorem dX2_init_49 : decode cX2_init 49 = .ok (.iload_n 1, 1) := by decide +kernel
theorem dX2_init_50 : decode cX2_init 50 = .ok (.new 9, 3) := by decide +kernel
theorem dX2_init_53 : decode cX2_init 53 = .ok (.dup, 1) := by decide +kernel
theorem dX2_init_54 : decode cX2_init 54 = .ok (.invokespecial 30, 3) := by decide +kernel
theorem dX2_init_57 : decode cX2_init 57 = .ok (.aastore, 1) := by decide +kernel
theorem dX2_init_58 : decode cX2_init 58 = .ok (.iinc 1 1, 3) := by decide +kernel
theorem dX2_init_61 : decode cX2_init 61 = .ok (.goto (-25), 3) := by decide +kernel
theorem dX2_init_64 : decode cX2_init 64 = .ok (.return_, 1) := by decide +kernel
theorem dX2_size_0 : decode cX2_size 0 = .ok (.aload_n 0, 1) := by decide +kernel
theorem dX2_size_1 : decode cX2_size 1 = .ok (.getfield 17, 3) := by decide +kernel
theorem dX2_size_4 : decode cX2_size 4 = .ok (.ireturn, 1) := by decide +kernel
theorem dX2_has_0 : decode cX2_has 0 = .ok (.iload_n 1, 1) := by decide +kernel
theorem dX2_has_1 : decode cX2_has 1 = .ok (.ifCond .lt 15, 3) := by decide +kernel
theorem dX2_has_4 : decode cX2_has 4 = .ok (.iload_n 1, 1) := by decide +kernel
theorem dX2_has_5 : decode cX2_has 5 = .ok (.aload_n 0, 1) := by decide +kernel
theorem dX2_has_6 : decode cX2_has 6 = .ok (.getfield 17, 3) := by decide +kernel
theorem dX2_has_9 : decode cX2_has 9 = .ok (.if_icmp .ge 7, 3) := by decide +kernel
theorem dX2_has_12 : decode cX2_has 12 = .ok (.iconst 1, 1) := by decide +kernel
theorem dX2_has_13 : decode cX2_has 13 = .ok (.goto 4, 3) := by decide +kernel
theorem dX2_has_16 : decode cX2_has 16 = .ok (.iconst 0, 1) := by decide +kernel
theorem dX2_has_17 : decode cX2_has 17 = .ok (.ireturn, 1) := by decide +kernel
theorem dX2_isFull_0 : decode cX2_isFull 0 = .ok (.aload_n 0, 1) := by decide +kernel
theorem dX2_isFull_1 : decode cX2_isFull 1 = .ok (.getfield 17, 3) := by decide +kernel
theorem dX2_isFull_4 : decode cX2_isFull 4 = .ok (.aload_n 0, 1) := by decide +kernel
theorem dX2_isFull_5 : decode cX2_isFull 5 = .ok (.getfield 11, 3) := by decide +kernel
theorem dX2_isFull_8 : decode cX2_isFull 8 = .ok (.arraylength, 1) := by decide +kernel
theorem dX2_isFull_9 : decode cX2_isFull 9 = .ok (.if_icmp .lt 7, 3) := by decide +kernel
theorem dX2_isFull_12 : decode cX2_isFull 12 = .ok (.iconst 1, 1) := by decide +kernel
theorem dX2_isFull_13 : decode cX2_isFull 13 = .ok (.goto 4, 3) := by decide +kernel
theorem dX2_isFull_16 : decode cX2_isFull 16 = .ok (.iconst 0, 1) := by decide +kernel
theorem dX2_isFull_17 : decode cX2_isFull 17 = .ok (.ireturn, 1) := by decide +kernel
theorem dX2_at_0 : decode cX2_at 0 = .ok (.aload_n 0, 1) := by decide +kernel
theorem dX2_at_1 : decode cX2_at 1 = .ok (.getfield 11, 3) := by decide +kernel
theorem dX2_at_4 : decode cX2_at 4 = .ok (.aload_n 0, 1) := by decide +kernel
theorem dX2_at_5 : decode cX2_at 5 = .ok (.iload_n 1, 1) := by decide +kernel
theorem dX2_at_6 : decode cX2_at 6 = .ok (.invokevirtual 31, 3) := by decide +kernel
theorem dX2_at_9 : decode cX2_at 9 = .ok (.ifCond .eq 7, 3) := by decide +kernel
theorem dX2_at_12 : decode cX2_at 12 = .ok (.iload_n 1, 1) := by decide +kernel
theorem dX2_at_13 : decode cX2_at 13 = .ok (.goto 4, 3) := by decide +kernel
theorem dX2_at_16 : decode cX2_at 16 = .ok (.iconst 0, 1) := by decide +kernel
theorem dX2_at_17 : decode cX2_at 17 = .ok (.aaload, 1) := by decide +kernel
theorem dX2_at_18 : decode cX2_at 18 = .ok (.areturn, 1) := by decide +kernel
theorem dX2_open_0 : decode cX2_open 0 = .ok (.aload_n 0, 1) := by decide +kernel
theorem dX2_open_1 : decode cX2_open 1 = .ok (.invokevirtual 35, 3) := by decide +kernel
theorem dX2_open_4 : decode cX2_open 4 = .ok (.ifCond .eq 5, 3) := by decide +kernel
theorem dX2_open_7 : decode cX2_open 7 = .ok (.iconst (-1), 1) := by decide +kernel
theorem dX2_open_8 : decode cX2_open 8 = .ok (.ireturn, 1) := by decide +kernel
theorem dX2_open_9 : decode cX2_open 9 = .ok (.aload_n 0, 1) := by decide +kernel
theorem dX2_open_10 : decode cX2_open 10 = .ok (.getfield 11, 3) := by decide +kernel
theorem dX2_open_13 : decode cX2_open 13 = .ok (.aload_n 0, 1) := by decide +kernel
theorem dX2_open_14 : decode cX2_open 14 = .ok (.getfield 17, 3) := by decide +kernel
theorem dX2_open_17 : decode cX2_open 17 = .ok (.aaload, 1) := by decide +kernel
theorem dX2_open_18 : decode cX2_open 18 = .ok (.aload_n 1, 1) := by decide +kernel
theorem dX2_open_19 : decode cX2_open 19 = .ok (.aload_n 0, 1) := by decide +kernel
theorem dX2_open_20 : decode cX2_open 20 = .ok (.getfield 21, 3) := by decide +kernel
theorem dX2_open_23 : decode cX2_open 23 = .ok (.invokevirtual 39, 3) := by decide +kernel
theorem dX2_open_26 : decode cX2_open 26 = .ok (.aload_n 0, 1) := by decide +kernel
theorem dX2_open_27 : decode cX2_open 27 = .ok (.dup, 1) := by decide +kernel
theorem dX2_open_28 : decode cX2_open 28 = .ok (.getfield 17, 3) := by decide +kernel
theorem dX2_open_31 : decode cX2_open 31 = .ok (.iconst 1, 1) := by decide +kernel
theorem dX2_open_32 : decode cX2_open 32 = .ok (.iadd, 1) := by decide +kernel
theorem dX2_open_33 : decode cX2_open 33 = .ok (.putfield 17, 3) := by decide +kernel
theorem dX2_open_36 : decode cX2_open 36 = .ok (.aload_n 0, 1) := by decide +kernel
theorem dX2_open_37 : decode cX2_open 37 = .ok (.getfield 17, 3) := by decide +kernel
theorem dX2_open_40 : decode cX2_open 40 = .ok (.iconst 1, 1) := by decide +kernel
theorem dX2_open_41 : decode cX2_open 41 = .ok (.isub, 1) := by decide +kernel
theorem dX2_open_42 : decode cX2_open 42 = .ok (.ireturn, 1) := by decide +kernel
theorem dX2_drop_0 : decode cX2_drop 0 = .ok (.aload_n 0, 1) := by decide +kernel
theorem dX2_drop_1 : decode cX2_drop 1 = .ok (.iload_n 1, 1) := by decide +kernel
theorem dX2_drop_2 : decode cX2_drop 2 = .ok (.invokevirtual 31, 3) := by decide +kernel
theorem dX2_drop_5 : decode cX2_drop 5 = .ok (.ifCond .ne 4, 3) := by decide +kernel
theorem dX2_drop_8 : decode cX2_drop 8 = .ok (.return_, 1) := by decide +kernel
theorem dX2_drop_9 : decode cX2_drop 9 = .ok (.aload_n 0, 1) := by decide +kernel
theorem dX2_drop_10 : decode cX2_drop 10 = .ok (.getfield 11, 3) := by decide +kernel
theorem dX2_drop_13 : decode cX2_drop 13 = .ok (.iload_n 1, 1) := by decide +kernel
theorem dX2_drop_14 : decode cX2_drop 14 = .ok (.aaload, 1) := by decide +kernel
theorem dX2_drop_15 : decode cX2_drop 15 = .ok (.astore_n 2, 1) := by decide +kernel
theorem dX2_drop_16 : decode cX2_drop 16 = .ok (.iload_n 1, 1) := by decide +kernel
theorem dX2_drop_17 : decode cX2_drop 17 = .ok (.istore_n 3, 1) := by decide +kernel
theorem dX2_drop_18 : decode cX2_drop 18 = .ok (.iload_n 3, 1) := by decide +kernel
theorem dX2_drop_19 : decode cX2_drop 19 = .ok (.iconst 1, 1) := by decide +kernel
theorem dX2_drop_20 : decode cX2_drop 20 = .ok (.iadd, 1) := by decide +kernel
theorem dX2_drop_21 : decode cX2_drop 21 = .ok (.aload_n 0, 1) := by decide +kernel
theorem dX2_drop_22 : decode cX2_drop 22 = .ok (.getfield 17, 3) := by decide +kernel
theorem dX2_drop_25 : decode cX2_drop 25 = .ok (.if_icmp .ge 23, 3) := by decide +kernel
theorem dX2_drop_28 : decode cX2_drop 28 = .ok (.aload_n 0, 1) := by decide +kernel
theorem dX2_drop_29 : decode cX2_drop 29 = .ok (.getfield 11, 3) := by decide +kernel
theorem dX2_drop_32 : decode cX2_drop 32 = .ok (.iload_n 3, 1) := by decide +kernel
theorem dX2_drop_33 : decode cX2_drop 33 = .ok (.aload_n 0, 1) := by decide +kernel
theorem dX2_drop_34 : decode cX2_drop 34 = .ok (.getfield 11, 3) := by decide +kernel
theorem dX2_drop_37 : decode cX2_drop 37 = .ok (.iload_n 3, 1) := by decide +kernel
theorem dX2_drop_38 : decode cX2_drop 38 = .ok (.iconst 1, 1) := by decide +kernel
theorem dX2_drop_39 : decode cX2_drop 39 = .ok (.iadd, 1) := by decide +kernel
theorem dX2_drop_40 : decode cX2_drop 40 = .ok (.aaload, 1) := by decide +kernel
theorem dX2_drop_41 : decode cX2_drop 41 = .ok (.aastore, 1) := by decide +kernel
theorem dX2_drop_42 : decode cX2_drop 42 = .ok (.iinc 3 1, 3) := by decide +kernel
theorem dX2_drop_45 : decode cX2_drop 45 = .ok (.goto (-27), 3) := by decide +kernel
theorem dX2_drop_48 : decode cX2_drop 48 = .ok (.aload_n 0, 1) := by decide +kernel
theorem dX2_drop_49 : decode cX2_drop 49 = .ok (.dup, 1) := by decide +kernel
theorem dX2_drop_50 : decode cX2_drop 50 = .ok (.getfield 17, 3) := by decide +kernel
theorem dX2_drop_53 : decode cX2_drop 53 = .ok (.iconst 1, 1) := by decide +kernel
theorem dX2_drop_54 : decode cX2_drop 54 = .ok (.isub, 1) := by decide +kernel
theorem dX2_drop_55 : decode cX2_drop 55 = .ok (.putfield 17, 3) := by decide +kernel
theorem dX2_drop_58 : decode cX2_drop 58 = .ok (.aload_n 0, 1) := by decide +kernel
theorem dX2_drop_59 : decode cX2_drop 59 = .ok (.getfield 11, 3) := by decide +kernel
theorem dX2_drop_62 : decode cX2_drop 62 = .ok (.aload_n 0, 1) := by decide +kernel
theorem dX2_drop_63 : decode cX2_drop 63 = .ok (.getfield 17, 3) := by decide +kernel
theorem dX2_drop_66 : decode cX2_drop 66 = .ok (.aload_n 2, 1) := by decide +kernel
theorem dX2_drop_67 : decode cX2_drop 67 = .ok (.aastore, 1) := by decide +kernel
theorem dX2_drop_68 : decode cX2_drop 68 = .ok (.return_, 1) := by decide +kernel
theorem dX2_copyFrom_0 : decode cX2_copyFrom 0 = .ok (.aload_n 0, 1) := by decide +kernel
theorem dX2_copyFrom_1 : decode cX2_copyFrom 1 = .ok (.aload_n 1, 1) := by decide +kernel
theorem dX2_copyFrom_2 : decode cX2_copyFrom 2 = .ok (.getfield 17, 3) := by decide +kernel
theorem dX2_copyFrom_5 : decode cX2_copyFrom 5 = .ok (.putfield 17, 3) := by decide +kernel
theorem dX2_copyFrom_8 : decode cX2_copyFrom 8 = .ok (.aload_n 0, 1) := by decide +kernel
theorem dX2_copyFrom_9 : decode cX2_copyFrom 9 = .ok (.aload_n 1, 1) := by decide +kernel
theorem dX2_copyFrom_10 : decode cX2_copyFrom 10 = .ok (.getfield 21, 3) := by decide +kernel
theorem dX2_copyFrom_13 : decode cX2_copyFrom 13 = .ok (.putfield 21, 3) := by decide +kernel
theorem dX2_copyFrom_16 : decode cX2_copyFrom 16 = .ok (.aload_n 0, 1) := by decide +kernel
theorem dX2_copyFrom_17 : decode cX2_copyFrom 17 = .ok (.aload_n 1, 1) := by decide +kernel
theorem dX2_copyFrom_18 : decode cX2_copyFrom 18 = .ok (.getfield 24, 3) := by decide +kernel
theorem dX2_copyFrom_21 : decode cX2_copyFrom 21 = .ok (.putfield 24, 3) := by decide +kernel
theorem dX2_copyFrom_24 : decode cX2_copyFrom 24 = .ok (.aload_n 0, 1) := by decide +kernel
theorem dX2_copyFrom_25 : decode cX2_copyFrom 25 = .ok (.aload_n 1, 1) := by decide +kernel
theorem dX2_copyFrom_26 : decode cX2_copyFrom 26 = .ok (.getfield 27, 3) := by decide +kernel
theorem dX2_copyFrom_29 : decode cX2_copyFrom 29 = .ok (.putfield 27, 3) := by decide +kernel
theorem dX2_copyFrom_32 : decode cX2_copyFrom 32 = .ok (.iconst 0, 1) := by decide +kernel
theorem dX2_copyFrom_33 : decode cX2_copyFrom 33 = .ok (.istore_n 2, 1) := by decide +kernel
theorem dX2_copyFrom_34 : decode cX2_copyFrom 34 = .ok (.iload_n 2, 1) := by decide +kernel
theorem dX2_copyFrom_35 : decode cX2_copyFrom 35 = .ok (.aload_n 0, 1) := by decide +kernel
theorem dX2_copyFrom_36 : decode cX2_copyFrom 36 = .ok (.getfield 17, 3) := by decide +kernel
theorem dX2_copyFrom_39 : decode cX2_copyFrom 39 = .ok (.if_icmp .ge 24, 3) := by decide +kernel
theorem dX2_copyFrom_42 : decode cX2_copyFrom 42 = .ok (.aload_n 0, 1) := by decide +kernel
theorem dX2_copyFrom_43 : decode cX2_copyFrom 43 = .ok (.getfield 11, 3) := by decide +kernel
theorem dX2_copyFrom_46 : decode cX2_copyFrom 46 = .ok (.iload_n 2, 1) := by decide +kernel
theorem dX2_copyFrom_47 : decode cX2_copyFrom 47 = .ok (.aaload, 1) := by decide +kernel
theorem dX2_copyFrom_48 : decode cX2_copyFrom 48 = .ok (.aload_n 1, 1) := by decide +kernel
theorem dX2_copyFrom_49 : decode cX2_copyFrom 49 = .ok (.getfield 11, 3) := by decide +kernel
theorem dX2_copyFrom_52 : decode cX2_copyFrom 52 = .ok (.iload_n 2, 1) := by decide +kernel
theorem dX2_copyFrom_53 : decode cX2_copyFrom 53 = .ok (.aaload, 1) := by decide +kernel
theorem dX2_copyFrom_54 : decode cX2_copyFrom 54 = .ok (.invokevirtual 43, 3) := by decide +kernel
theorem dX2_copyFrom_57 : decode cX2_copyFrom 57 = .ok (.iinc 2 1, 3) := by decide +kernel
theorem dX2_copyFrom_60 : decode cX2_copyFrom 60 = .ok (.goto (-26), 3) := by decide +kernel
theorem dX2_copyFrom_63 : decode cX2_copyFrom 63 = .ok (.return_, 1) := by decide +kernel
theorem dX2_liveDay_0 : decode cX2_liveDay 0 = .ok (.aload_n 0, 1) := by decide +kernel
theorem dX2_liveDay_1 : decode cX2_liveDay 1 = .ok (.dup, 1) := by decide +kernel
theorem dX2_liveDay_2 : decode cX2_liveDay 2 = .ok (.getfield 21, 3) := by decide +kernel
theorem dX2_liveDay_5 : decode cX2_liveDay 5 = .ok (.iconst 1, 1) := by decide +kernel
theorem dX2_liveDay_6 : decode cX2_liveDay 6 = .ok (.iadd, 1) := by decide +kernel
theorem dX2_liveDay_7 : decode cX2_liveDay 7 = .ok (.putfield 21, 3) := by decide +kernel
theorem dX2_liveDay_10 : decode cX2_liveDay 10 = .ok (.iconst 0, 1) := by decide +kernel
theorem dX2_liveDay_11 : decode cX2_liveDay 11 = .ok (.istore_n 1, 1) := by decide +kernel
theorem dX2_liveDay_12 : decode cX2_liveDay 12 = .ok (.iconst 0, 1) := by decide +kernel
theorem dX2_liveDay_13 : decode cX2_liveDay 13 = .ok (.istore_n 2, 1) := by decide +kernel
theorem dX2_liveDay_14 : decode cX2_liveDay 14 = .ok (.iload_n 2, 1) := by decide +kernel
theorem dX2_liveDay_15 : decode cX2_liveDay 15 = .ok (.aload_n 0, 1) := by decide +kernel
theorem dX2_liveDay_16 : decode cX2_liveDay 16 = .ok (.getfield 17, 3) := by decide +kernel
theorem dX2_liveDay_19 : decode cX2_liveDay 19 = .ok (.if_icmp .ge 29, 3) := by decide +kernel
theorem dX2_liveDay_22 : decode cX2_liveDay 22 = .ok (.iload_n 1, 1) := by decide +kernel
theorem dX2_liveDay_23 : decode cX2_liveDay 23 = .ok (.aload_n 0, 1) := by decide +kernel
theorem dX2_liveDay_24 : decode cX2_liveDay 24 = .ok (.getfield 11, 3) := by decide +kernel
theorem dX2_liveDay_27 : decode cX2_liveDay 27 = .ok (.iload_n 2, 1) := by decide +kernel
theorem dX2_liveDay_28 : decode cX2_liveDay 28 = .ok (.aaload, 1) := by decide +kernel
theorem dX2_liveDay_29 : decode cX2_liveDay 29 = .ok (.aload_n 0, 1) := by decide +kernel
theorem dX2_liveDay_30 : decode cX2_liveDay 30 = .ok (.getfield 21, 3) := by decide +kernel
theorem dX2_liveDay_33 : decode cX2_liveDay 33 = .ok (.aload_n 0, 1) := by decide +kernel
theorem dX2_liveDay_34 : decode cX2_liveDay 34 = .ok (.getfield 24, 3) := by decide +kernel
theorem dX2_liveDay_37 : decode cX2_liveDay 37 = .ok (.invokevirtual 47, 3) := by decide +kernel
theorem dX2_liveDay_40 : decode cX2_liveDay 40 = .ok (.iadd, 1) := by decide +kernel
theorem dX2_liveDay_41 : decode cX2_liveDay 41 = .ok (.istore_n 1, 1) := by decide +kernel
theorem dX2_liveDay_42 : decode cX2_liveDay 42 = .ok (.iinc 2 1, 3) := by decide +kernel
theorem dX2_liveDay_45 : decode cX2_liveDay 45 = .ok (.goto (-31), 3) := by decide +kernel
theorem dX2_liveDay_48 : decode cX2_liveDay 48 = .ok (.iload_n 1, 1) := by decide +kernel
theorem dX2_liveDay_49 : decode cX2_liveDay 49 = .ok (.ireturn, 1) := by decide +kernel
theorem dX2_firstAlike_0 : decode cX2_firstAlike 0 = .ok (.iconst 0, 1) := by decide +kernel
theorem dX2_firstAlike_1 : decode cX2_firstAlike 1 = .ok (.istore_n 2, 1) := by decide +kernel
theorem dX2_firstAlike_2 : decode cX2_firstAlike 2 = .ok (.iload_n 2, 1) := by decide +kernel
theorem dX2_firstAlike_3 : decode cX2_firstAlike 3 = .ok (.aload_n 0, 1) := by decide +kernel
theorem dX2_firstAlike_4 : decode cX2_firstAlike 4 = .ok (.getfield 17, 3) := by decide +kernel
theorem dX2_firstAlike_7 : decode cX2_firstAlike 7 = .ok (.if_icmp .ge 27, 3) := by decide +kernel
theorem dX2_firstAlike_10 : decode cX2_firstAlike 10 = .ok (.aload_n 0, 1) := by decide +kernel
theorem dX2_firstAlike_11 : decode cX2_firstAlike 11 = .ok (.getfield 11, 3) := by decide +kernel
theorem dX2_firstAlike_14 : decode cX2_firstAlike 14 = .ok (.iload_n 2, 1) := by decide +kernel
theorem dX2_firstAlike_15 : decode cX2_firstAlike 15 = .ok (.aaload, 1) := by decide +kernel
theorem dX2_firstAlike_16 : decode cX2_firstAlike 16 = .ok (.getfield 51, 3) := by decide +kernel
theorem dX2_firstAlike_19 : decode cX2_firstAlike 19 = .ok (.aload_n 1, 1) := by decide +kernel
theorem dX2_firstAlike_20 : decode cX2_firstAlike 20 = .ok (.invokevirtual 55, 3) := by decide +kernel
theorem dX2_firstAlike_23 : decode cX2_firstAlike 23 = .ok (.ifCond .eq 5, 3) := by decide +kernel
theorem dX2_firstAlike_26 : decode cX2_firstAlike 26 = .ok (.iload_n 2, 1) := by decide +kernel
theorem dX2_firstAlike_27 : decode cX2_firstAlike 27 = .ok (.ireturn, 1) := by decide +kernel
theorem dX2_firstAlike_28 : decode cX2_firstAlike 28 = .ok (.iinc 2 1, 3) := by decide +kernel
theorem dX2_firstAlike_31 : decode cX2_firstAlike 31 = .ok (.goto (-29), 3) := by decide +kernel
theorem dX2_firstAlike_34 : decode cX2_firstAlike 34 = .ok (.iconst (-1), 1) := by decide +kernel
theorem dX2_firstAlike_35 : decode cX2_firstAlike 35 = .ok (.ireturn, 1) := by decide +kernel
theorem dX2_differentRows_0 : decode cX2_differentRows 0 = .ok (.iconst 0, 1) := by decide +kernel
theorem dX2_differentRows_1 : decode cX2_differentRows 1 = .ok (.istore_n 1, 1) := by decide +kernel
theorem dX2_differentRows_2 : decode cX2_differentRows 2 = .ok (.iconst 0, 1) := by decide +kernel
theorem dX2_differentRows_3 : decode cX2_differentRows 3 = .ok (.istore_n 2, 1) := by decide +kernel
theorem dX2_differentRows_4 : decode cX2_differentRows 4 = .ok (.iload_n 2, 1) := by decide +kernel
theorem dX2_differentRows_5 : decode cX2_differentRows 5 = .ok (.aload_n 0, 1) := by decide +kernel
theorem dX2_differentRows_6 : decode cX2_differentRows 6 = .ok (.getfield 17, 3) := by decide +kernel
theorem dX2_differentRows_9 : decode cX2_differentRows 9 = .ok (.if_icmp .ge 29, 3) := by decide +kernel
theorem dX2_differentRows_12 : decode cX2_differentRows 12 = .ok (.aload_n 0, 1) := by decide +kernel
theorem dX2_differentRows_13 : decode cX2_differentRows 13 = .ok (.aload_n 0, 1) := by decide +kernel
theorem dX2_differentRows_14 : decode cX2_differentRows 14 = .ok (.getfield 11, 3) := by decide +kernel
theorem dX2_differentRows_17 : decode cX2_differentRows 17 = .ok (.iload_n 2, 1) := by decide +kernel
theorem dX2_differentRows_18 : decode cX2_differentRows 18 = .ok (.aaload, 1) := by decide +kernel
theorem dX2_differentRows_19 : decode cX2_differentRows 19 = .ok (.getfield 51, 3) := by decide +kernel
theorem dX2_differentRows_22 : decode cX2_differentRows 22 = .ok (.invokevirtual 61, 3) := by decide +kernel
theorem dX2_differentRows_25 : decode cX2_differentRows 25 = .ok (.iload_n 2, 1) := by decide +kernel
theorem dX2_differentRows_26 : decode cX2_differentRows 26 = .ok (.if_icmp .ne 6, 3) := by decide +kernel
theorem dX2_differentRows_29 : decode cX2_differentRows 29 = .ok (.iinc 1 1, 3) := by decide +kernel
theorem dX2_differentRows_32 : decode cX2_differentRows 32 = .ok (.iinc 2 1, 3) := by decide +kernel
theorem dX2_differentRows_35 : decode cX2_differentRows 35 = .ok (.goto (-31), 3) := by decide +kernel
theorem dX2_differentRows_38 : decode cX2_differentRows 38 = .ok (.iload_n 1, 1) := by decide +kernel
theorem dX2_differentRows_39 : decode cX2_differentRows 39 = .ok (.ireturn, 1) := by decide +kernel
theorem dX2_blocksWithCode_0 : decode cX2_blocksWithCode 0 = .ok (.iconst 0, 1) := by decide +kernel
theorem dX2_blocksWithCode_1 : decode cX2_blocksWithCode 1 = .ok (.istore_n 2, 1) := by decide +kernel
theorem dX2_blocksWithCode_2 : decode cX2_blocksWithCode 2 = .ok (.iconst 0, 1) := by decide +kernel
theorem dX2_blocksWithCode_3 : decode cX2_blocksWithCode 3 = .ok (.istore_n 3, 1) := by decide +kernel
theorem dX2_blocksWithCode_4 : decode cX2_blocksWithCode 4 = .ok (.iload_n 3, 1) := by decide +kernel
theorem dX2_blocksWithCode_5 : decode cX2_blocksWithCode 5 = .ok (.aload_n 0, 1) := by decide +kernel
theorem dX2_blocksWithCode_6 : decode cX2_blocksWithCode 6 = .ok (.getfield 17, 3) := by decide +kernel
theorem dX2_blocksWithCode_9 : decode cX2_blocksWithCode 9 = .ok (.if_icmp .ge 25, 3) := by decide +kernel
theorem dX2_blocksWithCode_12 : decode cX2_blocksWithCode 12 = .ok (.aload_n 0, 1) := by decide +kernel
theorem dX2_blocksWithCode_13 : decode cX2_blocksWithCode 13 = .ok (.getfield 11, 3) := by decide +kernel
theorem dX2_blocksWithCode_16 : decode cX2_blocksWithCode 16 = .ok (.iload_n 3, 1) := by decide +kernel
theorem dX2_blocksWithCode_17 : decode cX2_blocksWithCode 17 = .ok (.aaload, 1) := by decide +kernel
theorem dX2_blocksWithCode_18 : decode cX2_blocksWithCode 18 = .ok (.getfield 65, 3) := by decide +kernel
theorem dX2_blocksWithCode_21 : decode cX2_blocksWithCode 21 = .ok (.iload_n 1, 1) := by decide +kernel
theorem dX2_blocksWithCode_22 : decode cX2_blocksWithCode 22 = .ok (.if_icmp .ne 6, 3) := by decide +kernel
theorem dX2_blocksWithCode_25 : decode cX2_blocksWithCode 25 = .ok (.iinc 2 1, 3) := by decide +kernel
theorem dX2_blocksWithCode_28 : decode cX2_blocksWithCode 28 = .ok (.iinc 3 1, 3) := by decide +kernel
theorem dX2_blocksWithCode_31 : decode cX2_blocksWithCode 31 = .ok (.goto (-27), 3) := by decide +kernel
theorem dX2_blocksWithCode_34 : decode cX2_blocksWithCode 34 = .ok (.iload_n 2, 1) := by decide +kernel
theorem dX2_blocksWithCode_35 : decode cX2_blocksWithCode 35 = .ok (.ireturn, 1) := by decide +kernel
theorem dX3_init_0 : decode cX3_init 0 = .ok (.aload_n 0, 1) := by decide +kernel
theorem dX3_init_1 : decode cX3_init 1 = .ok (.invokespecial 3, 3) := by decide +kernel
theorem dX3_init_4 : decode cX3_init 4 = .ok (.aload_n 0, 1) := by decide +kernel
theorem dX3_init_5 : decode cX3_init 5 = .ok (.bipush 6, 2) := by decide +kernel
theorem dX3_init_7 : decode cX3_init 7 = .ok (.anewarray 9, 3) := by decide +kernel
theorem dX3_init_10 : decode cX3_init 10 = .ok (.putfield 11, 3) := by decide +kernel
theorem dX3_init_13 : decode cX3_init 13 = .ok (.aload_n 0, 1) := by decide +kernel
theorem dX3_init_14 : decode cX3_init 14 = .ok (.iconst 0, 1) := by decide +kernel
theorem dX3_init_15 : decode cX3_init 15 = .ok (.putfield 17, 3) := by decide +kernel
theorem dX3_init_18 : decode cX3_init 18 = .ok (.iconst 0, 1) := by decide +kernel
theorem dX3_init_19 : decode cX3_init 19 = .ok (.istore_n 1, 1) := by decide +kernel
theorem dX3_init_20 : decode cX3_init 20 = .ok (.iload_n 1, 1) := by decide +kernel
theorem dX3_init_21 : decode cX3_init 21 = .ok (.aload_n 0, 1) := by decide +kernel
theorem dX3_init_22 : decode cX3_init 22 = .ok (.getfield 11, 3) := by decide +kernel
theorem dX3_init_25 : decode cX3_init 25 = .ok (.arraylength, 1) := by decide +kernel
theorem dX3_init_26 : decode cX3_init 26 = .ok (.if_icmp .ge 22, 3) := by decide +kernel
theorem dX3_init_29 : decode cX3_init 29 = .ok (.aload_n 0, 1) := by decide +kernel
theorem dX3_init_30 : decode cX3_init 30 = .ok (.getfield 11, 3) := by decide +kernel
theorem dX3_init_33 : decode cX3_init 33 = .ok (.iload_n 1, 1) := by decide +kernel
theorem dX3_init_34 : decode cX3_init 34 = .ok (.new 9, 3) := by decide +kernel
theorem dX3_init_37 : decode cX3_init 37 = .ok (.dup, 1) := by decide +kernel
theorem dX3_init_38 : decode cX3_init 38 = .ok (.invokespecial 21, 3) := by decide +kernel
theorem dX3_init_41 : decode cX3_init 41 = .ok (.aastore, 1) := by decide +kernel
theorem dX3_init_42 : decode cX3_init 42 = .ok (.iinc 1 1, 3) := by decide +kernel
theorem dX3_init_45 : decode cX3_init 45 = .ok (.goto (-25), 3) := by decide +kernel
theorem dX3_init_48 : decode cX3_init 48 = .ok (.return_, 1) := by decide +kernel
theorem dX3_size_0 : decode cX3_size 0 = .ok (.aload_n 0, 1) := by decide +kernel
theorem dX3_size_1 : decode cX3_size 1 = .ok (.getfield 17, 3) := by decide +kernel
theorem dX3_size_4 : decode cX3_size 4 = .ok (.ireturn, 1) := by decide +kernel
theorem dX3_save_0 : decode cX3_save 0 = .ok (.aload_n 0, 1) := by decide +kernel
theorem dX3_save_1 : decode cX3_save 1 = .ok (.getfield 17, 3) := by decide +kernel
theorem dX3_save_4 : decode cX3_save 4 = .ok (.aload_n 0, 1) := by decide +kernel
theorem dX3_save_5 : decode cX3_save 5 = .ok (.getfield 11, 3) := by decide +kernel
theorem dX3_save_8 : decode cX3_save 8 = .ok (.arraylength, 1) := by decide +kernel
theorem dX3_save_9 : decode cX3_save 9 = .ok (.if_icmp .lt 7, 3) := by decide +kernel
theorem dX3_save_12 : decode cX3_save 12 = .ok (.aload_n 0, 1) := by decide +kernel
theorem dX3_save_13 : decode cX3_save 13 = .ok (.invokevirtual 22, 3) := by decide +kernel
theorem dX3_save_16 : decode cX3_save 16 = .ok (.aload_n 0, 1) := by decide +kernel
theorem dX3_save_17 : decode cX3_save 17 = .ok (.getfield 11, 3) := by decide +kernel
theorem dX3_save_20 : decode cX3_save 20 = .ok (.aload_n 0, 1) := by decide +kernel
theorem dX3_save_21 : decode cX3_save 21 = .ok (.getfield 17, 3) := by decide +kernel
theorem dX3_save_24 : decode cX3_save 24 = .ok (.aaload, 1) := by decide +kernel
theorem dX3_save_25 : decode cX3_save 25 = .ok (.aload_n 1, 1) := by decide +kernel
theorem dX3_save_26 : decode cX3_save 26 = .ok (.invokevirtual 25, 3) := by decide +kernel
theorem dX3_save_29 : decode cX3_save 29 = .ok (.aload_n 0, 1) := by decide +kernel
theorem dX3_save_30 : decode cX3_save 30 = .ok (.dup, 1) := by decide +kernel
theorem dX3_save_31 : decode cX3_save 31 = .ok (.getfield 17, 3) := by decide +kernel
theorem dX3_save_34 : decode cX3_save 34 = .ok (.iconst 1, 1) := by decide +kernel
theorem dX3_save_35 : decode cX3_save 35 = .ok (.iadd, 1) := by decide +kernel
theorem dX3_save_36 : decode cX3_save 36 = .ok (.putfield 17, 3) := by decide +kernel
theorem dX3_save_39 : decode cX3_save 39 = .ok (.return_, 1) := by decide +kernel
theorem dX3_dropOldest_0 : decode cX3_dropOldest 0 = .ok (.aload_n 0, 1) := by decide +kernel
theorem dX3_dropOldest_1 : decode cX3_dropOldest 1 = .ok (.getfield 11, 3) := by decide +kernel
theorem dX3_dropOldest_4 : decode cX3_dropOldest 4 = .ok (.iconst 0, 1) := by decide +kernel
theorem dX3_dropOldest_5 : decode cX3_dropOldest 5 = .ok (.aaload, 1) := by decide +kernel
theorem dX3_dropOldest_6 : decode cX3_dropOldest 6 = .ok (.astore_n 1, 1) := by decide +kernel
theorem dX3_dropOldest_7 : decode cX3_dropOldest 7 = .ok (.iconst 0, 1) := by decide +kernel
theorem dX3_dropOldest_8 : decode cX3_dropOldest 8 = .ok (.istore_n 2, 1) := by decide +kernel
theorem dX3_dropOldest_9 : decode cX3_dropOldest 9 = .ok (.iload_n 2, 1) := by decide +kernel
theorem dX3_dropOldest_10 : decode cX3_dropOldest 10 = .ok (.iconst 1, 1) := by decide +kernel
theorem dX3_dropOldest_11 : decode cX3_dropOldest 11 = .ok (.iadd, 1) := by decide +kernel
theorem dX3_dropOldest_12 : decode cX3_dropOldest 12 = .ok (.aload_n 0, 1) := by decide +kernel
theorem dX3_dropOldest_13 : decode cX3_dropOldest 13 = .ok (.getfield 11, 3) := by decide +kernel
theorem dX3_dropOldest_16 : decode cX3_dropOldest 16 = .ok (.arraylength, 1) := by decide +kernel
theorem dX3_dropOldest_17 : decode cX3_dropOldest 17 = .ok (.if_icmp .ge 23, 3) := by decide +kernel
theorem dX3_dropOldest_20 : decode cX3_dropOldest 20 = .ok (.aload_n 0, 1) := by decide +kernel
theorem dX3_dropOldest_21 : decode cX3_dropOldest 21 = .ok (.getfield 11, 3) := by decide +kernel
theorem dX3_dropOldest_24 : decode cX3_dropOldest 24 = .ok (.iload_n 2, 1) := by decide +kernel
theorem dX3_dropOldest_25 : decode cX3_dropOldest 25 = .ok (.aload_n 0, 1) := by decide +kernel
theorem dX3_dropOldest_26 : decode cX3_dropOldest 26 = .ok (.getfield 11, 3) := by decide +kernel
theorem dX3_dropOldest_29 : decode cX3_dropOldest 29 = .ok (.iload_n 2, 1) := by decide +kernel
theorem dX3_dropOldest_30 : decode cX3_dropOldest 30 = .ok (.iconst 1, 1) := by decide +kernel
theorem dX3_dropOldest_31 : decode cX3_dropOldest 31 = .ok (.iadd, 1) := by decide +kernel
theorem dX3_dropOldest_32 : decode cX3_dropOldest 32 = .ok (.aaload, 1) := by decide +kernel
theorem dX3_dropOldest_33 : decode cX3_dropOldest 33 = .ok (.aastore, 1) := by decide +kernel
theorem dX3_dropOldest_34 : decode cX3_dropOldest 34 = .ok (.iinc 2 1, 3) := by decide +kernel
theorem dX3_dropOldest_37 : decode cX3_dropOldest 37 = .ok (.goto (-28), 3) := by decide +kernel
theorem dX3_dropOldest_40 : decode cX3_dropOldest 40 = .ok (.aload_n 0, 1) := by decide +kernel
theorem dX3_dropOldest_41 : decode cX3_dropOldest 41 = .ok (.aload_n 0, 1) := by decide +kernel
theorem dX3_dropOldest_42 : decode cX3_dropOldest 42 = .ok (.getfield 11, 3) := by decide +kernel
theorem dX3_dropOldest_45 : decode cX3_dropOldest 45 = .ok (.arraylength, 1) := by decide +kernel
theorem dX3_dropOldest_46 : decode cX3_dropOldest 46 = .ok (.iconst 1, 1) := by decide +kernel
theorem dX3_dropOldest_47 : decode cX3_dropOldest 47 = .ok (.isub, 1) := by decide +kernel
theorem dX3_dropOldest_48 : decode cX3_dropOldest 48 = .ok (.putfield 17, 3) := by decide +kernel
theorem dX3_dropOldest_51 : decode cX3_dropOldest 51 = .ok (.aload_n 0, 1) := by decide +kernel
theorem dX3_dropOldest_52 : decode cX3_dropOldest 52 = .ok (.getfield 11, 3) := by decide +kernel
theorem dX3_dropOldest_55 : decode cX3_dropOldest 55 = .ok (.aload_n 0, 1) := by decide +kernel
theorem dX3_dropOldest_56 : decode cX3_dropOldest 56 = .ok (.getfield 17, 3) := by decide +kernel
theorem dX3_dropOldest_59 : decode cX3_dropOldest 59 = .ok (.aload_n 1, 1) := by decide +kernel
theorem dX3_dropOldest_60 : decode cX3_dropOldest 60 = .ok (.aastore, 1) := by decide +kernel
theorem dX3_dropOldest_61 : decode cX3_dropOldest 61 = .ok (.return_, 1) := by decide +kernel
theorem dX3_restore_0 : decode cX3_restore 0 = .ok (.aload_n 0, 1) := by decide +kernel
theorem dX3_restore_1 : decode cX3_restore 1 = .ok (.getfield 17, 3) := by decide +kernel
theorem dX3_restore_4 : decode cX3_restore 4 = .ok (.ifCond .le 26, 3) := by decide +kernel
theorem dX3_restore_7 : decode cX3_restore 7 = .ok (.aload_n 0, 1) := by decide +kernel
theorem dX3_restore_8 : decode cX3_restore 8 = .ok (.dup, 1) := by decide +kernel
theorem dX3_restore_9 : decode cX3_restore 9 = .ok (.getfield 17, 3) := by decide +kernel
theorem dX3_restore_12 : decode cX3_restore 12 = .ok (.iconst 1, 1) := by decide +kernel
theorem dX3_restore_13 : decode cX3_restore 13 = .ok (.isub, 1) := by decide +kernel
theorem dX3_restore_14 : decode cX3_restore 14 = .ok (.putfield 17, 3) := by decide +kernel
theorem dX3_restore_17 : decode cX3_restore 17 = .ok (.aload_n 1, 1) := by decide +kernel
theorem dX3_restore_18 : decode cX3_restore 18 = .ok (.aload_n 0, 1) := by decide +kernel
theorem dX3_restore_19 : decode cX3_restore 19 = .ok (.getfield 11, 3) := by decide +kernel
theorem dX3_restore_22 : decode cX3_restore 22 = .ok (.aload_n 0, 1) := by decide +kernel
theorem dX3_restore_23 : decode cX3_restore 23 = .ok (.getfield 17, 3) := by decide +kernel
theorem dX3_restore_26 : decode cX3_restore 26 = .ok (.aaload, 1) := by decide +kernel
theorem dX3_restore_27 : decode cX3_restore 27 = .ok (.invokevirtual 25, 3) := by decide +kernel
theorem dX3_restore_30 : decode cX3_restore 30 = .ok (.return_, 1) := by decide +kernel
theorem dX4_init_0 : decode cX4_init 0 = .ok (.aload_n 0, 1) := by decide +kernel
theorem dX4_init_1 : decode cX4_init 1 = .ok (.invokespecial 3, 3) := by decide +kernel
theorem dX4_init_4 : decode cX4_init 4 = .ok (.aload_n 0, 1) := by decide +kernel
theorem dX4_init_5 : decode cX4_init 5 = .ok (.bipush 24, 2) := by decide +kernel
theorem dX4_init_7 : decode cX4_init 7 = .ok (.newarray .int, 2) := by decide +kernel
theorem dX4_init_9 : decode cX4_init 9 = .ok (.putfield 9, 3) := by decide +kernel
theorem dX4_init_12 : decode cX4_init 12 = .ok (.aload_n 0, 1) := by decide +kernel
theorem dX4_init_13 : decode cX4_init 13 = .ok (.iconst 0, 1) := by decide +kernel
theorem dX4_init_14 : decode cX4_init 14 = .ok (.putfield 15, 3) := by decide +kernel
theorem dX4_init_17 : decode cX4_init 17 = .ok (.return_, 1) := by decide +kernel
theorem dX4_size_0 : decode cX4_size 0 = .ok (.aload_n 0, 1) := by decide +kernel
theorem dX4_size_1 : decode cX4_size 1 = .ok (.getfield 15, 3) := by decide +kernel
theorem dX4_size_4 : decode cX4_size 4 = .ok (.ireturn, 1) := by decide +kernel
theorem dX4_has_0 : decode cX4_has 0 = .ok (.iload_n 1, 1) := by decide +kernel
theorem dX4_has_1 : decode cX4_has 1 = .ok (.ifCond .lt 15, 3) := by decide +kernel
theorem dX4_has_4 : decode cX4_has 4 = .ok (.iload_n 1, 1) := by decide +kernel
theorem dX4_has_5 : decode cX4_has 5 = .ok (.aload_n 0, 1) := by decide +kernel
theorem dX4_has_6 : decode cX4_has 6 = .ok (.getfield 15, 3) := by decide +kernel
theorem dX4_has_9 : decode cX4_has 9 = .ok (.if_icmp .ge 7, 3) := by decide +kernel
theorem dX4_has_12 : decode cX4_has 12 = .ok (.iconst 1, 1) := by decide +kernel
theorem dX4_has_13 : decode cX4_has 13 = .ok (.goto 4, 3) := by decide +kernel
theorem dX4_has_16 : decode cX4_has 16 = .ok (.iconst 0, 1) := by decide +kernel
theorem dX4_has_17 : decode cX4_has 17 = .ok (.ireturn, 1) := by decide +kernel
theorem dX4_hasRoomFor_0 : decode cX4_hasRoomFor 0 = .ok (.iload_n 1, 1) := by decide +kernel
theorem dX4_hasRoomFor_1 : decode cX4_hasRoomFor 1 = .ok (.aload_n 0, 1) := by decide +kernel
theorem dX4_hasRoomFor_2 : decode cX4_hasRoomFor 2 = .ok (.getfield 9, 3) := by decide +kernel
theorem dX4_hasRoomFor_5 : decode cX4_hasRoomFor 5 = .ok (.arraylength, 1) := by decide +kernel
theorem dX4_hasRoomFor_6 : decode cX4_hasRoomFor 6 = .ok (.aload_n 0, 1) := by decide +kernel
theorem dX4_hasRoomFor_7 : decode cX4_hasRoomFor 7 = .ok (.getfield 15, 3) := by decide +kernel
theorem dX4_hasRoomFor_10 : decode cX4_hasRoomFor 10 = .ok (.isub, 1) := by decide +kernel
theorem dX4_hasRoomFor_11 : decode cX4_hasRoomFor 11 = .ok (.if_icmp .gt 7, 3) := by decide +kernel
theorem dX4_hasRoomFor_14 : decode cX4_hasRoomFor 14 = .ok (.iconst 1, 1) := by decide +kernel
theorem dX4_hasRoomFor_15 : decode cX4_hasRoomFor 15 = .ok (.goto 4, 3) := by decide +kernel
theorem dX4_hasRoomFor_18 : decode cX4_hasRoomFor 18 = .ok (.iconst 0, 1) := by decide +kernel
theorem dX4_hasRoomFor_19 : decode cX4_hasRoomFor 19 = .ok (.ireturn, 1) := by decide +kernel
theorem dX4_at_0 : decode cX4_at 0 = .ok (.aload_n 0, 1) := by decide +kernel
theorem dX4_at_1 : decode cX4_at 1 = .ok (.iload_n 1, 1) := by decide +kernel
theorem dX4_at_2 : decode cX4_at 2 = .ok (.invokevirtual 19, 3) := by decide +kernel
theorem dX4_at_5 : decode cX4_at 5 = .ok (.ifCond .eq 12, 3) := by decide +kernel
theorem dX4_at_8 : decode cX4_at 8 = .ok (.aload_n 0, 1) := by decide +kernel
theorem dX4_at_9 : decode cX4_at 9 = .ok (.getfield 9, 3) := by decide +kernel
theorem dX4_at_12 : decode cX4_at 12 = .ok (.iload_n 1, 1) := by decide +kernel
theorem dX4_at_13 : decode cX4_at 13 = .ok (.iaload, 1) := by decide +kernel
theorem dX4_at_14 : decode cX4_at 14 = .ok (.goto 4, 3) := by decide +kernel
theorem dX4_at_17 : decode cX4_at 17 = .ok (.iconst (-1), 1) := by decide +kernel
theorem dX4_at_18 : decode cX4_at 18 = .ok (.ireturn, 1) := by decide +kernel
theorem dX4_clear_0 : decode cX4_clear 0 = .ok (.aload_n 0, 1) := by decide +kernel
theorem dX4_clear_1 : decode cX4_clear 1 = .ok (.iconst 0, 1) := by decide +kernel
theorem dX4_clear_2 : decode cX4_clear 2 = .ok (.putfield 15, 3) := by decide +kernel
theorem dX4_clear_5 : decode cX4_clear 5 = .ok (.return_, 1) := by decide +kernel
theorem dX4_push_0 : decode cX4_push 0 = .ok (.aload_n 0, 1) := by decide +kernel
theorem dX4_push_1 : decode cX4_push 1 = .ok (.iload_n 2, 1) := by decide +kernel
theorem dX4_push_2 : decode cX4_push 2 = .ok (.invokevirtual 23, 3) := by decide +kernel
theorem dX4_push_5 : decode cX4_push 5 = .ok (.ifCond .ne 5, 3) := by decide +kernel
theorem dX4_push_8 : decode cX4_push 8 = .ok (.iconst 0, 1) := by decide +kernel
theorem dX4_push_9 : decode cX4_push 9 = .ok (.ireturn, 1) := by decide +kernel
theorem dX4_push_10 : decode cX4_push 10 = .ok (.iconst 0, 1) := by decide +kernel
theorem dX4_push_11 : decode cX4_push 11 = .ok (.istore_n 3, 1) := by decide +kernel
theorem dX4_push_12 : decode cX4_push 12 = .ok (.iload_n 3, 1) := by decide +kernel
theorem dX4_push_13 : decode cX4_push 13 = .ok (.iload_n 2, 1) := by decide +kernel
theorem dX4_push_14 : decode cX4_push 14 = .ok (.if_icmp .ge 29, 3) := by decide +kernel
theorem dX4_push_17 : decode cX4_push 17 = .ok (.aload_n 0, 1) := by decide +kernel
theorem dX4_push_18 : decode cX4_push 18 = .ok (.getfield 9, 3) := by decide +kernel
theorem dX4_push_21 : decode cX4_push 21 = .ok (.aload_n 0, 1) := by decide +kernel
theorem dX4_push_22 : decode cX4_push 22 = .ok (.getfield 15, 3) := by decide +kernel
theorem dX4_push_25 : decode cX4_push 25 = .ok (.iload_n 1, 1) := by decide +kernel
theorem dX4_push_26 : decode cX4_push 26 = .ok (.iastore, 1) := by decide +kernel
theorem dX4_push_27 : decode cX4_push 27 = .ok (.aload_n 0, 1) := by decide +kernel
theorem dX4_push_28 : decode cX4_push 28 = .ok (.dup, 1) := by decide +kernel
theorem dX4_push_29 : decode cX4_push 29 = .ok (.getfield 15, 3) := by decide +kernel
theorem dX4_push_32 : decode cX4_push 32 = .ok (.iconst 1, 1) := by decide +kernel
theorem dX4_push_33 : decode cX4_push 33 = .ok (.iadd, 1) := by decide +kernel
theorem dX4_push_34 : decode cX4_push 34 = .ok (.putfield 15, 3) := by decide +kernel
theorem dX4_push_37 : decode cX4_push 37 = .ok (.iinc 3 1, 3) := by decide +kernel
theorem dX4_push_40 : decode cX4_push 40 = .ok (.goto (-28), 3) := by decide +kernel
theorem dX4_push_43 : decode cX4_push 43 = .ok (.iconst 1, 1) := by decide +kernel
theorem dX4_push_44 : decode cX4_push 44 = .ok (.ireturn, 1) := by decide +kernel
theorem dX4_pushTail_0 : decode cX4_pushTail 0 = .ok (.iload_n 2, 1) := by decide +kernel
theorem dX4_pushTail_1 : decode cX4_pushTail 1 = .ok (.istore_n 3, 1) := by decide +kernel
theorem dX4_pushTail_2 : decode cX4_pushTail 2 = .ok (.iload_n 3, 1) := by decide +kernel
theorem dX4_pushTail_3 : decode cX4_pushTail 3 = .ok (.aload_n 1, 1) := by decide +kernel
theorem dX4_pushTail_4 : decode cX4_pushTail 4 = .ok (.getfield 15, 3) := by decide +kernel
theorem dX4_pushTail_7 : decode cX4_pushTail 7 = .ok (.if_icmp .ge 20, 3) := by decide +kernel
theorem dX4_pushTail_10 : decode cX4_pushTail 10 = .ok (.aload_n 0, 1) := by decide +kernel
theorem dX4_pushTail_11 : decode cX4_pushTail 11 = .ok (.aload_n 1, 1) := by decide +kernel
theorem dX4_pushTail_12 : decode cX4_pushTail 12 = .ok (.iload_n 3, 1) := by decide +kernel
theorem dX4_pushTail_13 : decode cX4_pushTail 13 = .ok (.invokevirtual 26, 3) := by decide +kernel
theorem dX4_pushTail_16 : decode cX4_pushTail 16 = .ok (.iconst 1, 1) := by decide +kernel
theorem dX4_pushTail_17 : decode cX4_pushTail 17 = .ok (.invokevirtual 30, 3) := by decide +kernel
theorem dX4_pushTail_20 : decode cX4_pushTail 20 = .ok (.pop, 1) := by decide +kernel
theorem dX4_pushTail_21 : decode cX4_pushTail 21 = .ok (.iinc 3 1, 3) := by decide +kernel
theorem dX4_pushTail_24 : decode cX4_pushTail 24 = .ok (.goto (-22), 3) := by decide +kernel
theorem dX4_pushTail_27 : decode cX4_pushTail 27 = .ok (.return_, 1) := by decide +kernel
theorem dX4_copyFrom_0 : decode cX4_copyFrom 0 = .ok (.aload_n 0, 1) := by decide +kernel
theorem dX4_copyFrom_1 : decode cX4_copyFrom 1 = .ok (.aload_n 1, 1) := by decide +kernel
theorem dX4_copyFrom_2 : decode cX4_copyFrom 2 = .ok (.getfield 15, 3) := by decide +kernel
theorem dX4_copyFrom_5 : decode cX4_copyFrom 5 = .ok (.putfield 15, 3) := by decide +kernel
theorem dX4_copyFrom_8 : decode cX4_copyFrom 8 = .ok (.iconst 0, 1) := by decide +kernel
theorem dX4_copyFrom_9 : decode cX4_copyFrom 9 = .ok (.istore_n 2, 1) := by decide +kernel
theorem dX4_copyFrom_10 : decode cX4_copyFrom 10 = .ok (.iload_n 2, 1) := by decide +kernel
theorem dX4_copyFrom_11 : decode cX4_copyFrom 11 = .ok (.aload_n 0, 1) := by decide +kernel
theorem dX4_copyFrom_12 : decode cX4_copyFrom 12 = .ok (.getfield 15, 3) := by decide +kernel
theorem dX4_copyFrom_15 : decode cX4_copyFrom 15 = .ok (.if_icmp .ge 21, 3) := by decide +kernel
theorem dX4_copyFrom_18 : decode cX4_copyFrom 18 = .ok (.aload_n 0, 1) := by decide +kernel
theorem dX4_copyFrom_19 : decode cX4_copyFrom 19 = .ok (.getfield 9, 3) := by decide +kernel
theorem dX4_copyFrom_22 : decode cX4_copyFrom 22 = .ok (.iload_n 2, 1) := by decide +kernel
theorem dX4_copyFrom_23 : decode cX4_copyFrom 23 = .ok (.aload_n 1, 1) := by decide +kernel
theorem dX4_copyFrom_24 : decode cX4_copyFrom 24 = .ok (.getfield 9, 3) := by decide +kernel
theorem dX4_copyFrom_27 : decode cX4_copyFrom 27 = .ok (.iload_n 2, 1) := by decide +kernel
theorem dX4_copyFrom_28 : decode cX4_copyFrom 28 = .ok (.iaload, 1) := by decide +kernel
theorem dX4_copyFrom_29 : decode cX4_copyFrom 29 = .ok (.iastore, 1) := by decide +kernel
theorem dX4_copyFrom_30 : decode cX4_copyFrom 30 = .ok (.iinc 2 1, 3) := by decide +kernel
theorem dX4_copyFrom_33 : decode cX4_copyFrom 33 = .ok (.goto (-23), 3) := by decide +kernel
theorem dX4_copyFrom_36 : decode cX4_copyFrom 36 = .ok (.return_, 1) := by decide +kernel
theorem dX4_replace_0 : decode cX4_replace 0 = .ok (.aload_n 0, 1) := by decide +kernel
theorem dX4_replace_1 : decode cX4_replace 1 = .ok (.iload_n 1, 1) := by decide +kernel
theorem dX4_replace_2 : decode cX4_replace 2 = .ok (.invokevirtual 19, 3) := by decide +kernel
theorem dX4_replace_5 : decode cX4_replace 5 = .ok (.ifCond .eq 10, 3) := by decide +kernel
theorem dX4_replace_8 : decode cX4_replace 8 = .ok (.aload_n 0, 1) := by decide +kernel
theorem dX4_replace_9 : decode cX4_replace 9 = .ok (.getfield 9, 3) := by decide +kernel
theorem dX4_replace_12 : decode cX4_replace 12 = .ok (.iload_n 1, 1) := by decide +kernel
theorem dX4_replace_13 : decode cX4_replace 13 = .ok (.iload_n 2, 1) := by decide +kernel
theorem dX4_replace_14 : decode cX4_replace 14 = .ok (.iastore, 1) := by decide +kernel
theorem dX4_replace_15 : decode cX4_replace 15 = .ok (.return_, 1) := by decide +kernel
theorem dX4_remove_0 : decode cX4_remove 0 = .ok (.aload_n 0, 1) := by decide +kernel
theorem dX4_remove_1 : decode cX4_remove 1 = .ok (.iload_n 1, 1) := by decide +kernel
theorem dX4_remove_2 : decode cX4_remove 2 = .ok (.invokevirtual 19, 3) := by decide +kernel
theorem dX4_remove_5 : decode cX4_remove 5 = .ok (.ifCond .eq 45, 3) := by decide +kernel
theorem dX4_remove_8 : decode cX4_remove 8 = .ok (.iload_n 1, 1) := by decide +kernel
theorem dX4_remove_9 : decode cX4_remove 9 = .ok (.istore_n 2, 1) := by decide +kernel
theorem dX4_remove_10 : decode cX4_remove 10 = .ok (.iload_n 2, 1) := by decide +kernel
theorem dX4_remove_11 : decode cX4_remove 11 = .ok (.iconst 1, 1) := by decide +kernel
theorem dX4_remove_12 : decode cX4_remove 12 = .ok (.iadd, 1) := by decide +kernel
theorem dX4_remove_13 : decode cX4_remove 13 = .ok (.aload_n 0, 1) := by decide +kernel
theorem dX4_remove_14 : decode cX4_remove 14 = .ok (.getfield 15, 3) := by decide +kernel
theorem dX4_remove_17 : decode cX4_remove 17 = .ok (.if_icmp .ge 23, 3) := by decide +kernel
theorem dX4_remove_20 : decode cX4_remove 20 = .ok (.aload_n 0, 1) := by decide +kernel
theorem dX4_remove_21 : decode cX4_remove 21 = .ok (.getfield 9, 3) := by decide +kernel
theorem dX4_remove_24 : decode cX4_remove 24 = .ok (.iload_n 2, 1) := by decide +kernel
theorem dX4_remove_25 : decode cX4_remove 25 = .ok (.aload_n 0, 1) := by decide +kernel
theorem dX4_remove_26 : decode cX4_remove 26 = .ok (.getfield 9, 3) := by decide +kernel
theorem dX4_remove_29 : decode cX4_remove 29 = .ok (.iload_n 2, 1) := by decide +kernel
theorem dX4_remove_30 : decode cX4_remove 30 = .ok (.iconst 1, 1) := by decide +kernel
theorem dX4_remove_31 : decode cX4_remove 31 = .ok (.iadd, 1) := by decide +kernel
theorem dX4_remove_32 : decode cX4_remove 32 = .ok (.iaload, 1) := by decide +kernel
theorem dX4_remove_33 : decode cX4_remove 33 = .ok (.iastore, 1) := by decide +kernel
theorem dX4_remove_34 : decode cX4_remove 34 = .ok (.iinc 2 1, 3) := by decide +kernel
theorem dX4_remove_37 : decode cX4_remove 37 = .ok (.goto (-27), 3) := by decide +kernel
theorem dX4_remove_40 : decode cX4_remove 40 = .ok (.aload_n 0, 1) := by decide +kernel
theorem dX4_remove_41 : decode cX4_remove 41 = .ok (.dup, 1) := by decide +kernel
theorem dX4_remove_42 : decode cX4_remove 42 = .ok (.getfield 15, 3) := by decide +kernel
theorem dX4_remove_45 : decode cX4_remove 45 = .ok (.iconst 1, 1) := by decide +kernel
theorem dX4_remove_46 : decode cX4_remove 46 = .ok (.isub, 1) := by decide +kernel
theorem dX4_remove_47 : decode cX4_remove 47 = .ok (.putfield 15, 3) := by decide +kernel
theorem dX4_remove_50 : decode cX4_remove 50 = .ok (.return_, 1) := by decide +kernel
theorem dX4_shorten_0 : decode cX4_shorten 0 = .ok (.aload_n 0, 1) := by decide +kernel
theorem dX4_shorten_1 : decode cX4_shorten 1 = .ok (.iload_n 1, 1) := by decide +kernel
theorem dX4_shorten_2 : decode cX4_shorten 2 = .ok (.invokevirtual 19, 3) := by decide +kernel
theorem dX4_shorten_5 : decode cX4_shorten 5 = .ok (.ifCond .eq 8, 3) := by decide +kernel
theorem dX4_shorten_8 : decode cX4_shorten 8 = .ok (.aload_n 0, 1) := by decide +kernel
theorem dX4_shorten_9 : decode cX4_shorten 9 = .ok (.iload_n 1, 1) := by decide +kernel
theorem dX4_shorten_10 : decode cX4_shorten 10 = .ok (.putfield 15, 3) := by decide +kernel
theorem dX4_shorten_13 : decode cX4_shorten 13 = .ok (.return_, 1) := by decide +kernel
theorem dX4_reverse_0 : decode cX4_reverse 0 = .ok (.iconst 0, 1) := by decide +kernel
theorem dX4_reverse_1 : decode cX4_reverse 1 = .ok (.istore_n 1, 1) := by decide +kernel
theorem dX4_reverse_2 : decode cX4_reverse 2 = .ok (.iload_n 1, 1) := by decide +kernel
theorem dX4_reverse_3 : decode cX4_reverse 3 = .ok (.aload_n 0, 1) := by decide +kernel
theorem dX4_reverse_4 : decode cX4_reverse 4 = .ok (.getfield 15, 3) := by decide +kernel
theorem dX4_reverse_7 : decode cX4_reverse 7 = .ok (.iconst 1, 1) := by decide +kernel
theorem dX4_reverse_8 : decode cX4_reverse 8 = .ok (.isub, 1) := by decide +kernel
theorem dX4_reverse_9 : decode cX4_reverse 9 = .ok (.iload_n 1, 1) := by decide +kernel
theorem dX4_reverse_10 : decode cX4_reverse 10 = .ok (.isub, 1) := by decide +kernel
theorem dX4_reverse_11 : decode cX4_reverse 11 = .ok (.if_icmp .ge 49, 3) := by decide +kernel
theorem dX4_reverse_14 : decode cX4_reverse 14 = .ok (.aload_n 0, 1) := by decide +kernel
theorem dX4_reverse_15 : decode cX4_reverse 15 = .ok (.getfield 9, 3) := by decide +kernel
theorem dX4_reverse_18 : decode cX4_reverse 18 = .ok (.iload_n 1, 1) := by decide +kernel
theorem dX4_reverse_19 : decode cX4_reverse 19 = .ok (.iaload, 1) := by decide +kernel
theorem dX4_reverse_20 : decode cX4_reverse 20 = .ok (.istore_n 2, 1) := by decide +kernel
theorem dX4_reverse_21 : decode cX4_reverse 21 = .ok (.aload_n 0, 1) := by decide +kernel
theorem dX4_reverse_22 : decode cX4_reverse 22 = .ok (.getfield 9, 3) := by decide +kernel
theorem dX4_reverse_25 : decode cX4_reverse 25 = .ok (.iload_n 1, 1) := by decide +kernel
theorem dX4_reverse_26 : decode cX4_reverse 26 = .ok (.aload_n 0, 1) := by decide +kernel
theorem dX4_reverse_27 : decode cX4_reverse 27 = .ok (.getfield 9, 3) := by decide +kernel
theorem dX4_reverse_30 : decode cX4_reverse 30 = .ok (.aload_n 0, 1) := by decide +kernel
theorem dX4_reverse_31 : decode cX4_reverse 31 = .ok (.getfield 15, 3) := by decide +kernel
theorem dX4_reverse_34 : decode cX4_reverse 34 = .ok (.iconst 1, 1) := by decide +kernel
theorem dX4_reverse_35 : decode cX4_reverse 35 = .ok (.isub, 1) := by decide +kernel
theorem dX4_reverse_36 : decode cX4_reverse 36 = .ok (.iload_n 1, 1) := by decide +kernel
theorem dX4_reverse_37 : decode cX4_reverse 37 = .ok (.isub, 1) := by decide +kernel
theorem dX4_reverse_38 : decode cX4_reverse 38 = .ok (.iaload, 1) := by decide +kernel
theorem dX4_reverse_39 : decode cX4_reverse 39 = .ok (.iastore, 1) := by decide +kernel
theorem dX4_reverse_40 : decode cX4_reverse 40 = .ok (.aload_n 0, 1) := by decide +kernel
theorem dX4_reverse_41 : decode cX4_reverse 41 = .ok (.getfield 9, 3) := by decide +kernel
theorem dX4_reverse_44 : decode cX4_reverse 44 = .ok (.aload_n 0, 1) := by decide +kernel
theorem dX4_reverse_45 : decode cX4_reverse 45 = .ok (.getfield 15, 3) := by decide +kernel
theorem dX4_reverse_48 : decode cX4_reverse 48 = .ok (.iconst 1, 1) := by decide +kernel
theorem dX4_reverse_49 : decode cX4_reverse 49 = .ok (.isub, 1) := by decide +kernel
theorem dX4_reverse_50 : decode cX4_reverse 50 = .ok (.iload_n 1, 1) := by decide +kernel
theorem dX4_reverse_51 : decode cX4_reverse 51 = .ok (.isub, 1) := by decide +kernel
theorem dX4_reverse_52 : decode cX4_reverse 52 = .ok (.iload_n 2, 1) := by decide +kernel
theorem dX4_reverse_53 : decode cX4_reverse 53 = .ok (.iastore, 1) := by decide +kernel
theorem dX4_reverse_54 : decode cX4_reverse 54 = .ok (.iinc 1 1, 3) := by decide +kernel
theorem dX4_reverse_57 : decode cX4_reverse 57 = .ok (.goto (-55), 3) := by decide +kernel
theorem dX4_reverse_60 : decode cX4_reverse 60 = .ok (.return_, 1) := by decide +kernel
theorem dX4_isLike_0 : decode cX4_isLike 0 = .ok (.aload_n 0, 1) := by decide +kernel
theorem dX4_isLike_1 : decode cX4_isLike 1 = .ok (.getfield 15, 3) := by decide +kernel
theorem dX4_isLike_4 : decode cX4_isLike 4 = .ok (.aload_n 1, 1) := by decide +kernel
theorem dX4_isLike_5 : decode cX4_isLike 5 = .ok (.getfield 15, 3) := by decide +kernel
theorem dX4_isLike_8 : decode cX4_isLike 8 = .ok (.if_icmp .eq 5, 3) := by decide +kernel
theorem dX4_isLike_11 : decode cX4_isLike 11 = .ok (.iconst 0, 1) := by decide +kernel
theorem dX4_isLike_12 : decode cX4_isLike 12 = .ok (.ireturn, 1) := by decide +kernel
theorem dX4_isLike_13 : decode cX4_isLike 13 = .ok (.iconst 0, 1) := by decide +kernel
theorem dX4_isLike_14 : decode cX4_isLike 14 = .ok (.istore_n 2, 1) := by decide +kernel
theorem dX4_isLike_15 : decode cX4_isLike 15 = .ok (.iload_n 2, 1) := by decide +kernel
theorem dX4_isLike_16 : decode cX4_isLike 16 = .ok (.aload_n 0, 1) := by decide +kernel
theorem dX4_isLike_17 : decode cX4_isLike 17 = .ok (.getfield 15, 3) := by decide +kernel
theorem dX4_isLike_20 : decode cX4_isLike 20 = .ok (.if_icmp .ge 26, 3) := by decide +kernel
theorem dX4_isLike_23 : decode cX4_isLike 23 = .ok (.aload_n 0, 1) := by decide +kernel
theorem dX4_isLike_24 : decode cX4_isLike 24 = .ok (.getfield 9, 3) := by decide +kernel
theorem dX4_isLike_27 : decode cX4_isLike 27 = .ok (.iload_n 2, 1) := by decide +kernel
theorem dX4_isLike_28 : decode cX4_isLike 28 = .ok (.iaload, 1) := by decide +kernel
theorem dX4_isLike_29 : decode cX4_isLike 29 = .ok (.aload_n 1, 1) := by decide +kernel
theorem dX4_isLike_30 : decode cX4_isLike 30 = .ok (.getfield 9, 3) := by decide +kernel
theorem dX4_isLike_33 : decode cX4_isLike 33 = .ok (.iload_n 2, 1) := by decide +kernel
theorem dX4_isLike_34 : decode cX4_isLike 34 = .ok (.iaload, 1) := by decide +kernel
theorem dX4_isLike_35 : decode cX4_isLike 35 = .ok (.if_icmp .eq 5, 3) := by decide +kernel
theorem dX4_isLike_38 : decode cX4_isLike 38 = .ok (.iconst 0, 1) := by decide +kernel
theorem dX4_isLike_39 : decode cX4_isLike 39 = .ok (.ireturn, 1) := by decide +kernel
theorem dX4_isLike_40 : decode cX4_isLike 40 = .ok (.iinc 2 1, 3) := by decide +kernel
theorem dX4_isLike_43 : decode cX4_isLike 43 = .ok (.goto (-28), 3) := by decide +kernel
theorem dX4_isLike_46 : decode cX4_isLike 46 = .ok (.iconst 1, 1) := by decide +kernel
theorem dX4_isLike_47 : decode cX4_isLike 47 = .ok (.ireturn, 1) := by decide +kernel
theorem dX4_firstPlace_0 : decode cX4_firstPlace 0 = .ok (.iconst 0, 1) := by decide +kernel
theorem dX4_firstPlace_1 : decode cX4_firstPlace 1 = .ok (.istore_n 2, 1) := by decide +kernel
theorem dX4_firstPlace_2 : decode cX4_firstPlace 2 = .ok (.iload_n 2, 1) := by decide +kernel
theorem dX4_firstPlace_3 : decode cX4_firstPlace 3 = .ok (.aload_n 0, 1) := by decide +kernel
theorem dX4_firstPlace_4 : decode cX4_firstPlace 4 = .ok (.getfield 15, 3) := by decide +kernel
theorem dX4_firstPlace_7 : decode cX4_firstPlace 7 = .ok (.if_icmp .ge 21, 3) := by decide +kernel
theorem dX4_firstPlace_10 : decode cX4_firstPlace 10 = .ok (.aload_n 0, 1) := by decide +kernel
theorem dX4_firstPlace_11 : decode cX4_firstPlace 11 = .ok (.getfield 9, 3) := by decide +kernel
theorem dX4_firstPlace_14 : decode cX4_firstPlace 14 = .ok (.iload_n 2, 1) := by decide +kernel
theorem dX4_firstPlace_15 : decode cX4_firstPlace 15 = .ok (.iaload, 1) := by decide +kernel
theorem dX4_firstPlace_16 : decode cX4_firstPlace 16 = .ok (.iload_n 1, 1) := by decide +kernel
theorem dX4_firstPlace_17 : decode cX4_firstPlace 17 = .ok (.if_icmp .ne 5, 3) := by decide +kernel
theorem dX4_firstPlace_20 : decode cX4_firstPlace 20 = .ok (.iload_n 2, 1) := by decide +kernel
theorem dX4_firstPlace_21 : decode cX4_firstPlace 21 = .ok (.ireturn, 1) := by decide +kernel
theorem dX4_firstPlace_22 : decode cX4_firstPlace 22 = .ok (.iinc 2 1, 3) := by decide +kernel
theorem dX4_firstPlace_25 : decode cX4_firstPlace 25 = .ok (.goto (-23), 3) := by decide +kernel
theorem dX4_firstPlace_28 : decode cX4_firstPlace 28 = .ok (.iconst (-1), 1) := by decide +kernel
theorem dX4_firstPlace_29 : decode cX4_firstPlace 29 = .ok (.ireturn, 1) := by decide +kernel
theorem dX4_timesOf_0 : decode cX4_timesOf 0 = .ok (.iconst 0, 1) := by decide +kernel
theorem dX4_timesOf_1 : decode cX4_timesOf 1 = .ok (.istore_n 2, 1) := by decide +kernel
theorem dX4_timesOf_2 : decode cX4_timesOf 2 = .ok (.iconst 0, 1) := by decide +kernel
theorem dX4_timesOf_3 : decode cX4_timesOf 3 = .ok (.istore_n 3, 1) := by decide +kernel
theorem dX4_timesOf_4 : decode cX4_timesOf 4 = .ok (.iload_n 3, 1) := by decide +kernel
theorem dX4_timesOf_5 : decode cX4_timesOf 5 = .ok (.aload_n 0, 1) := by decide +kernel
theorem dX4_timesOf_6 : decode cX4_timesOf 6 = .ok (.getfield 15, 3) := by decide +kernel
theorem dX4_timesOf_9 : decode cX4_timesOf 9 = .ok (.if_icmp .ge 22, 3) := by decide +kernel
theorem dX4_timesOf_12 : decode cX4_timesOf 12 = .ok (.aload_n 0, 1) := by decide +kernel
theorem dX4_timesOf_13 : decode cX4_timesOf 13 = .ok (.getfield 9, 3) := by decide +kernel
theorem dX4_timesOf_16 : decode cX4_timesOf 16 = .ok (.iload_n 3, 1) := by decide +kernel
theorem dX4_timesOf_17 : decode cX4_timesOf 17 = .ok (.iaload, 1) := by decide +kernel
theorem dX4_timesOf_18 : decode cX4_timesOf 18 = .ok (.iload_n 1, 1) := by decide +kernel
theorem dX4_timesOf_19 : decode cX4_timesOf 19 = .ok (.if_icmp .ne 6, 3) := by decide +kernel
theorem dX4_timesOf_22 : decode cX4_timesOf 22 = .ok (.iinc 2 1, 3) := by decide +kernel
theorem dX4_timesOf_25 : decode cX4_timesOf 25 = .ok (.iinc 3 1, 3) := by decide +kernel
theorem dX4_timesOf_28 : decode cX4_timesOf 28 = .ok (.goto (-24), 3) := by decide +kernel
theorem dX4_timesOf_31 : decode cX4_timesOf 31 = .ok (.iload_n 2, 1) := by decide +kernel
theorem dX4_timesOf_32 : decode cX4_timesOf 32 = .ok (.ireturn, 1) := by decide +kernel
theorem dX4_sum_0 : decode cX4_sum 0 = .ok (.iconst 0, 1) := by decide +kernel
theorem dX4_sum_1 : decode cX4_sum 1 = .ok (.istore_n 1, 1) := by decide +kernel
theorem dX4_sum_2 : decode cX4_sum 2 = .ok (.iconst 0, 1) := by decide +kernel
theorem dX4_sum_3 : decode cX4_sum 3 = .ok (.istore_n 2, 1) := by decide +kernel
theorem dX4_sum_4 : decode cX4_sum 4 = .ok (.iload_n 2, 1) := by decide +kernel
theorem dX4_sum_5 : decode cX4_sum 5 = .ok (.aload_n 0, 1) := by decide +kernel
theorem dX4_sum_6 : decode cX4_sum 6 = .ok (.getfield 15, 3) := by decide +kernel
theorem dX4_sum_9 : decode cX4_sum 9 = .ok (.if_icmp .ge 18, 3) := by decide +kernel
theorem dX4_sum_12 : decode cX4_sum 12 = .ok (.iload_n 1, 1) := by decide +kernel
theorem dX4_sum_13 : decode cX4_sum 13 = .ok (.aload_n 0, 1) := by decide +kernel
theorem dX4_sum_14 : decode cX4_sum 14 = .ok (.getfield 9, 3) := by decide +kernel
theorem dX4_sum_17 : decode cX4_sum 17 = .ok (.iload_n 2, 1) := by decide +kernel
theorem dX4_sum_18 : decode cX4_sum 18 = .ok (.iaload, 1) := by decide +kernel
theorem dX4_sum_19 : decode cX4_sum 19 = .ok (.iadd, 1) := by decide +kernel
theorem dX4_sum_20 : decode cX4_sum 20 = .ok (.istore_n 1, 1) := by decide +kernel
theorem dX4_sum_21 : decode cX4_sum 21 = .ok (.iinc 2 1, 3) := by decide +kernel
theorem dX4_sum_24 : decode cX4_sum 24 = .ok (.goto (-20), 3) := by decide +kernel
theorem dX4_sum_27 : decode cX4_sum 27 = .ok (.iload_n 1, 1) := by decide +kernel
theorem dX4_sum_28 : decode cX4_sum 28 = .ok (.ireturn, 1) := by decide +kernel
theorem dX4_least_0 : decode cX4_least 0 = .ok (.sipush 255, 3) := by decide +kernel
theorem dX4_least_3 : decode cX4_least 3 = .ok (.istore_n 1, 1) := by decide +kernel
theorem dX4_least_4 : decode cX4_least 4 = .ok (.iconst 0, 1) := by decide +kernel
theorem dX4_least_5 : decode cX4_least 5 = .ok (.istore_n 2, 1) := by decide +kernel
theorem dX4_least_6 : decode cX4_least 6 = .ok (.iload_n 2, 1) := by decide +kernel
theorem dX4_least_7 : decode cX4_least 7 = .ok (.aload_n 0, 1) := by decide +kernel
theorem dX4_least_8 : decode cX4_least 8 = .ok (.getfield 15, 3) := by decide +kernel
theorem dX4_least_11 : decode cX4_least 11 = .ok (.if_icmp .ge 20, 3) := by decide +kernel
theorem dX4_least_14 : decode cX4_least 14 = .ok (.iload_n 1, 1) := by decide +kernel
theorem dX4_least_15 : decode cX4_least 15 = .ok (.aload_n 0, 1) := by decide +kernel
theorem dX4_least_16 : decode cX4_least 16 = .ok (.getfield 9, 3) := by decide +kernel
theorem dX4_least_19 : decode cX4_least 19 = .ok (.iload_n 2, 1) := by decide +kernel
theorem dX4_least_20 : decode cX4_least 20 = .ok (.iaload, 1) := by decide +kernel
theorem dX4_least_21 : decode cX4_least 21 = .ok (.invokestatic 34, 3) := by decide +kernel
theorem dX4_least_24 : decode cX4_least 24 = .ok (.istore_n 1, 1) := by decide +kernel
theorem dX4_least_25 : decode cX4_least 25 = .ok (.iinc 2 1, 3) := by decide +kernel
theorem dX4_least_28 : decode cX4_least 28 = .ok (.goto (-22), 3) := by decide +kernel
theorem dX4_least_31 : decode cX4_least 31 = .ok (.iload_n 1, 1) := by decide +kernel
theorem dX4_least_32 : decode cX4_least 32 = .ok (.ireturn, 1) := by decide +kernel
theorem dX4_runsAmong_0 : decode cX4_runsAmong 0 = .ok (.iconst 0, 1) := by decide +kernel
theorem dX4_runsAmong_1 : decode cX4_runsAmong 1 = .ok (.istore_n 2, 1) := by decide +kernel
theorem dX4_runsAmong_2 : decode cX4_runsAmong 2 = .ok (.iconst 0, 1) := by decide +kernel
theorem dX4_runsAmong_3 : decode cX4_runsAmong 3 = .ok (.istore_n 3, 1) := by decide +kernel
theorem dX4_runsAmong_4 : decode cX4_runsAmong 4 = .ok (.iload_n 3, 1) := by decide +kernel
theorem dX4_runsAmong_5 : decode cX4_runsAmong 5 = .ok (.iload_n 1, 1) := by decide +kernel
theorem dX4_runsAmong_6 : decode cX4_runsAmong 6 = .ok (.if_icmp .ge 41, 3) := by decide +kernel
theorem dX4_runsAmong_9 : decode cX4_runsAmong 9 = .ok (.iload_n 3, 1) := by decide +kernel
theorem dX4_runsAmong_10 : decode cX4_runsAmong 10 = .ok (.aload_n 0, 1) := by decide +kernel
theorem dX4_runsAmong_11 : decode cX4_runsAmong 11 = .ok (.getfield 15, 3) := by decide +kernel
theorem dX4_runsAmong_14 : decode cX4_runsAmong 14 = .ok (.if_icmp .ge 33, 3) := by decide +kernel
theorem dX4_runsAmong_17 : decode cX4_runsAmong 17 = .ok (.iload_n 3, 1) := by decide +kernel
theorem dX4_runsAmong_18 : decode cX4_runsAmong 18 = .ok (.ifCond .eq 20, 3) := by decide +kernel
theorem dX4_runsAmong_21 : decode cX4_runsAmong 21 = .ok (.aload_n 0, 1) := by decide +kernel
theorem dX4_runsAmong_22 : decode cX4_runsAmong 22 = .ok (.getfield 9, 3) := by decide +kernel
theorem dX4_runsAmong_25 : decode cX4_runsAmong 25 = .ok (.iload_n 3, 1) := by decide +kernel
theorem dX4_runsAmong_26 : decode cX4_runsAmong 26 = .ok (.iaload, 1) := by decide +kernel
theorem dX4_runsAmong_27 : decode cX4_runsAmong 27 = .ok (.aload_n 0, 1) := by decide +kernel
theorem dX4_runsAmong_28 : decode cX4_runsAmong 28 = .ok (.getfield 9, 3) := by decide +kernel
theorem dX4_runsAmong_31 : decode cX4_runsAmong 31 = .ok (.iload_n 3, 1) := by decide +kernel
theorem dX4_runsAmong_32 : decode cX4_runsAmong 32 = .ok (.iconst 1, 1) := by decide +kernel
theorem dX4_runsAmong_33 : decode cX4_runsAmong 33 = .ok (.isub, 1) := by decide +kernel
theorem dX4_runsAmong_34 : decode cX4_runsAmong 34 = .ok (.iaload, 1) := by decide +kernel
theorem dX4_runsAmong_35 : decode cX4_runsAmong 35 = .ok (.if_icmp .eq 6, 3) := by decide +kernel
theorem dX4_runsAmong_38 : decode cX4_runsAmong 38 = .ok (.iinc 2 1, 3) := by decide +kernel
theorem dX4_runsAmong_41 : decode cX4_runsAmong 41 = .ok (.iinc 3 1, 3) := by decide +kernel
theorem dX4_runsAmong_44 : decode cX4_runsAmong 44 = .ok (.goto (-40), 3) := by decide +kernel
theorem dX4_runsAmong_47 : decode cX4_runsAmong 47 = .ok (.iload_n 2, 1) := by decide +kernel
theorem dX4_runsAmong_48 : decode cX4_runsAmong 48 = .ok (.ireturn, 1) := by decide +kernel
theorem dX4_differentValues_0 : decode cX4_differentValues 0 = .ok (.iconst 0, 1) := by decide +kernel
theorem dX4_differentValues_1 : decode cX4_differentValues 1 = .ok (.istore_n 1, 1) := by decide +kernel
theorem dX4_differentValues_2 : decode cX4_differentValues 2 = .ok (.iconst 0, 1) := by decide +kernel
theorem dX4_differentValues_3 : decode cX4_differentValues 3 = .ok (.istore_n 2, 1) := by decide +kernel
theorem dX4_differentValues_4 : decode cX4_differentValues 4 = .ok (.iload_n 2, 1) := by decide +kernel
theorem dX4_differentValues_5 : decode cX4_differentValues 5 = .ok (.aload_n 0, 1) := by decide +kernel
theorem dX4_differentValues_6 : decode cX4_differentValues 6 = .ok (.getfield 15, 3) := by decide +kernel
theorem dX4_differentValues_9 : decode cX4_differentValues 9 = .ok (.if_icmp .ge 45, 3) := by decide +kernel
theorem dX4_differentValues_12 : decode cX4_differentValues 12 = .ok (.iconst 0, 1) := by decide +kernel
theorem dX4_differentValues_13 : decode cX4_differentValues 13 = .ok (.istore_n 3, 1) := by decide +kernel
theorem dX4_differentValues_14 : decode cX4_differentValues 14 = .ok (.iload_n 3, 1) := by decide +kernel
theorem dX4_differentValues_15 : decode cX4_differentValues 15 = .ok (.iload_n 2, 1) := by decide +kernel
theorem dX4_differentValues_16 : decode cX4_differentValues 16 = .ok (.if_icmp .ge 24, 3) := by decide +kernel
theorem dX4_differentValues_19 : decode cX4_differentValues 19 = .ok (.aload_n 0, 1) := by decide +kernel
theorem dX4_differentValues_20 : decode cX4_differentValues 20 = .ok (.getfield 9, 3) := by decide +kernel
theorem dX4_differentValues_23 : decode cX4_differentValues 23 = .ok (.iload_n 3, 1) := by decide +kernel
theorem dX4_differentValues_24 : decode cX4_differentValues 24 = .ok (.iaload, 1) := by decide +kernel
theorem dX4_differentValues_25 : decode cX4_differentValues 25 = .ok (.aload_n 0, 1) := by decide +kernel
theorem dX4_differentValues_26 : decode cX4_differentValues 26 = .ok (.getfield 9, 3) := by decide +kernel
theorem dX4_differentValues_29 : decode cX4_differentValues 29 = .ok (.iload_n 2, 1) := by decide +kernel
theorem dX4_differentValues_30 : decode cX4_differentValues 30 = .ok (.iaload, 1) := by decide +kernel
theorem dX4_differentValues_31 : decode cX4_differentValues 31 = .ok (.if_icmp .eq 9, 3) := by decide +kernel
theorem dX4_differentValues_34 : decode cX4_differentValues 34 = .ok (.iinc 3 1, 3) := by decide +kernel
theorem dX4_differentValues_37 : decode cX4_differentValues 37 = .ok (.goto (-23), 3) := by decide +kernel
theorem dX4_differentValues_40 : decode cX4_differentValues 40 = .ok (.iload_n 3, 1) := by decide +kernel
theorem dX4_differentValues_41 : decode cX4_differentValues 41 = .ok (.iload_n 2, 1) := by decide +kernel
theorem dX4_differentValues_42 : decode cX4_differentValues 42 = .ok (.if_icmp .ne 6, 3) := by decide +kernel
theorem dX4_differentValues_45 : decode cX4_differentValues 45 = .ok (.iinc 1 1, 3) := by decide +kernel
theorem dX4_differentValues_48 : decode cX4_differentValues 48 = .ok (.iinc 2 1, 3) := by decide +kernel
theorem dX4_differentValues_51 : decode cX4_differentValues 51 = .ok (.goto (-47), 3) := by decide +kernel
theorem dX4_differentValues_54 : decode cX4_differentValues 54 = .ok (.iload_n 1, 1) := by decide +kernel
theorem dX4_differentValues_55 : decode cX4_differentValues 55 = .ok (.ireturn, 1) := by decide +kernel
theorem dX4_mostTimes_0 : decode cX4_mostTimes 0 = .ok (.iconst 0, 1) := by decide +kernel
theorem dX4_mostTimes_1 : decode cX4_mostTimes 1 = .ok (.istore_n 1, 1) := by decide +kernel
theorem dX4_mostTimes_2 : decode cX4_mostTimes 2 = .ok (.iconst 0, 1) := by decide +kernel
theorem dX4_mostTimes_3 : decode cX4_mostTimes 3 = .ok (.istore_n 2, 1) := by decide +kernel
theorem dX4_mostTimes_4 : decode cX4_mostTimes 4 = .ok (.iload_n 2, 1) := by decide +kernel
theorem dX4_mostTimes_5 : decode cX4_mostTimes 5 = .ok (.aload_n 0, 1) := by decide +kernel
theorem dX4_mostTimes_6 : decode cX4_mostTimes 6 = .ok (.getfield 15, 3) := by decide +kernel
theorem dX4_mostTimes_9 : decode cX4_mostTimes 9 = .ok (.if_icmp .ge 55, 3) := by decide +kernel
theorem dX4_mostTimes_12 : decode cX4_mostTimes 12 = .ok (.iconst 0, 1) := by decide +kernel
theorem dX4_mostTimes_13 : decode cX4_mostTimes 13 = .ok (.istore_n 3, 1) := by decide +kernel
theorem dX4_mostTimes_14 : decode cX4_mostTimes 14 = .ok (.iload_n 2, 1) := by decide +kernel
theorem dX4_mostTimes_15 : decode cX4_mostTimes 15 = .ok (.istore 4, 2) := by decide +kernel
theorem dX4_mostTimes_17 : decode cX4_mostTimes 17 = .ok (.iload 4, 2) := by decide +kernel
theorem dX4_mostTimes_19 : decode cX4_mostTimes 19 = .ok (.aload_n 0, 1) := by decide +kernel
theorem dX4_mostTimes_20 : decode cX4_mostTimes 20 = .ok (.getfield 15, 3) := by decide +kernel
theorem dX4_mostTimes_23 : decode cX4_mostTimes 23 = .ok (.if_icmp .ge 28, 3) := by decide +kernel
theorem dX4_mostTimes_26 : decode cX4_mostTimes 26 = .ok (.aload_n 0, 1) := by decide +kernel
theorem dX4_mostTimes_27 : decode cX4_mostTimes 27 = .ok (.getfield 9, 3) := by decide +kernel
theorem dX4_mostTimes_30 : decode cX4_mostTimes 30 = .ok (.iload 4, 2) := by decide +kernel
theorem dX4_mostTimes_32 : decode cX4_mostTimes 32 = .ok (.iaload, 1) := by decide +kernel
theorem dX4_mostTimes_33 : decode cX4_mostTimes 33 = .ok (.aload_n 0, 1) := by decide +kernel
theorem dX4_mostTimes_34 : decode cX4_mostTimes 34 = .ok (.getfield 9, 3) := by decide +kernel
theorem dX4_mostTimes_37 : decode cX4_mostTimes 37 = .ok (.iload_n 2, 1) := by decide +kernel
theorem dX4_mostTimes_38 : decode cX4_mostTimes 38 = .ok (.iaload, 1) := by decide +kernel
theorem dX4_mostTimes_39 : decode cX4_mostTimes 39 = .ok (.if_icmp .ne 6, 3) := by decide +kernel
theorem dX4_mostTimes_42 : decode cX4_mostTimes 42 = .ok (.iinc 3 1, 3) := by decide +kernel
theorem dX4_mostTimes_45 : decode cX4_mostTimes 45 = .ok (.iinc 4 1, 3) := by decide +kernel
theorem dX4_mostTimes_48 : decode cX4_mostTimes 48 = .ok (.goto (-31), 3) := by decide +kernel
theorem dX4_mostTimes_51 : decode cX4_mostTimes 51 = .ok (.iload_n 3, 1) := by decide +kernel
theorem dX4_mostTimes_52 : decode cX4_mostTimes 52 = .ok (.iload_n 1, 1) := by decide +kernel
theorem dX4_mostTimes_53 : decode cX4_mostTimes 53 = .ok (.if_icmp .le 5, 3) := by decide +kernel
theorem dX4_mostTimes_56 : decode cX4_mostTimes 56 = .ok (.iload_n 3, 1) := by decide +kernel
theorem dX4_mostTimes_57 : decode cX4_mostTimes 57 = .ok (.istore_n 1, 1) := by decide +kernel
theorem dX4_mostTimes_58 : decode cX4_mostTimes 58 = .ok (.iinc 2 1, 3) := by decide +kernel
theorem dX4_mostTimes_61 : decode cX4_mostTimes 61 = .ok (.goto (-57), 3) := by decide +kernel
theorem dX4_mostTimes_64 : decode cX4_mostTimes 64 = .ok (.iload_n 1, 1) := by decide +kernel
theorem dX4_mostTimes_65 : decode cX4_mostTimes 65 = .ok (.ireturn, 1) := by decide +kernel
theorem dX4_commonValue_0 : decode cX4_commonValue 0 = .ok (.aload_n 0, 1) := by decide +kernel
theorem dX4_commonValue_1 : decode cX4_commonValue 1 = .ok (.invokevirtual 40, 3) := by decide +kernel
theorem dX4_commonValue_4 : decode cX4_commonValue 4 = .ok (.istore_n 1, 1) := by decide +kernel
theorem dX4_commonValue_5 : decode cX4_commonValue 5 = .ok (.sipush 255, 3) := by decide +kernel
theorem dX4_commonValue_8 : decode cX4_commonValue 8 = .ok (.istore_n 2, 1) := by decide +kernel
theorem dX4_commonValue_9 : decode cX4_commonValue 9 = .ok (.iconst 0, 1) := by decide +kernel
theorem dX4_commonValue_10 : decode cX4_commonValue 10 = .ok (.istore_n 3, 1) := by decide +kernel
theorem dX4_commonValue_11 : decode cX4_commonValue 11 = .ok (.iload_n 3, 1) := by decide +kernel
theorem dX4_commonValue_12 : decode cX4_commonValue 12 = .ok (.aload_n 0, 1) := by decide +kernel
theorem dX4_commonValue_13 : decode cX4_commonValue 13 = .ok (.getfield 15, 3) := by decide +kernel
theorem dX4_commonValue_16 : decode cX4_commonValue 16 = .ok (.if_icmp .ge 34, 3) := by decide +kernel
theorem dX4_commonValue_19 : decode cX4_commonValue 19 = .ok (.aload_n 0, 1) := by decide +kernel
theorem dX4_commonValue_20 : decode cX4_commonValue 20 = .ok (.aload_n 0, 1) := by decide +kernel
theorem dX4_commonValue_21 : decode cX4_commonValue 21 = .ok (.getfield 9, 3) := by decide +kernel
theorem dX4_commonValue_24 : decode cX4_commonValue 24 = .ok (.iload_n 3, 1) := by decide +kernel
theorem dX4_commonValue_25 : decode cX4_commonValue 25 = .ok (.iaload, 1) := by decide +kernel
theorem dX4_commonValue_26 : decode cX4_commonValue 26 = .ok (.invokevirtual 44, 3) := by decide +kernel
theorem dX4_commonValue_29 : decode cX4_commonValue 29 = .ok (.iload_n 1, 1) := by decide +kernel
theorem dX4_commonValue_30 : decode cX4_commonValue 30 = .ok (.if_icmp .ne 14, 3) := by decide +kernel
theorem dX4_commonValue_33 : decode cX4_commonValue 33 = .ok (.iload_n 2, 1) := by decide +kernel
theorem dX4_commonValue_34 : decode cX4_commonValue 34 = .ok (.aload_n 0, 1) := by decide +kernel
theorem dX4_commonValue_35 : decode cX4_commonValue 35 = .ok (.getfield 9, 3) := by decide +kernel
theorem dX4_commonValue_38 : decode cX4_commonValue 38 = .ok (.iload_n 3, 1) := by decide +kernel
theorem dX4_commonValue_39 : decode cX4_commonValue 39 = .ok (.iaload, 1) := by decide +kernel
theorem dX4_commonValue_40 : decode cX4_commonValue 40 = .ok (.invokestatic 34, 3) := by decide +kernel
theorem dX4_commonValue_43 : decode cX4_commonValue 43 = .ok (.istore_n 2, 1) := by decide +kernel
theorem dX4_commonValue_44 : decode cX4_commonValue 44 = .ok (.iinc 3 1, 3) := by decide +kernel
theorem dX4_commonValue_47 : decode cX4_commonValue 47 = .ok (.goto (-36), 3) := by decide +kernel
theorem dX4_commonValue_50 : decode cX4_commonValue 50 = .ok (.iload_n 2, 1) := by decide +kernel
theorem dX4_commonValue_51 : decode cX4_commonValue 51 = .ok (.ireturn, 1) := by decide +kernel
theorem dX4_span_0 : decode cX4_span 0 = .ok (.sipush 255, 3) := by decide +kernel
theorem dX4_span_3 : decode cX4_span 3 = .ok (.istore_n 1, 1) := by decide +kernel
theorem dX4_span_4 : decode cX4_span 4 = .ok (.iconst 0, 1) := by decide +kernel
theorem dX4_span_5 : decode cX4_span 5 = .ok (.istore_n 2, 1) := by decide +kernel
theorem dX4_span_6 : decode cX4_span 6 = .ok (.iconst 0, 1) := by decide +kernel
theorem dX4_span_7 : decode cX4_span 7 = .ok (.istore_n 3, 1) := by decide +kernel
theorem dX4_span_8 : decode cX4_span 8 = .ok (.iload_n 3, 1) := by decide +kernel
theorem dX4_span_9 : decode cX4_span 9 = .ok (.aload_n 0, 1) := by decide +kernel
theorem dX4_span_10 : decode cX4_span 10 = .ok (.getfield 15, 3) := by decide +kernel
theorem dX4_span_13 : decode cX4_span 13 = .ok (.if_icmp .ge 43, 3) := by decide +kernel
theorem dX4_span_16 : decode cX4_span 16 = .ok (.aload_n 0, 1) := by decide +kernel
theorem dX4_span_17 : decode cX4_span 17 = .ok (.getfield 9, 3) := by decide +kernel
theorem dX4_span_20 : decode cX4_span 20 = .ok (.iload_n 3, 1) := by decide +kernel
theorem dX4_span_21 : decode cX4_span 21 = .ok (.iaload, 1) := by decide +kernel
theorem dX4_span_22 : decode cX4_span 22 = .ok (.iload_n 1, 1) := by decide +kernel
theorem dX4_span_23 : decode cX4_span 23 = .ok (.if_icmp .ge 10, 3) := by decide +kernel
theorem dX4_span_26 : decode cX4_span 26 = .ok (.aload_n 0, 1) := by decide +kernel
theorem dX4_span_27 : decode cX4_span 27 = .ok (.getfield 9, 3) := by decide +kernel
theorem dX4_span_30 : decode cX4_span 30 = .ok (.iload_n 3, 1) := by decide +kernel
theorem dX4_span_31 : decode cX4_span 31 = .ok (.iaload, 1) := by decide +kernel
theorem dX4_span_32 : decode cX4_span 32 = .ok (.istore_n 1, 1) := by decide +kernel
theorem dX4_span_33 : decode cX4_span 33 = .ok (.aload_n 0, 1) := by decide +kernel
theorem dX4_span_34 : decode cX4_span 34 = .ok (.getfield 9, 3) := by decide +kernel
theorem dX4_span_37 : decode cX4_span 37 = .ok (.iload_n 3, 1) := by decide +kernel
theorem dX4_span_38 : decode cX4_span 38 = .ok (.iaload, 1) := by decide +kernel
theorem dX4_span_39 : decode cX4_span 39 = .ok (.iload_n 2, 1) := by decide +kernel
theorem dX4_span_40 : decode cX4_span 40 = .ok (.if_icmp .le 10, 3) := by decide +kernel
theorem dX4_span_43 : decode cX4_span 43 = .ok (.aload_n 0, 1) := by decide +kernel
theorem dX4_span_44 : decode cX4_span 44 = .ok (.getfield 9, 3) := by decide +kernel
theorem dX4_span_47 : decode cX4_span 47 = .ok (.iload_n 3, 1) := by decide +kernel
theorem dX4_span_48 : decode cX4_span 48 = .ok (.iaload, 1) := by decide +kernel
theorem dX4_span_49 : decode cX4_span 49 = .ok (.istore_n 2, 1) := by decide +kernel
theorem dX4_span_50 : decode cX4_span 50 = .ok (.iinc 3 1, 3) := by decide +kernel
theorem dX4_span_53 : decode cX4_span 53 = .ok (.goto (-45), 3) := by decide +kernel
theorem dX4_span_56 : decode cX4_span 56 = .ok (.iload_n 2, 1) := by decide +kernel
theorem dX4_span_57 : decode cX4_span 57 = .ok (.iload_n 1, 1) := by decide +kernel
theorem dX4_span_58 : decode cX4_span 58 = .ok (.isub, 1) := by decide +kernel
theorem dX4_span_59 : decode cX4_span 59 = .ok (.iconst 1, 1) := by decide +kernel
theorem dX4_span_60 : decode cX4_span 60 = .ok (.iadd, 1) := by decide +kernel
theorem dX4_span_61 : decode cX4_span 61 = .ok (.ireturn, 1) := by decide +kernel
theorem dX4_spanOfSteps_0 : decode cX4_spanOfSteps 0 = .ok (.iconst 0, 1) := by decide +kernel
theorem dX4_spanOfSteps_1 : decode cX4_spanOfSteps 1 = .ok (.istore_n 1, 1) := by decide +kernel
theorem dX4_spanOfSteps_2 : decode cX4_spanOfSteps 2 = .ok (.iconst 1, 1) := by decide +kernel
theorem dX4_spanOfSteps_3 : decode cX4_spanOfSteps 3 = .ok (.istore_n 2, 1) := by decide +kernel
theorem dX4_spanOfSteps_4 : decode cX4_spanOfSteps 4 = .ok (.iload_n 2, 1) := by decide +kernel
theorem dX4_spanOfSteps_5 : decode cX4_spanOfSteps 5 = .ok (.aload_n 0, 1) := by decide +kernel
theorem dX4_spanOfSteps_6 : decode cX4_spanOfSteps 6 = .ok (.getfield 15, 3) := by decide +kernel
theorem dX4_spanOfSteps_9 : decode cX4_spanOfSteps 9 = .ok (.if_icmp .ge 48, 3) := by decide +kernel
theorem dX4_spanOfSteps_12 : decode cX4_spanOfSteps 12 = .ok (.aload_n 0, 1) := by decide +kernel
theorem dX4_spanOfSteps_13 : decode cX4_spanOfSteps 13 = .ok (.getfield 9, 3) := by decide +kernel
theorem dX4_spanOfSteps_16 : decode cX4_spanOfSteps 16 = .ok (.iload_n 2, 1) := by decide +kernel
theorem dX4_spanOfSteps_17 : decode cX4_spanOfSteps 17 = .ok (.iaload, 1) := by decide +kernel
theorem dX4_spanOfSteps_18 : decode cX4_spanOfSteps 18 = .ok (.aload_n 0, 1) := by decide +kernel
theorem dX4_spanOfSteps_19 : decode cX4_spanOfSteps 19 = .ok (.getfield 9, 3) := by decide +kernel
theorem dX4_spanOfSteps_22 : decode cX4_spanOfSteps 22 = .ok (.iload_n 2, 1) := by decide +kernel
theorem dX4_spanOfSteps_23 : decode cX4_spanOfSteps 23 = .ok (.iconst 1, 1) := by decide +kernel
theorem dX4_spanOfSteps_24 : decode cX4_spanOfSteps 24 = .ok (.isub, 1) := by decide +kernel
theorem dX4_spanOfSteps_25 : decode cX4_spanOfSteps 25 = .ok (.iaload, 1) := by decide +kernel
theorem dX4_spanOfSteps_26 : decode cX4_spanOfSteps 26 = .ok (.isub, 1) := by decide +kernel
theorem dX4_spanOfSteps_27 : decode cX4_spanOfSteps 27 = .ok (.istore_n 3, 1) := by decide +kernel
theorem dX4_spanOfSteps_28 : decode cX4_spanOfSteps 28 = .ok (.iload_n 3, 1) := by decide +kernel
theorem dX4_spanOfSteps_29 : decode cX4_spanOfSteps 29 = .ok (.ifCond .le 9, 3) := by decide +kernel
theorem dX4_spanOfSteps_32 : decode cX4_spanOfSteps 32 = .ok (.iload_n 3, 1) := by decide +kernel
theorem dX4_spanOfSteps_33 : decode cX4_spanOfSteps 33 = .ok (.iconst 1, 1) := by decide +kernel
theorem dX4_spanOfSteps_34 : decode cX4_spanOfSteps 34 = .ok (.iadd, 1) := by decide +kernel
theorem dX4_spanOfSteps_35 : decode cX4_spanOfSteps 35 = .ok (.goto 5, 3) := by decide +kernel
theorem dX4_spanOfSteps_38 : decode cX4_spanOfSteps 38 = .ok (.iload_n 3, 1) := by decide +kernel
theorem dX4_spanOfSteps_39 : decode cX4_spanOfSteps 39 = .ok (.ineg, 1) := by decide +kernel
theorem dX4_spanOfSteps_40 : decode cX4_spanOfSteps 40 = .ok (.istore 4, 2) := by decide +kernel
theorem dX4_spanOfSteps_42 : decode cX4_spanOfSteps 42 = .ok (.iload 4, 2) := by decide +kernel
theorem dX4_spanOfSteps_44 : decode cX4_spanOfSteps 44 = .ok (.iload_n 1, 1) := by decide +kernel
theorem dX4_spanOfSteps_45 : decode cX4_spanOfSteps 45 = .ok (.if_icmp .le 6, 3) := by decide +kernel
theorem dX4_spanOfSteps_48 : decode cX4_spanOfSteps 48 = .ok (.iload 4, 2) := by decide +kernel
theorem dX4_spanOfSteps_50 : decode cX4_spanOfSteps 50 = .ok (.istore_n 1, 1) := by decide +kernel
theorem dX4_spanOfSteps_51 : decode cX4_spanOfSteps 51 = .ok (.iinc 2 1, 3) := by decide +kernel
theorem dX4_spanOfSteps_54 : decode cX4_spanOfSteps 54 = .ok (.goto (-50), 3) := by decide +kernel
theorem dX4_spanOfSteps_57 : decode cX4_spanOfSteps 57 = .ok (.iload_n 1, 1) := by decide +kernel
theorem dX4_spanOfSteps_58 : decode cX4_spanOfSteps 58 = .ok (.ifCond .ne 7, 3) := by decide +kernel
theorem dX4_spanOfSteps_61 : decode cX4_spanOfSteps 61 = .ok (.iconst 1, 1) := by decide +kernel
theorem dX4_spanOfSteps_62 : decode cX4_spanOfSteps 62 = .ok (.goto 6, 3) := by decide +kernel
theorem dX4_spanOfSteps_65 : decode cX4_spanOfSteps 65 = .ok (.iconst 2, 1) := by decide +kernel
theorem dX4_spanOfSteps_66 : decode cX4_spanOfSteps 66 = .ok (.iload_n 1, 1) := by decide +kernel
theorem dX4_spanOfSteps_67 : decode cX4_spanOfSteps 67 = .ok (.imul, 1) := by decide +kernel
theorem dX4_spanOfSteps_68 : decode cX4_spanOfSteps 68 = .ok (.ireturn, 1) := by decide +kernel
theorem dX5_init_0 : decode cX5_init 0 = .ok (.aload_n 0, 1) := by decide +kernel
theorem dX5_init_1 : decode cX5_init 1 = .ok (.invokespecial 3, 3) := by decide +kernel
theorem dX5_init_4 : decode cX5_init 4 = .ok (.aload_n 0, 1) := by decide +kernel
theorem dX5_init_5 : decode cX5_init 5 = .ok (.bipush 60, 2) := by decide +kernel
theorem dX5_init_7 : decode cX5_init 7 = .ok (.newarray .int, 2) := by decide +kernel
theorem dX5_init_9 : decode cX5_init 9 = .ok (.putfield 9, 3) := by decide +kernel
theorem dX5_init_12 : decode cX5_init 12 = .ok (.aload_n 0, 1) := by decide +kernel
theorem dX5_init_13 : decode cX5_init 13 = .ok (.iconst 0, 1) := by decide +kernel
theorem dX5_init_14 : decode cX5_init 14 = .ok (.putfield 15, 3) := by decide +kernel
theorem dX5_init_17 : decode cX5_init 17 = .ok (.aload_n 0, 1) := by decide +kernel
theorem dX5_init_18 : decode cX5_init 18 = .ok (.iconst 0, 1) := by decide +kernel
theorem dX5_init_19 : decode cX5_init 19 = .ok (.putfield 19, 3) := by decide +kernel
theorem dX5_init_22 : decode cX5_init 22 = .ok (.aload_n 0, 1) := by decide +kernel
theorem dX5_init_23 : decode cX5_init 23 = .ok (.iconst 0, 1) := by decide +kernel
theorem dX5_init_24 : decode cX5_init 24 = .ok (.putfield 22, 3) := by decide +kernel
theorem dX5_init_27 : decode cX5_init 27 = .ok (.aload_n 0, 1) := by decide +kernel
theorem dX5_init_28 : decode cX5_init 28 = .ok (.iconst 1, 1) := by decide +kernel
theorem dX5_init_29 : decode cX5_init 29 = .ok (.putfield 25, 3) := by decide +kernel
theorem dX5_init_32 : decode cX5_init 32 = .ok (.return_, 1) := by decide +kernel
theorem dX5_length_0 : decode cX5_length 0 = .ok (.aload_n 0, 1) := by decide +kernel
theorem dX5_length_1 : decode cX5_length 1 = .ok (.getfield 15, 3) := by decide +kernel
theorem dX5_length_4 : decode cX5_length 4 = .ok (.ireturn, 1) := by decide +kernel
theorem dX5_isFull_0 : decode cX5_isFull 0 = .ok (.aload_n 0, 1) := by decide +kernel
theorem dX5_isFull_1 : decode cX5_isFull 1 = .ok (.getfield 15, 3) := by decide +kernel
theorem dX5_isFull_4 : decode cX5_isFull 4 = .ok (.aload_n 0, 1) := by decide +kernel
theorem dX5_isFull_5 : decode cX5_isFull 5 = .ok (.getfield 9, 3) := by decide +kernel
theorem dX5_isFull_8 : decode cX5_isFull 8 = .ok (.arraylength, 1) := by decide +kernel
theorem dX5_isFull_9 : decode cX5_isFull 9 = .ok (.if_icmp .lt 7, 3) := by decide +kernel
theorem dX5_isFull_12 : decode cX5_isFull 12 = .ok (.iconst 1, 1) := by decide +kernel
theorem dX5_isFull_13 : decode cX5_isFull 13 = .ok (.goto 4, 3) := by decide +kernel
theorem dX5_isFull_16 : decode cX5_isFull 16 = .ok (.iconst 0, 1) := by decide +kernel
theorem dX5_isFull_17 : decode cX5_isFull 17 = .ok (.ireturn, 1) := by decide +kernel
theorem dX5_codeAt_0 : decode cX5_codeAt 0 = .ok (.iload_n 1, 1) := by decide +kernel
theorem dX5_codeAt_1 : decode cX5_codeAt 1 = .ok (.ifCond .lt 20, 3) := by decide +kernel
theorem dX5_codeAt_4 : decode cX5_codeAt 4 = .ok (.iload_n 1, 1) := by decide +kernel
theorem dX5_codeAt_5 : decode cX5_codeAt 5 = .ok (.aload_n 0, 1) := by decide +kernel
theorem dX5_codeAt_6 : decode cX5_codeAt 6 = .ok (.getfield 15, 3) := by decide +kernel
theorem dX5_codeAt_9 : decode cX5_codeAt 9 = .ok (.if_icmp .ge 12, 3) := by decide +kernel
theorem dX5_codeAt_12 : decode cX5_codeAt 12 = .ok (.aload_n 0, 1) := by decide +kernel
theorem dX5_codeAt_13 : decode cX5_codeAt 13 = .ok (.getfield 9, 3) := by decide +kernel
theorem dX5_codeAt_16 : decode cX5_codeAt 16 = .ok (.iload_n 1, 1) := by decide +kernel
theorem dX5_codeAt_17 : decode cX5_codeAt 17 = .ok (.iaload, 1) := by decide +kernel
theorem dX5_codeAt_18 : decode cX5_codeAt 18 = .ok (.goto 4, 3) := by decide +kernel
theorem dX5_codeAt_21 : decode cX5_codeAt 21 = .ok (.iconst (-1), 1) := by decide +kernel
theorem dX5_codeAt_22 : decode cX5_codeAt 22 = .ok (.ireturn, 1) := by decide +kernel
theorem dX5_push_0 : decode cX5_push 0 = .ok (.aload_n 0, 1) := by decide +kernel
theorem dX5_push_1 : decode cX5_push 1 = .ok (.invokevirtual 28, 3) := by decide +kernel
theorem dX5_push_4 : decode cX5_push 4 = .ok (.ifCond .ne 23, 3) := by decide +kernel
theorem dX5_push_7 : decode cX5_push 7 = .ok (.aload_n 0, 1) := by decide +kernel
theorem dX5_push_8 : decode cX5_push 8 = .ok (.getfield 9, 3) := by decide +kernel
theorem dX5_push_11 : decode cX5_push 11 = .ok (.aload_n 0, 1) := by decide +kernel
theorem dX5_push_12 : decode cX5_push 12 = .ok (.getfield 15, 3) := by decide +kernel
theorem dX5_push_15 : decode cX5_push 15 = .ok (.iload_n 1, 1) := by decide +kernel
theorem dX5_push_16 : decode cX5_push 16 = .ok (.iastore, 1) := by decide +kernel
theorem dX5_push_17 : decode cX5_push 17 = .ok (.aload_n 0, 1) := by decide +kernel
theorem dX5_push_18 : decode cX5_push 18 = .ok (.dup, 1) := by decide +kernel
theorem dX5_push_19 : decode cX5_push 19 = .ok (.getfield 15, 3) := by decide +kernel
theorem dX5_push_22 : decode cX5_push 22 = .ok (.iconst 1, 1) := by decide +kernel
theorem dX5_push_23 : decode cX5_push 23 = .ok (.iadd, 1) := by decide +kernel
theorem dX5_push_24 : decode cX5_push 24 = .ok (.putfield 15, 3) := by decide +kernel
theorem dX5_push_27 : decode cX5_push 27 = .ok (.return_, 1) := by decide +kernel
theorem dX5_empty_0 : decode cX5_empty 0 = .ok (.aload_n 0, 1) := by decide +kernel
theorem dX5_empty_1 : decode cX5_empty 1 = .ok (.iconst 0, 1) := by decide +kernel
theorem dX5_empty_2 : decode cX5_empty 2 = .ok (.putfield 15, 3) := by decide +kernel
theorem dX5_empty_5 : decode cX5_empty 5 = .ok (.return_, 1) := by decide +kernel
theorem dX5_errorPlace_0 : decode cX5_errorPlace 0 = .ok (.aload_n 0, 1) := by decide +kernel
theorem dX5_errorPlace_1 : decode cX5_errorPlace 1 = .ok (.iconst 0, 1) := by decide +kernel
theorem dX5_errorPlace_2 : decode cX5_errorPlace 2 = .ok (.putfield 19, 3) := by decide +kernel
theorem dX5_errorPlace_5 : decode cX5_errorPlace 5 = .ok (.iconst 0, 1) := by decide +kernel
theorem dX5_errorPlace_6 : decode cX5_errorPlace 6 = .ok (.istore_n 1, 1) := by decide +kernel
theorem dX5_errorPlace_7 : decode cX5_errorPlace 7 = .ok (.iload_n 1, 1) := by decide +kernel
theorem dX5_errorPlace_8 : decode cX5_errorPlace 8 = .ok (.aload_n 0, 1) := by decide +kernel
theorem dX5_errorPlace_9 : decode cX5_errorPlace 9 = .ok (.getfield 15, 3) := by decide +kernel
theorem dX5_errorPlace_12 : decode cX5_errorPlace 12 = .ok (.if_icmp .ge 24, 3) := by decide +kernel
theorem dX5_errorPlace_15 : decode cX5_errorPlace 15 = .ok (.aload_n 0, 1) := by decide +kernel
theorem dX5_errorPlace_16 : decode cX5_errorPlace 16 = .ok (.aload_n 0, 1) := by decide +kernel
theorem dX5_errorPlace_17 : decode cX5_errorPlace 17 = .ok (.getfield 9, 3) := by decide +kernel
theorem dX5_errorPlace_20 : decode cX5_errorPlace 20 = .ok (.iload_n 1, 1) := by decide +kernel
theorem dX5_errorPlace_21 : decode cX5_errorPlace 21 = .ok (.iaload, 1) := by decide +kernel
theorem dX5_errorPlace_22 : decode cX5_errorPlace 22 = .ok (.invokevirtual 32, 3) := by decide +kernel
theorem dX5_errorPlace_25 : decode cX5_errorPlace 25 = .ok (.ifCond .ne 5, 3) := by decide +kernel
theorem dX5_errorPlace_28 : decode cX5_errorPlace 28 = .ok (.iload_n 1, 1) := by decide +kernel
theorem dX5_errorPlace_29 : decode cX5_errorPlace 29 = .ok (.ireturn, 1) := by decide +kernel
theorem dX5_errorPlace_30 : decode cX5_errorPlace 30 = .ok (.iinc 1 1, 3) := by decide +kernel
theorem dX5_errorPlace_33 : decode cX5_errorPlace 33 = .ok (.goto (-26), 3) := by decide +kernel
theorem dX5_errorPlace_36 : decode cX5_errorPlace 36 = .ok (.aload_n 0, 1) := by decide +kernel
theorem dX5_errorPlace_37 : decode cX5_errorPlace 37 = .ok (.getfield 15, 3) := by decide +kernel
theorem dX5_errorPlace_40 : decode cX5_errorPlace 40 = .ok (.ireturn, 1) := by decide +kernel
theorem dX5_spell_0 : decode cX5_spell 0 = .ok (.aload_n 1, 1) := by decide +kernel
theorem dX5_spell_1 : decode cX5_spell 1 = .ok (.invokevirtual 36, 3) := by decide +kernel
theorem dX5_spell_4 : decode cX5_spell 4 = .ok (.aload_n 0, 1) := by decide +kernel
theorem dX5_spell_5 : decode cX5_spell 5 = .ok (.iconst 0, 1) := by decide +kernel
theorem dX5_spell_6 : decode cX5_spell 6 = .ok (.putfield 19, 3) := by decide +kernel
theorem dX5_spell_9 : decode cX5_spell 9 = .ok (.iconst 0, 1) := by decide +kernel
theorem dX5_spell_10 : decode cX5_spell 10 = .ok (.istore_n 2, 1) := by decide +kernel
theorem dX5_spell_11 : decode cX5_spell 11 = .ok (.iload_n 2, 1) := by decide +kernel
theorem dX5_spell_12 : decode cX5_spell 12 = .ok (.aload_n 0, 1) := by decide +kernel
theorem dX5_spell_13 : decode cX5_spell 13 = .ok (.getfield 15, 3) := by decide +kernel
theorem dX5_spell_16 : decode cX5_spell 16 = .ok (.if_icmp .ge 45, 3) := by decide +kernel
theorem dX5_spell_19 : decode cX5_spell 19 = .ok (.aload_n 0, 1) := by decide +kernel
theorem dX5_spell_20 : decode cX5_spell 20 = .ok (.getfield 9, 3) := by decide +kernel
theorem dX5_spell_23 : decode cX5_spell 23 = .ok (.iload_n 2, 1) := by decide +kernel
theorem dX5_spell_24 : decode cX5_spell 24 = .ok (.iaload, 1) := by decide +kernel
theorem dX5_spell_25 : decode cX5_spell 25 = .ok (.bipush 44, 2) := by decide +kernel
theorem dX5_spell_27 : decode cX5_spell 27 = .ok (.if_icmp .ne 13, 3) := by decide +kernel
theorem dX5_spell_30 : decode cX5_spell 30 = .ok (.aload_n 0, 1) := by decide +kernel
theorem dX5_spell_31 : decode cX5_spell 31 = .ok (.aload_n 1, 1) := by decide +kernel
theorem dX5_spell_32 : decode cX5_spell 32 = .ok (.invokevirtual 41, 3) := by decide +kernel
theorem dX5_spell_35 : decode cX5_spell 35 = .ok (.ifCond .ne 5, 3) := by decide +kernel
theorem dX5_spell_38 : decode cX5_spell 38 = .ok (.iconst 0, 1) := by decide +kernel
theorem dX5_spell_39 : decode cX5_spell 39 = .ok (.ireturn, 1) := by decide +kernel
theorem dX5_spell_40 : decode cX5_spell 40 = .ok (.aload_n 0, 1) := by decide +kernel
theorem dX5_spell_41 : decode cX5_spell 41 = .ok (.aload_n 0, 1) := by decide +kernel
theorem dX5_spell_42 : decode cX5_spell 42 = .ok (.getfield 9, 3) := by decide +kernel
theorem dX5_spell_45 : decode cX5_spell 45 = .ok (.iload_n 2, 1) := by decide +kernel
theorem dX5_spell_46 : decode cX5_spell 46 = .ok (.iaload, 1) := by decide +kernel
theorem dX5_spell_47 : decode cX5_spell 47 = .ok (.invokevirtual 32, 3) := by decide +kernel
theorem dX5_spell_50 : decode cX5_spell 50 = .ok (.ifCond .ne 5, 3) := by decide +kernel
theorem dX5_spell_53 : decode cX5_spell 53 = .ok (.iconst 0, 1) := by decide +kernel
theorem dX5_spell_54 : decode cX5_spell 54 = .ok (.ireturn, 1) := by decide +kernel
theorem dX5_spell_55 : decode cX5_spell 55 = .ok (.iinc 2 1, 3) := by decide +kernel
theorem dX5_spell_58 : decode cX5_spell 58 = .ok (.goto (-47), 3) := by decide +kernel
theorem dX5_spell_61 : decode cX5_spell 61 = .ok (.aload_n 0, 1) := by decide +kernel
theorem dX5_spell_62 : decode cX5_spell 62 = .ok (.aload_n 1, 1) := by decide +kernel
theorem dX5_spell_63 : decode cX5_spell 63 = .ok (.invokevirtual 41, 3) := by decide +kernel
theorem dX5_spell_66 : decode cX5_spell 66 = .ok (.ireturn, 1) := by decide +kernel
theorem dX5_endPart_0 : decode cX5_endPart 0 = .ok (.aload_n 0, 1) := by decide +kernel
theorem dX5_endPart_1 : decode cX5_endPart 1 = .ok (.invokevirtual 45, 3) := by decide +kernel
theorem dX5_endPart_4 : decode cX5_endPart 4 = .ok (.ifCond .eq 22, 3) := by decide +kernel
theorem dX5_endPart_7 : decode cX5_endPart 7 = .ok (.aload_n 1, 1) := by decide +kernel
theorem dX5_endPart_8 : decode cX5_endPart 8 = .ok (.aload_n 0, 1) := by decide +kernel
theorem dX5_endPart_9 : decode cX5_endPart 9 = .ok (.getfield 22, 3) := by decide +kernel
theorem dX5_endPart_12 : decode cX5_endPart 12 = .ok (.aload_n 0, 1) := by decide +kernel
theorem dX5_endPart_13 : decode cX5_endPart 13 = .ok (.getfield 25, 3) := by decide +kernel
theorem dX5_endPart_16 : decode cX5_endPart 16 = .ok (.invokevirtual 48, 3) := by decide +kernel
theorem dX5_endPart_19 : decode cX5_endPart 19 = .ok (.ifCond .eq 7, 3) := by decide +kernel
theorem dX5_endPart_22 : decode cX5_endPart 22 = .ok (.iconst 1, 1) := by decide +kernel
theorem dX5_endPart_23 : decode cX5_endPart 23 = .ok (.goto 4, 3) := by decide +kernel
theorem dX5_endPart_26 : decode cX5_endPart 26 = .ok (.iconst 0, 1) := by decide +kernel
theorem dX5_endPart_27 : decode cX5_endPart 27 = .ok (.ireturn, 1) := by decide +kernel
theorem dX5_partIsWhole_0 : decode cX5_partIsWhole 0 = .ok (.aload_n 0, 1) := by decide +kernel
theorem dX5_partIsWhole_1 : decode cX5_partIsWhole 1 = .ok (.getfield 19, 3) := by decide +kernel
theorem dX5_partIsWhole_4 : decode cX5_partIsWhole 4 = .ok (.iconst 1, 1) := by decide +kernel
theorem dX5_partIsWhole_5 : decode cX5_partIsWhole 5 = .ok (.if_icmp .eq 11, 3) := by decide +kernel
theorem dX5_partIsWhole_8 : decode cX5_partIsWhole 8 = .ok (.aload_n 0, 1) := by decide +kernel
theorem dX5_partIsWhole_9 : decode cX5_partIsWhole 9 = .ok (.getfield 19, 3) := by decide +kernel
theorem dX5_partIsWhole_12 : decode cX5_partIsWhole 12 = .ok (.iconst 3, 1) := by decide +kernel
theorem dX5_partIsWhole_13 : decode cX5_partIsWhole 13 = .ok (.if_icmp .ne 7, 3) := by decide +kernel
theorem dX5_partIsWhole_16 : decode cX5_partIsWhole 16 = .ok (.iconst 1, 1) := by decide +kernel
theorem dX5_partIsWhole_17 : decode cX5_partIsWhole 17 = .ok (.goto 4, 3) := by decide +kernel
theorem dX5_partIsWhole_20 : decode cX5_partIsWhole 20 = .ok (.iconst 0, 1) := by decide +kernel
theorem dX5_partIsWhole_21 : decode cX5_partIsWhole 21 = .ok (.ireturn, 1) := by decide +kernel
theorem dX5_accept_0 : decode cX5_accept 0 = .ok (.iload_n 1, 1) := by decide +kernel
theorem dX5_accept_1 : decode cX5_accept 1 = .ok (.bipush 48, 2) := by decide +kernel
theorem dX5_accept_3 : decode cX5_accept 3 = .ok (.if_icmp .lt 18, 3) := by decide +kernel
theorem dX5_accept_6 : decode cX5_accept 6 = .ok (.iload_n 1, 1) := by decide +kernel
theorem dX5_accept_7 : decode cX5_accept 7 = .ok (.bipush 57, 2) := by decide +kernel
theorem dX5_accept_9 : decode cX5_accept 9 = .ok (.if_icmp .gt 12, 3) := by decide +kernel
theorem dX5_accept_12 : decode cX5_accept 12 = .ok (.aload_n 0, 1) := by decide +kernel
theorem dX5_accept_13 : decode cX5_accept 13 = .ok (.iload_n 1, 1) := by decide +kernel
theorem dX5_accept_14 : decode cX5_accept 14 = .ok (.bipush 48, 2) := by decide +kernel
theorem dX5_accept_16 : decode cX5_accept 16 = .ok (.isub, 1) := by decide +kernel
theorem dX5_accept_17 : decode cX5_accept 17 = .ok (.invokevirtual 52, 3) := by decide +kernel
theorem dX5_accept_20 : decode cX5_accept 20 = .ok (.ireturn, 1) := by decide +kernel
theorem dX5_accept_21 : decode cX5_accept 21 = .ok (.iload_n 1, 1) := by decide +kernel
theorem dX5_accept_22 : decode cX5_accept 22 = .ok (.bipush 44, 2) := by decide +kernel
theorem dX5_accept_24 : decode cX5_accept 24 = .ok (.if_icmp .ne 17, 3) := by decide +kernel
theorem dX5_accept_27 : decode cX5_accept 27 = .ok (.aload_n 0, 1) := by decide +kernel
theorem dX5_accept_28 : decode cX5_accept 28 = .ok (.invokevirtual 45, 3) := by decide +kernel
theorem dX5_accept_31 : decode cX5_accept 31 = .ok (.ifCond .eq 10, 3) := by decide +kernel
theorem dX5_accept_34 : decode cX5_accept 34 = .ok (.aload_n 0, 1) := by decide +kernel
theorem dX5_accept_35 : decode cX5_accept 35 = .ok (.iconst 0, 1) := by decide +kernel
theorem dX5_accept_36 : decode cX5_accept 36 = .ok (.putfield 19, 3) := by decide +kernel
theorem dX5_accept_39 : decode cX5_accept 39 = .ok (.iconst 1, 1) := by decide +kernel
theorem dX5_accept_40 : decode cX5_accept 40 = .ok (.ireturn, 1) := by decide +kernel
theorem dX5_accept_41 : decode cX5_accept 41 = .ok (.iload_n 1, 1) := by decide +kernel
theorem dX5_accept_42 : decode cX5_accept 42 = .ok (.bipush 42, 2) := by decide +kernel
theorem dX5_accept_44 : decode cX5_accept 44 = .ok (.if_icmp .ne 18, 3) := by decide +kernel
theorem dX5_accept_47 : decode cX5_accept 47 = .ok (.aload_n 0, 1) := by decide +kernel
theorem dX5_accept_48 : decode cX5_accept 48 = .ok (.getfield 19, 3) := by decide +kernel
theorem dX5_accept_51 : decode cX5_accept 51 = .ok (.iconst 1, 1) := by decide +kernel
theorem dX5_accept_52 : decode cX5_accept 52 = .ok (.if_icmp .ne 10, 3) := by decide +kernel
theorem dX5_accept_55 : decode cX5_accept 55 = .ok (.aload_n 0, 1) := by decide +kernel
theorem dX5_accept_56 : decode cX5_accept 56 = .ok (.iconst 2, 1) := by decide +kernel
theorem dX5_accept_57 : decode cX5_accept 57 = .ok (.putfield 19, 3) := by decide +kernel
theorem dX5_accept_60 : decode cX5_accept 60 = .ok (.iconst 1, 1) := by decide +kernel
theorem dX5_accept_61 : decode cX5_accept 61 = .ok (.ireturn, 1) := by decide +kernel
theorem dX5_accept_62 : decode cX5_accept 62 = .ok (.iconst 0, 1) := by decide +kernel
theorem dX5_accept_63 : decode cX5_accept 63 = .ok (.ireturn, 1) := by decide +kernel
theorem dX5_acceptDigit_0 : decode cX5_acceptDigit 0 = .ok (.aload_n 0, 1) := by decide +kernel
theorem dX5_acceptDigit_1 : decode cX5_acceptDigit 1 = .ok (.getfield 19, 3) := by decide +kernel
theorem dX5_acceptDigit_4 : decode cX5_acceptDigit 4 = .ok (.tableswitch 107 0 2 #[28, 45, 83], 28) := by decide +kernel
theorem dX5_acceptDigit_32 : decode cX5_acceptDigit 32 = .ok (.aload_n 0, 1) := by decide +kernel
theorem dX5_acceptDigit_33 : decode cX5_acceptDigit 33 = .ok (.iconst 1, 1) := by decide +kernel
theorem dX5_acceptDigit_34 : decode cX5_acceptDigit 34 = .ok (.putfield 19, 3) := by decide +kernel
theorem dX5_acceptDigit_37 : decode cX5_acceptDigit 37 = .ok (.aload_n 0, 1) := by decide +kernel
theorem dX5_acceptDigit_38 : decode cX5_acceptDigit 38 = .ok (.iload_n 1, 1) := by decide +kernel
theorem dX5_acceptDigit_39 : decode cX5_acceptDigit 39 = .ok (.putfield 22, 3) := by decide +kernel
theorem dX5_acceptDigit_42 : decode cX5_acceptDigit 42 = .ok (.aload_n 0, 1) := by decide +kernel
theorem dX5_acceptDigit_43 : decode cX5_acceptDigit 43 = .ok (.iconst 1, 1) := by decide +kernel
theorem dX5_acceptDigit_44 : decode cX5_acceptDigit 44 = .ok (.putfield 25, 3) := by decide +kernel
theorem dX5_acceptDigit_47 : decode cX5_acceptDigit 47 = .ok (.iconst 1, 1) := by decide +kernel
theorem dX5_acceptDigit_48 : decode cX5_acceptDigit 48 = .ok (.ireturn, 1) := by decide +kernel
theorem dX5_acceptDigit_49 : decode cX5_acceptDigit 49 = .ok (.aload_n 0, 1) := by decide +kernel
theorem dX5_acceptDigit_50 : decode cX5_acceptDigit 50 = .ok (.bipush 10, 2) := by decide +kernel
theorem dX5_acceptDigit_52 : decode cX5_acceptDigit 52 = .ok (.aload_n 0, 1) := by decide +kernel
theorem dX5_acceptDigit_53 : decode cX5_acceptDigit 53 = .ok (.getfield 22, 3) := by decide +kernel
theorem dX5_acceptDigit_56 : decode cX5_acceptDigit 56 = .ok (.imul, 1) := by decide +kernel
theorem dX5_acceptDigit_57 : decode cX5_acceptDigit 57 = .ok (.iload_n 1, 1) := by decide +kernel
theorem dX5_acceptDigit_58 : decode cX5_acceptDigit 58 = .ok (.iadd, 1) := by decide +kernel
theorem dX5_acceptDigit_59 : decode cX5_acceptDigit 59 = .ok (.putfield 22, 3) := by decide +kernel
theorem dX5_acceptDigit_62 : decode cX5_acceptDigit 62 = .ok (.aload_n 0, 1) := by decide +kernel
theorem dX5_acceptDigit_63 : decode cX5_acceptDigit 63 = .ok (.getfield 22, 3) := by decide +kernel
theorem dX5_acceptDigit_66 : decode cX5_acceptDigit 66 = .ok (.bipush 10, 2) := by decide +kernel
theorem dX5_acceptDigit_68 : decode cX5_acceptDigit 68 = .ok (.if_icmp .lt 17, 3) := by decide +kernel
theorem dX5_acceptDigit_71 : decode cX5_acceptDigit 71 = .ok (.aload_n 0, 1) := by decide +kernel
theorem dX5_acceptDigit_72 : decode cX5_acceptDigit 72 = .ok (.getfield 22, 3) := by decide +kernel
theorem dX5_acceptDigit_75 : decode cX5_acceptDigit 75 = .ok (.sipush 255, 3) := by decide +kernel
theorem dX5_acceptDigit_78 : decode cX5_acceptDigit 78 = .ok (.if_icmp .gt 7, 3) := by decide +kernel
theorem dX5_acceptDigit_81 : decode cX5_acceptDigit 81 = .ok (.iconst 1, 1) := by decide +kernel
theorem dX5_acceptDigit_82 : decode cX5_acceptDigit 82 = .ok (.goto 4, 3) := by decide +kernel
theorem dX5_acceptDigit_85 : decode cX5_acceptDigit 85 = .ok (.iconst 0, 1) := by decide +kernel
theorem dX5_acceptDigit_86 : decode cX5_acceptDigit 86 = .ok (.ireturn, 1) := by decide +kernel
theorem dX5_acceptDigit_87 : decode cX5_acceptDigit 87 = .ok (.aload_n 0, 1) := by decide +kernel
theorem dX5_acceptDigit_88 : decode cX5_acceptDigit 88 = .ok (.iconst 3, 1) := by decide +kernel
theorem dX5_acceptDigit_89 : decode cX5_acceptDigit 89 = .ok (.putfield 19, 3) := by decide +kernel
theorem dX5_acceptDigit_92 : decode cX5_acceptDigit 92 = .ok (.aload_n 0, 1) := by decide +kernel
theorem dX5_acceptDigit_93 : decode cX5_acceptDigit 93 = .ok (.iload_n 1, 1) := by decide +kernel
theorem dX5_acceptDigit_94 : decode cX5_acceptDigit 94 = .ok (.putfield 25, 3) := by decide +kernel
theorem dX5_acceptDigit_97 : decode cX5_acceptDigit 97 = .ok (.aload_n 0, 1) := by decide +kernel
theorem dX5_acceptDigit_98 : decode cX5_acceptDigit 98 = .ok (.getfield 25, 3) := by decide +kernel
theorem dX5_acceptDigit_101 : decode cX5_acceptDigit 101 = .ok (.iconst 1, 1) := by decide +kernel
theorem dX5_acceptDigit_102 : decode cX5_acceptDigit 102 = .ok (.if_icmp .lt 7, 3) := by decide +kernel
theorem dX5_acceptDigit_105 : decode cX5_acceptDigit 105 = .ok (.iconst 1, 1) := by decide +kernel
theorem dX5_acceptDigit_106 : decode cX5_acceptDigit 106 = .ok (.goto 4, 3) := by decide +kernel
theorem dX5_acceptDigit_109 : decode cX5_acceptDigit 109 = .ok (.iconst 0, 1) := by decide +kernel
theorem dX5_acceptDigit_110 : decode cX5_acceptDigit 110 = .ok (.ireturn, 1) := by decide +kernel
theorem dX5_acceptDigit_111 : decode cX5_acceptDigit 111 = .ok (.aload_n 0, 1) := by decide +kernel
theorem dX5_acceptDigit_112 : decode cX5_acceptDigit 112 = .ok (.bipush 10, 2) := by decide +kernel
theorem dX5_acceptDigit_114 : decode cX5_acceptDigit 114 = .ok (.aload_n 0, 1) := by decide +kernel
theorem dX5_acceptDigit_115 : decode cX5_acceptDigit 115 = .ok (.getfield 25, 3) := by decide +kernel
theorem dX5_acceptDigit_118 : decode cX5_acceptDigit 118 = .ok (.imul, 1) := by decide +kernel
theorem dX5_acceptDigit_119 : decode cX5_acceptDigit 119 = .ok (.iload_n 1, 1) := by decide +kernel
theorem dX5_acceptDigit_120 : decode cX5_acceptDigit 120 = .ok (.iadd, 1) := by decide +kernel
theorem dX5_acceptDigit_121 : decode cX5_acceptDigit 121 = .ok (.putfield 25, 3) := by decide +kernel
theorem dX5_acceptDigit_124 : decode cX5_acceptDigit 124 = .ok (.aload_n 0, 1) := by decide +kernel
theorem dX5_acceptDigit_125 : decode cX5_acceptDigit 125 = .ok (.getfield 25, 3) := by decide +kernel
theorem dX5_acceptDigit_128 : decode cX5_acceptDigit 128 = .ok (.bipush 24, 2) := by decide +kernel
theorem dX5_acceptDigit_130 : decode cX5_acceptDigit 130 = .ok (.if_icmp .gt 7, 3) := by decide +kernel
theorem dX5_acceptDigit_133 : decode cX5_acceptDigit 133 = .ok (.iconst 1, 1) := by decide +kernel
theorem dX5_acceptDigit_134 : decode cX5_acceptDigit 134 = .ok (.goto 4, 3) := by decide +kernel
theorem dX5_acceptDigit_137 : decode cX5_acceptDigit 137 = .ok (.iconst 0, 1) := by decide +kernel
theorem dX5_acceptDigit_138 : decode cX5_acceptDigit 138 = .ok (.ireturn, 1) := by decide +kernel
theorem dX6_init_0 : decode cX6_init 0 = .ok (.aload_n 0, 1) := by decide +kernel
theorem dX6_init_1 : decode cX6_init 1 = .ok (.invokespecial 1, 3) := by decide +kernel
theorem dX6_init_4 : decode cX6_init 4 = .ok (.aload_n 0, 1) := by decide +kernel
theorem dX6_init_5 : decode cX6_init 5 = .ok (.new 7, 3) := by decide +kernel
theorem dX6_init_8 : decode cX6_init 8 = .ok (.dup, 1) := by decide +kernel
theorem dX6_init_9 : decode cX6_init 9 = .ok (.invokespecial 9, 3) := by decide +kernel
theorem dX6_init_12 : decode cX6_init 12 = .ok (.putfield 10, 3) := by decide +kernel
theorem dX6_init_15 : decode cX6_init 15 = .ok (.aload_n 0, 1) := by decide +kernel
theorem dX6_init_16 : decode cX6_init 16 = .ok (.new 16, 3) := by decide +kernel
theorem dX6_init_19 : decode cX6_init 19 = .ok (.dup, 1) := by decide +kernel
theorem dX6_init_20 : decode cX6_init 20 = .ok (.invokespecial 18, 3) := by decide +kernel
theorem dX6_init_23 : decode cX6_init 23 = .ok (.putfield 19, 3) := by decide +kernel
theorem dX6_init_26 : decode cX6_init 26 = .ok (.aload_n 0, 1) := by decide +kernel
theorem dX6_init_27 : decode cX6_init 27 = .ok (.new 23, 3) := by decide +kernel
theorem dX6_init_30 : decode cX6_init 30 = .ok (.dup, 1) := by decide +kernel
theorem dX6_init_31 : decode cX6_init 31 = .ok (.invokespecial 25, 3) := by decide +kernel
theorem dX6_init_34 : decode cX6_init 34 = .ok (.putfield 26, 3) := by decide +kernel
theorem dX6_init_37 : decode cX6_init 37 = .ok (.aload_n 0, 1) := by decide +kernel
theorem dX6_init_38 : decode cX6_init 38 = .ok (.new 30, 3) := by decide +kernel
theorem dX6_init_41 : decode cX6_init 41 = .ok (.dup, 1) := by decide +kernel
theorem dX6_init_42 : decode cX6_init 42 = .ok (.invokespecial 32, 3) := by decide +kernel
theorem dX6_init_45 : decode cX6_init 45 = .ok (.putfield 33, 3) := by decide +kernel
theorem dX6_init_48 : decode cX6_init 48 = .ok (.return_, 1) := by decide +kernel
theorem dX6_make_0 : decode cX6_make 0 = .ok (.iload_n 1, 1) := by decide +kernel
theorem dX6_make_1 : decode cX6_make 1 = .ok (.invokestatic 37, 3) := by decide +kernel
theorem dX6_make_4 : decode cX6_make 4 = .ok (.iload_n 2, 1) := by decide +kernel
theorem dX6_make_5 : decode cX6_make 5 = .ok (.iconst 1, 1) := by decide +kernel
theorem dX6_make_6 : decode cX6_make 6 = .ok (.bipush 24, 2) := by decide +kernel
theorem dX6_make_8 : decode cX6_make 8 = .ok (.invokestatic 41, 3) := by decide +kernel
theorem dX6_make_11 : decode cX6_make 11 = .ok (.aload_n 0, 1) := by decide +kernel
theorem dX6_make_12 : decode cX6_make 12 = .ok (.invokevirtual 45, 3) := by decide +kernel
theorem dX6_make_15 : decode cX6_make 15 = .ok (.aload_n 0, 1) := by decide +kernel
theorem dX6_make_16 : decode cX6_make 16 = .ok (.getfield 33, 3) := by decide +kernel
theorem dX6_make_19 : decode cX6_make 19 = .ok (.invokevirtual 48, 3) := by decide +kernel
theorem dX6_make_22 : decode cX6_make 22 = .ok (.aload_n 0, 1) := by decide +kernel
theorem dX6_make_23 : decode cX6_make 23 = .ok (.getfield 33, 3) := by decide +kernel
theorem dX6_make_26 : decode cX6_make 26 = .ok (.iload_n 1, 1) := by decide +kernel
theorem dX6_make_27 : decode cX6_make 27 = .ok (.iload_n 2, 1) := by decide +kernel
theorem dX6_make_28 : decode cX6_make 28 = .ok (.invokevirtual 51, 3) := by decide +kernel
theorem dX6_make_31 : decode cX6_make 31 = .ok (.pop, 1) := by decide +kernel
theorem dX6_make_32 : decode cX6_make 32 = .ok (.aload_n 0, 1) := by decide +kernel
theorem dX6_make_33 : decode cX6_make 33 = .ok (.getfield 19, 3) := by decide +kernel
theorem dX6_make_36 : decode cX6_make 36 = .ok (.aload_n 0, 1) := by decide +kernel
theorem dX6_make_37 : decode cX6_make 37 = .ok (.getfield 10, 3) := by decide +kernel
theorem dX6_make_40 : decode cX6_make 40 = .ok (.invokevirtual 55, 3) := by decide +kernel
theorem dX6_make_43 : decode cX6_make 43 = .ok (.aload_n 0, 1) := by decide +kernel
theorem dX6_make_44 : decode cX6_make 44 = .ok (.getfield 10, 3) := by decide +kernel
theorem dX6_make_47 : decode cX6_make 47 = .ok (.aload_n 0, 1) := by decide +kernel
theorem dX6_make_48 : decode cX6_make 48 = .ok (.getfield 33, 3) := by decide +kernel
theorem dX6_make_51 : decode cX6_make 51 = .ok (.invokevirtual 59, 3) := by decide +kernel
theorem dX6_make_54 : decode cX6_make 54 = .ok (.ireturn, 1) := by decide +kernel
theorem dX6_read_0 : decode cX6_read 0 = .ok (.aload_n 0, 1) := by decide +kernel
theorem dX6_read_1 : decode cX6_read 1 = .ok (.getfield 26, 3) := by decide +kernel
theorem dX6_read_4 : decode cX6_read 4 = .ok (.aload_n 0, 1) := by decide +kernel
theorem dX6_read_5 : decode cX6_read 5 = .ok (.getfield 33, 3) := by decide +kernel
theorem dX6_read_8 : decode cX6_read 8 = .ok (.invokevirtual 63, 3) := by decide +kernel
theorem dX6_read_11 : decode cX6_read 11 = .ok (.ifCond .ne 13, 3) := by decide +kernel
theorem dX6_read_14 : decode cX6_read 14 = .ok (.new 67, 3) := by decide +kernel
theorem dX6_read_17 : decode cX6_read 17 = .ok (.dup, 1) := by decide +kernel
theorem dX6_read_18 : decode cX6_read 18 = .ok (.ldc 69, 2) := by decide +kernel
theorem dX6_read_20 : decode cX6_read 20 = .ok (.invokespecial 71, 3) := by decide +kernel
theorem dX6_read_23 : decode cX6_read 23 = .ok (.athrow, 1) := by decide +kernel
theorem dX6_read_24 : decode cX6_read 24 = .ok (.aload_n 0, 1) := by decide +kernel
theorem dX6_read_25 : decode cX6_read 25 = .ok (.invokevirtual 45, 3) := by decide +kernel
theorem dX6_read_28 : decode cX6_read 28 = .ok (.aload_n 0, 1) := by decide +kernel
theorem dX6_read_29 : decode cX6_read 29 = .ok (.getfield 19, 3) := by decide +kernel
theorem dX6_read_32 : decode cX6_read 32 = .ok (.aload_n 0, 1) := by decide +kernel
theorem dX6_read_33 : decode cX6_read 33 = .ok (.getfield 10, 3) := by decide +kernel
theorem dX6_read_36 : decode cX6_read 36 = .ok (.invokevirtual 55, 3) := by decide +kernel
theorem dX6_read_39 : decode cX6_read 39 = .ok (.aload_n 0, 1) := by decide +kernel
theorem dX6_read_40 : decode cX6_read 40 = .ok (.getfield 26, 3) := by decide +kernel
theorem dX6_read_43 : decode cX6_read 43 = .ok (.invokevirtual 74, 3) := by decide +kernel
theorem dX6_read_46 : decode cX6_read 46 = .ok (.aload_n 0, 1) := by decide +kernel
theorem dX6_read_47 : decode cX6_read 47 = .ok (.getfield 10, 3) := by decide +kernel
theorem dX6_read_50 : decode cX6_read 50 = .ok (.aload_n 0, 1) := by decide +kernel
theorem dX6_read_51 : decode cX6_read 51 = .ok (.getfield 33, 3) := by decide +kernel
theorem dX6_read_54 : decode cX6_read 54 = .ok (.invokevirtual 59, 3) := by decide +kernel
theorem dX6_read_57 : decode cX6_read 57 = .ok (.ireturn, 1) := by decide +kernel
theorem dX6_add_0 : decode cX6_add 0 = .ok (.aload_n 0, 1) := by decide +kernel
theorem dX6_add_1 : decode cX6_add 1 = .ok (.iload_n 1, 1) := by decide +kernel
theorem dX6_add_2 : decode cX6_add 2 = .ok (.invokevirtual 77, 3) := by decide +kernel
theorem dX6_add_5 : decode cX6_add 5 = .ok (.getfield 81, 3) := by decide +kernel
theorem dX6_add_8 : decode cX6_add 8 = .ok (.astore_n 3, 1) := by decide +kernel
theorem dX6_add_9 : decode cX6_add 9 = .ok (.iload_n 2, 1) := by decide +kernel
theorem dX6_add_10 : decode cX6_add 10 = .ok (.invokestatic 37, 3) := by decide +kernel
theorem dX6_add_13 : decode cX6_add 13 = .ok (.aload_n 3, 1) := by decide +kernel
theorem dX6_add_14 : decode cX6_add 14 = .ok (.iconst 1, 1) := by decide +kernel
theorem dX6_add_15 : decode cX6_add 15 = .ok (.invokevirtual 86, 3) := by decide +kernel
theorem dX6_add_18 : decode cX6_add 18 = .ok (.ifCond .ne 13, 3) := by decide +kernel
theorem dX6_add_21 : decode cX6_add 21 = .ok (.new 90, 3) := by decide +kernel
theorem dX6_add_24 : decode cX6_add 24 = .ok (.dup, 1) := by decide +kernel
theorem dX6_add_25 : decode cX6_add 25 = .ok (.ldc 92, 2) := by decide +kernel
theorem dX6_add_27 : decode cX6_add 27 = .ok (.invokespecial 94, 3) := by decide +kernel
theorem dX6_add_30 : decode cX6_add 30 = .ok (.athrow, 1) := by decide +kernel
theorem dX6_add_31 : decode cX6_add 31 = .ok (.aload_n 0, 1) := by decide +kernel
theorem dX6_add_32 : decode cX6_add 32 = .ok (.getfield 19, 3) := by decide +kernel
theorem dX6_add_35 : decode cX6_add 35 = .ok (.aload_n 0, 1) := by decide +kernel
theorem dX6_add_36 : decode cX6_add 36 = .ok (.getfield 10, 3) := by decide +kernel
theorem dX6_add_39 : decode cX6_add 39 = .ok (.invokevirtual 55, 3) := by decide +kernel
theorem dX6_add_42 : decode cX6_add 42 = .ok (.aload_n 3, 1) := by decide +kernel
theorem dX6_add_43 : decode cX6_add 43 = .ok (.iload_n 2, 1) := by decide +kernel
theorem dX6_add_44 : decode cX6_add 44 = .ok (.iconst 1, 1) := by decide +kernel
theorem dX6_add_45 : decode cX6_add 45 = .ok (.invokevirtual 51, 3) := by decide +kernel
theorem dX6_add_48 : decode cX6_add 48 = .ok (.pop, 1) := by decide +kernel
theorem dX6_add_49 : decode cX6_add 49 = .ok (.aload_n 3, 1) := by decide +kernel
theorem dX6_add_50 : decode cX6_add 50 = .ok (.invokevirtual 95, 3) := by decide +kernel
theorem dX6_add_53 : decode cX6_add 53 = .ok (.ireturn, 1) := by decide +kernel
theorem dX6_put_0 : decode cX6_put 0 = .ok (.aload_n 0, 1) := by decide +kernel
theorem dX6_put_1 : decode cX6_put 1 = .ok (.iload_n 1, 1) := by decide +kernel
theorem dX6_put_2 : decode cX6_put 2 = .ok (.iload_n 2, 1) := by decide +kernel
theorem dX6_put_3 : decode cX6_put 3 = .ok (.invokevirtual 99, 3) := by decide +kernel
theorem dX6_put_6 : decode cX6_put 6 = .ok (.getfield 81, 3) := by decide +kernel
theorem dX6_put_9 : decode cX6_put 9 = .ok (.astore 4, 2) := by decide +kernel
theorem dX6_put_11 : decode cX6_put 11 = .ok (.iload_n 3, 1) := by decide +kernel
theorem dX6_put_12 : decode cX6_put 12 = .ok (.invokestatic 37, 3) := by decide +kernel
theorem dX6_put_15 : decode cX6_put 15 = .ok (.aload_n 0, 1) := by decide +kernel
theorem dX6_put_16 : decode cX6_put 16 = .ok (.getfield 19, 3) := by decide +kernel
theorem dX6_put_19 : decode cX6_put 19 = .ok (.aload_n 0, 1) := by decide +kernel
theorem dX6_put_20 : decode cX6_put 20 = .ok (.getfield 10, 3) := by decide +kernel
theorem dX6_put_23 : decode cX6_put 23 = .ok (.invokevirtual 55, 3) := by decide +kernel
theorem dX6_put_26 : decode cX6_put 26 = .ok (.aload 4, 2) := by decide +kernel
theorem dX6_put_28 : decode cX6_put 28 = .ok (.iload_n 2, 1) := by decide +kernel
theorem dX6_put_29 : decode cX6_put 29 = .ok (.invokevirtual 103, 3) := by decide +kernel
theorem dX6_put_32 : decode cX6_put 32 = .ok (.istore 5, 2) := by decide +kernel
theorem dX6_put_34 : decode cX6_put 34 = .ok (.aload 4, 2) := by decide +kernel
theorem dX6_put_36 : decode cX6_put 36 = .ok (.iload_n 2, 1) := by decide +kernel
theorem dX6_put_37 : decode cX6_put 37 = .ok (.iload_n 3, 1) := by decide +kernel
theorem dX6_put_38 : decode cX6_put 38 = .ok (.invokevirtual 107, 3) := by decide +kernel
theorem dX6_put_41 : decode cX6_put 41 = .ok (.iload 5, 2) := by decide +kernel
theorem dX6_put_43 : decode cX6_put 43 = .ok (.ireturn, 1) := by decide +kernel
theorem dX6_take_0 : decode cX6_take 0 = .ok (.aload_n 0, 1) := by decide +kernel
theorem dX6_take_1 : decode cX6_take 1 = .ok (.iload_n 1, 1) := by decide +kernel
theorem dX6_take_2 : decode cX6_take 2 = .ok (.iload_n 2, 1) := by decide +kernel
theorem dX6_take_3 : decode cX6_take 3 = .ok (.invokevirtual 99, 3) := by decide +kernel
theorem dX6_take_6 : decode cX6_take 6 = .ok (.getfield 81, 3) := by decide +kernel
theorem dX6_take_9 : decode cX6_take 9 = .ok (.astore_n 3, 1) := by decide +kernel
theorem dX6_take_10 : decode cX6_take 10 = .ok (.aload_n 3, 1) := by decide +kernel
theorem dX6_take_11 : decode cX6_take 11 = .ok (.invokevirtual 95, 3) := by decide +kernel
theorem dX6_take_14 : decode cX6_take 14 = .ok (.iconst 1, 1) := by decide +kernel
theorem dX6_take_15 : decode cX6_take 15 = .ok (.if_icmp .gt 13, 3) := by decide +kernel
theorem dX6_take_18 : decode cX6_take 18 = .ok (.new 90, 3) := by decide +kernel
theorem dX6_take_21 : decode cX6_take 21 = .ok (.dup, 1) := by decide +kernel
theorem dX6_take_22 : decode cX6_take 22 = .ok (.ldc 111, 2) := by decide +kernel
theorem dX6_take_24 : decode cX6_take 24 = .ok (.invokespecial 94, 3) := by decide +kernel
theorem dX6_take_27 : decode cX6_take 27 = .ok (.athrow, 1) := by decide +kernel
theorem dX6_take_28 : decode cX6_take 28 = .ok (.aload_n 0, 1) := by decide +kernel
theorem dX6_take_29 : decode cX6_take 29 = .ok (.getfield 19, 3) := by decide +kernel
theorem dX6_take_32 : decode cX6_take 32 = .ok (.aload_n 0, 1) := by decide +kernel
theorem dX6_take_33 : decode cX6_take 33 = .ok (.getfield 10, 3) := by decide +kernel
theorem dX6_take_36 : decode cX6_take 36 = .ok (.invokevirtual 55, 3) := by decide +kernel
theorem dX6_take_39 : decode cX6_take 39 = .ok (.aload_n 3, 1) := by decide +kernel
theorem dX6_take_40 : decode cX6_take 40 = .ok (.iload_n 2, 1) := by decide +kernel
theorem dX6_take_41 : decode cX6_take 41 = .ok (.invokevirtual 103, 3) := by decide +kernel
theorem dX6_take_44 : decode cX6_take 44 = .ok (.istore 4, 2) := by decide +kernel
theorem dX6_take_46 : decode cX6_take 46 = .ok (.aload_n 3, 1) := by decide +kernel
theorem dX6_take_47 : decode cX6_take 47 = .ok (.iload_n 2, 1) := by decide +kernel
theorem dX6_take_48 : decode cX6_take 48 = .ok (.invokevirtual 113, 3) := by decide +kernel
theorem dX6_take_51 : decode cX6_take 51 = .ok (.iload 4, 2) := by decide +kernel
theorem dX6_take_53 : decode cX6_take 53 = .ok (.ireturn, 1) := by decide +kernel
theorem dX6_turn_0 : decode cX6_turn 0 = .ok (.aload_n 0, 1) := by decide +kernel
theorem dX6_turn_1 : decode cX6_turn 1 = .ok (.iload_n 1, 1) := by decide +kernel
theorem dX6_turn_2 : decode cX6_turn 2 = .ok (.invokevirtual 77, 3) := by decide +kernel
theorem dX6_turn_5 : decode cX6_turn 5 = .ok (.getfield 81, 3) := by decide +kernel
theorem dX6_turn_8 : decode cX6_turn 8 = .ok (.astore_n 2, 1) := by decide +kernel
theorem dX6_turn_9 : decode cX6_turn 9 = .ok (.aload_n 0, 1) := by decide +kernel
theorem dX6_turn_10 : decode cX6_turn 10 = .ok (.getfield 19, 3) := by decide +kernel
theorem dX6_turn_13 : decode cX6_turn 13 = .ok (.aload_n 0, 1) := by decide +kernel
theorem dX6_turn_14 : decode cX6_turn 14 = .ok (.getfield 10, 3) := by decide +kernel
theorem dX6_turn_17 : decode cX6_turn 17 = .ok (.invokevirtual 55, 3) := by decide +kernel
theorem dX6_turn_20 : decode cX6_turn 20 = .ok (.aload_n 2, 1) := by decide +kernel
theorem dX6_turn_21 : decode cX6_turn 21 = .ok (.invokevirtual 116, 3) := by decide +kernel
theorem dX6_turn_24 : decode cX6_turn 24 = .ok (.aload_n 2, 1) := by decide +kernel
theorem dX6_turn_25 : decode cX6_turn 25 = .ok (.iconst 0, 1) := by decide +kernel
theorem dX6_turn_26 : decode cX6_turn 26 = .ok (.invokevirtual 103, 3) := by decide +kernel
theorem dX6_turn_29 : decode cX6_turn 29 = .ok (.ireturn, 1) := by decide +kernel
theorem dX6_join_0 : decode cX6_join 0 = .ok (.aload_n 0, 1) := by decide +kernel
theorem dX6_join_1 : decode cX6_join 1 = .ok (.iload_n 1, 1) := by decide +kernel
theorem dX6_join_2 : decode cX6_join 2 = .ok (.invokevirtual 77, 3) := by decide +kernel
theorem dX6_join_5 : decode cX6_join 5 = .ok (.astore_n 3, 1) := by decide +kernel
theorem dX6_join_6 : decode cX6_join 6 = .ok (.aload_n 0, 1) := by decide +kernel
theorem dX6_join_7 : decode cX6_join 7 = .ok (.iload_n 2, 1) := by decide +kernel
theorem dX6_join_8 : decode cX6_join 8 = .ok (.invokevirtual 77, 3) := by decide +kernel
theorem dX6_join_11 : decode cX6_join 11 = .ok (.astore 4, 2) := by decide +kernel
theorem dX6_join_13 : decode cX6_join 13 = .ok (.iload_n 1, 1) := by decide +kernel
theorem dX6_join_14 : decode cX6_join 14 = .ok (.iload_n 2, 1) := by decide +kernel
theorem dX6_join_15 : decode cX6_join 15 = .ok (.if_icmp .ne 13, 3) := by decide +kernel
theorem dX6_join_18 : decode cX6_join 18 = .ok (.new 67, 3) := by decide +kernel
theorem dX6_join_21 : decode cX6_join 21 = .ok (.dup, 1) := by decide +kernel
theorem dX6_join_22 : decode cX6_join 22 = .ok (.ldc 119, 2) := by decide +kernel
theorem dX6_join_24 : decode cX6_join 24 = .ok (.invokespecial 71, 3) := by decide +kernel
theorem dX6_join_27 : decode cX6_join 27 = .ok (.athrow, 1) := by decide +kernel
theorem dX6_join_28 : decode cX6_join 28 = .ok (.aload_n 3, 1) := by decide +kernel
theorem dX6_join_29 : decode cX6_join 29 = .ok (.getfield 81, 3) := by decide +kernel
theorem dX6_join_32 : decode cX6_join 32 = .ok (.aload 4, 2) := by decide +kernel
theorem dX6_join_34 : decode cX6_join 34 = .ok (.getfield 81, 3) := by decide +kernel
theorem dX6_join_37 : decode cX6_join 37 = .ok (.invokevirtual 95, 3) := by decide +kernel
theorem dX6_join_40 : decode cX6_join 40 = .ok (.invokevirtual 86, 3) := by decide +kernel
theorem dX6_join_43 : decode cX6_join 43 = .ok (.ifCond .ne 13, 3) := by decide +kernel
theorem dX6_join_46 : decode cX6_join 46 = .ok (.new 90, 3) := by decide +kernel
theorem dX6_join_49 : decode cX6_join 49 = .ok (.dup, 1) := by decide +kernel
theorem dX6_join_50 : decode cX6_join 50 = .ok (.ldc 121, 2) := by decide +kernel
theorem dX6_join_52 : decode cX6_join 52 = .ok (.invokespecial 94, 3) := by decide +kernel
theorem dX6_join_55 : decode cX6_join 55 = .ok (.athrow, 1) := by decide +kernel
theorem dX6_join_56 : decode cX6_join 56 = .ok (.aload_n 0, 1) := by decide +kernel
theorem dX6_join_57 : decode cX6_join 57 = .ok (.getfield 19, 3) := by decide +kernel
theorem dX6_join_60 : decode cX6_join 60 = .ok (.aload_n 0, 1) := by decide +kernel
theorem dX6_join_61 : decode cX6_join 61 = .ok (.getfield 10, 3) := by decide +kernel
theorem dX6_join_64 : decode cX6_join 64 = .ok (.invokevirtual 55, 3) := by decide +kernel
theorem dX6_join_67 : decode cX6_join 67 = .ok (.aload_n 3, 1) := by decide +kernel
theorem dX6_join_68 : decode cX6_join 68 = .ok (.aload 4, 2) := by decide +kernel
theorem dX6_join_70 : decode cX6_join 70 = .ok (.invokevirtual 123, 3) := by decide +kernel
theorem dX6_join_73 : decode cX6_join 73 = .ok (.aload_n 0, 1) := by decide +kernel
theorem dX6_join_74 : decode cX6_join 74 = .ok (.getfield 10, 3) := by decide +kernel
theorem dX6_join_77 : decode cX6_join 77 = .ok (.iload_n 2, 1) := by decide +kernel
theorem dX6_join_78 : decode cX6_join 78 = .ok (.invokevirtual 127, 3) := by decide +kernel
theorem dX6_join_81 : decode cX6_join 81 = .ok (.iload_n 2, 1) := by decide +kernel
theorem dX6_join_82 : decode cX6_join 82 = .ok (.iload_n 1, 1) := by decide +kernel
theorem dX6_join_83 : decode cX6_join 83 = .ok (.if_icmp .ge 9, 3) := by decide +kernel
theorem dX6_join_86 : decode cX6_join 86 = .ok (.iload_n 1, 1) := by decide +kernel
theorem dX6_join_87 : decode cX6_join 87 = .ok (.iconst 1, 1) := by decide +kernel
theorem dX6_join_88 : decode cX6_join 88 = .ok (.isub, 1) := by decide +kernel
theorem dX6_join_89 : decode cX6_join 89 = .ok (.goto 4, 3) := by decide +kernel
theorem dX6_join_92 : decode cX6_join 92 = .ok (.iload_n 1, 1) := by decide +kernel
theorem dX6_join_93 : decode cX6_join 93 = .ok (.ireturn, 1) := by decide +kernel
theorem dX6_cut_0 : decode cX6_cut 0 = .ok (.aload_n 0, 1) := by decide +kernel
theorem dX6_cut_1 : decode cX6_cut 1 = .ok (.iload_n 1, 1) := by decide +kernel
theorem dX6_cut_2 : decode cX6_cut 2 = .ok (.iload_n 2, 1) := by decide +kernel
theorem dX6_cut_3 : decode cX6_cut 3 = .ok (.invokevirtual 99, 3) := by decide +kernel
theorem dX6_cut_6 : decode cX6_cut 6 = .ok (.getfield 81, 3) := by decide +kernel
theorem dX6_cut_9 : decode cX6_cut 9 = .ok (.astore_n 3, 1) := by decide +kernel
theorem dX6_cut_10 : decode cX6_cut 10 = .ok (.iload_n 2, 1) := by decide +kernel
theorem dX6_cut_11 : decode cX6_cut 11 = .ok (.iconst 1, 1) := by decide +kernel
theorem dX6_cut_12 : decode cX6_cut 12 = .ok (.if_icmp .ge 13, 3) := by decide +kernel
theorem dX6_cut_15 : decode cX6_cut 15 = .ok (.new 130, 3) := by decide +kernel
theorem dX6_cut_18 : decode cX6_cut 18 = .ok (.dup, 1) := by decide +kernel
theorem dX6_cut_19 : decode cX6_cut 19 = .ok (.ldc 132, 2) := by decide +kernel
theorem dX6_cut_21 : decode cX6_cut 21 = .ok (.invokespecial 134, 3) := by decide +kernel
theorem dX6_cut_24 : decode cX6_cut 24 = .ok (.athrow, 1) := by decide +kernel
theorem dX6_cut_25 : decode cX6_cut 25 = .ok (.aload_n 0, 1) := by decide +kernel
theorem dX6_cut_26 : decode cX6_cut 26 = .ok (.invokevirtual 45, 3) := by decide +kernel
theorem dX6_cut_29 : decode cX6_cut 29 = .ok (.aload_n 0, 1) := by decide +kernel
theorem dX6_cut_30 : decode cX6_cut 30 = .ok (.getfield 19, 3) := by decide +kernel
theorem dX6_cut_33 : decode cX6_cut 33 = .ok (.aload_n 0, 1) := by decide +kernel
theorem dX6_cut_34 : decode cX6_cut 34 = .ok (.getfield 10, 3) := by decide +kernel
theorem dX6_cut_37 : decode cX6_cut 37 = .ok (.invokevirtual 55, 3) := by decide +kernel
theorem dX6_cut_40 : decode cX6_cut 40 = .ok (.aload_n 0, 1) := by decide +kernel
theorem dX6_cut_41 : decode cX6_cut 41 = .ok (.getfield 33, 3) := by decide +kernel
theorem dX6_cut_44 : decode cX6_cut 44 = .ok (.invokevirtual 48, 3) := by decide +kernel
theorem dX6_cut_47 : decode cX6_cut 47 = .ok (.aload_n 0, 1) := by decide +kernel
theorem dX6_cut_48 : decode cX6_cut 48 = .ok (.getfield 33, 3) := by decide +kernel
theorem dX6_cut_51 : decode cX6_cut 51 = .ok (.aload_n 3, 1) := by decide +kernel
theorem dX6_cut_52 : decode cX6_cut 52 = .ok (.iload_n 2, 1) := by decide +kernel
theorem dX6_cut_53 : decode cX6_cut 53 = .ok (.invokevirtual 135, 3) := by decide +kernel
theorem dX6_cut_56 : decode cX6_cut 56 = .ok (.aload_n 3, 1) := by decide +kernel
theorem dX6_cut_57 : decode cX6_cut 57 = .ok (.iload_n 2, 1) := by decide +kernel
theorem dX6_cut_58 : decode cX6_cut 58 = .ok (.invokevirtual 139, 3) := by decide +kernel
theorem dX6_cut_61 : decode cX6_cut 61 = .ok (.aload_n 0, 1) := by decide +kernel
theorem dX6_cut_62 : decode cX6_cut 62 = .ok (.getfield 10, 3) := by decide +kernel
theorem dX6_cut_65 : decode cX6_cut 65 = .ok (.aload_n 0, 1) := by decide +kernel
theorem dX6_cut_66 : decode cX6_cut 66 = .ok (.getfield 33, 3) := by decide +kernel
theorem dX6_cut_69 : decode cX6_cut 69 = .ok (.invokevirtual 59, 3) := by decide +kernel
theorem dX6_cut_72 : decode cX6_cut 72 = .ok (.ireturn, 1) := by decide +kernel
theorem dX6_pass_0 : decode cX6_pass 0 = .ok (.iload_n 1, 1) := by decide +kernel
theorem dX6_pass_1 : decode cX6_pass 1 = .ok (.iconst 1, 1) := by decide +kernel
theorem dX6_pass_2 : decode cX6_pass 2 = .ok (.bipush 100, 2) := by decide +kernel
theorem dX6_pass_4 : decode cX6_pass 4 = .ok (.invokestatic 41, 3) := by decide +kernel
theorem dX6_pass_7 : decode cX6_pass 7 = .ok (.aload_n 0, 1) := by decide +kernel
theorem dX6_pass_8 : decode cX6_pass 8 = .ok (.getfield 10, 3) := by decide +kernel
theorem dX6_pass_11 : decode cX6_pass 11 = .ok (.getfield 142, 3) := by decide +kernel
theorem dX6_pass_14 : decode cX6_pass 14 = .ok (.iload_n 1, 1) := by decide +kernel
theorem dX6_pass_15 : decode cX6_pass 15 = .ok (.iadd, 1) := by decide +kernel
theorem dX6_pass_16 : decode cX6_pass 16 = .ok (.sipush 5000, 3) := by decide +kernel
theorem dX6_pass_19 : decode cX6_pass 19 = .ok (.if_icmp .le 13, 3) := by decide +kernel
theorem dX6_pass_22 : decode cX6_pass 22 = .ok (.new 90, 3) := by decide +kernel
theorem dX6_pass_25 : decode cX6_pass 25 = .ok (.dup, 1) := by decide +kernel
theorem dX6_pass_26 : decode cX6_pass 26 = .ok (.ldc 146, 2) := by decide +kernel
theorem dX6_pass_28 : decode cX6_pass 28 = .ok (.invokespecial 94, 3) := by decide +kernel
theorem dX6_pass_31 : decode cX6_pass 31 = .ok (.athrow, 1) := by decide +kernel
theorem dX6_pass_32 : decode cX6_pass 32 = .ok (.aload_n 0, 1) := by decide +kernel
theorem dX6_pass_33 : decode cX6_pass 33 = .ok (.getfield 19, 3) := by decide +kernel
theorem dX6_pass_36 : decode cX6_pass 36 = .ok (.aload_n 0, 1) := by decide +kernel
theorem dX6_pass_37 : decode cX6_pass 37 = .ok (.getfield 10, 3) := by decide +kernel
theorem dX6_pass_40 : decode cX6_pass 40 = .ok (.invokevirtual 55, 3) := by decide +kernel
theorem dX6_pass_43 : decode cX6_pass 43 = .ok (.iconst 0, 1) := by decide +kernel
theorem dX6_pass_44 : decode cX6_pass 44 = .ok (.istore_n 2, 1) := by decide +kernel
theorem dX6_pass_45 : decode cX6_pass 45 = .ok (.iconst 0, 1) := by decide +kernel
theorem dX6_pass_46 : decode cX6_pass 46 = .ok (.istore_n 3, 1) := by decide +kernel
theorem dX6_pass_47 : decode cX6_pass 47 = .ok (.iload_n 3, 1) := by decide +kernel
theorem dX6_pass_48 : decode cX6_pass 48 = .ok (.iload_n 1, 1) := by decide +kernel
theorem dX6_pass_49 : decode cX6_pass 49 = .ok (.if_icmp .ge 19, 3) := by decide +kernel
theorem dX6_pass_52 : decode cX6_pass 52 = .ok (.iload_n 2, 1) := by decide +kernel
theorem dX6_pass_53 : decode cX6_pass 53 = .ok (.aload_n 0, 1) := by decide +kernel
theorem dX6_pass_54 : decode cX6_pass 54 = .ok (.getfield 10, 3) := by decide +kernel
theorem dX6_pass_57 : decode cX6_pass 57 = .ok (.invokevirtual 148, 3) := by decide +kernel
theorem dX6_pass_60 : decode cX6_pass 60 = .ok (.iadd, 1) := by decide +kernel
theorem dX6_pass_61 : decode cX6_pass 61 = .ok (.istore_n 2, 1) := by decide +kernel
theorem dX6_pass_62 : decode cX6_pass 62 = .ok (.iinc 3 1, 3) := by decide +kernel
theorem dX6_pass_65 : decode cX6_pass 65 = .ok (.goto (-18), 3) := by decide +kernel
theorem dX6_pass_68 : decode cX6_pass 68 = .ok (.iload_n 2, 1) := by decide +kernel
theorem dX6_pass_69 : decode cX6_pass 69 = .ok (.ireturn, 1) := by decide +kernel
theorem dX6_breakVow_0 : decode cX6_breakVow 0 = .ok (.aload_n 0, 1) := by decide +kernel
theorem dX6_breakVow_1 : decode cX6_breakVow 1 = .ok (.iload_n 1, 1) := by decide +kernel
theorem dX6_breakVow_2 : decode cX6_breakVow 2 = .ok (.invokevirtual 77, 3) := by decide +kernel
theorem dX6_breakVow_5 : decode cX6_breakVow 5 = .ok (.astore_n 2, 1) := by decide +kernel
theorem dX6_breakVow_6 : decode cX6_breakVow 6 = .ok (.aload_n 0, 1) := by decide +kernel
theorem dX6_breakVow_7 : decode cX6_breakVow 7 = .ok (.getfield 19, 3) := by decide +kernel
theorem dX6_breakVow_10 : decode cX6_breakVow 10 = .ok (.aload_n 0, 1) := by decide +kernel
theorem dX6_breakVow_11 : decode cX6_breakVow 11 = .ok (.getfield 10, 3) := by decide +kernel
theorem dX6_breakVow_14 : decode cX6_breakVow 14 = .ok (.invokevirtual 55, 3) := by decide +kernel
theorem dX6_breakVow_17 : decode cX6_breakVow 17 = .ok (.aload_n 0, 1) := by decide +kernel
theorem dX6_breakVow_18 : decode cX6_breakVow 18 = .ok (.aload_n 2, 1) := by decide +kernel
theorem dX6_breakVow_19 : decode cX6_breakVow 19 = .ok (.invokevirtual 151, 3) := by decide +kernel
theorem dX6_breakVow_22 : decode cX6_breakVow 22 = .ok (.istore_n 3, 1) := by decide +kernel
theorem dX6_breakVow_23 : decode cX6_breakVow 23 = .ok (.aload_n 2, 1) := by decide +kernel
theorem dX6_breakVow_24 : decode cX6_breakVow 24 = .ok (.dup, 1) := by decide +kernel
theorem dX6_breakVow_25 : decode cX6_breakVow 25 = .ok (.getfield 155, 3) := by decide +kernel
theorem dX6_breakVow_28 : decode cX6_breakVow 28 = .ok (.iload_n 3, 1) := by decide +kernel
theorem dX6_breakVow_29 : decode cX6_breakVow 29 = .ok (.iadd, 1) := by decide +kernel
theorem dX6_breakVow_30 : decode cX6_breakVow 30 = .ok (.putfield 155, 3) := by decide +kernel
theorem dX6_breakVow_33 : decode cX6_breakVow 33 = .ok (.aload_n 2, 1) := by decide +kernel
theorem dX6_breakVow_34 : decode cX6_breakVow 34 = .ok (.aload_n 0, 1) := by decide +kernel
theorem dX6_breakVow_35 : decode cX6_breakVow 35 = .ok (.getfield 10, 3) := by decide +kernel
theorem dX6_breakVow_38 : decode cX6_breakVow 38 = .ok (.getfield 142, 3) := by decide +kernel
theorem dX6_breakVow_41 : decode cX6_breakVow 41 = .ok (.invokevirtual 158, 3) := by decide +kernel
theorem dX6_breakVow_44 : decode cX6_breakVow 44 = .ok (.iload_n 3, 1) := by decide +kernel
theorem dX6_breakVow_45 : decode cX6_breakVow 45 = .ok (.ireturn, 1) := by decide +kernel
theorem dX6_ask_0 : decode cX6_ask 0 = .ok (.aload_n 0, 1) := by decide +kernel
theorem dX6_ask_1 : decode cX6_ask 1 = .ok (.iload_n 1, 1) := by decide +kernel
theorem dX6_ask_2 : decode cX6_ask 2 = .ok (.invokevirtual 77, 3) := by decide +kernel
theorem dX6_ask_5 : decode cX6_ask 5 = .ok (.astore 4, 2) := by decide +kernel
theorem dX6_ask_7 : decode cX6_ask 7 = .ok (.iload_n 2, 1) := by decide +kernel
theorem dX6_ask_8 : decode cX6_ask 8 = .ok (.iload_n 3, 1) := by decide +kernel
theorem dX6_ask_9 : decode cX6_ask 9 = .ok (.invokestatic 161, 3) := by decide +kernel
theorem dX6_ask_12 : decode cX6_ask 12 = .ok (.aload_n 0, 1) := by decide +kernel
theorem dX6_ask_13 : decode cX6_ask 13 = .ok (.getfield 19, 3) := by decide +kernel
theorem dX6_ask_16 : decode cX6_ask 16 = .ok (.aload_n 0, 1) := by decide +kernel
theorem dX6_ask_17 : decode cX6_ask 17 = .ok (.getfield 10, 3) := by decide +kernel
theorem dX6_ask_20 : decode cX6_ask 20 = .ok (.invokevirtual 55, 3) := by decide +kernel
theorem dX6_ask_23 : decode cX6_ask 23 = .ok (.aload 4, 2) := by decide +kernel
theorem dX6_ask_25 : decode cX6_ask 25 = .ok (.dup, 1) := by decide +kernel
theorem dX6_ask_26 : decode cX6_ask 26 = .ok (.getfield 164, 3) := by decide +kernel
theorem dX6_ask_29 : decode cX6_ask 29 = .ok (.iconst 1, 1) := by decide +kernel
theorem dX6_ask_30 : decode cX6_ask 30 = .ok (.iadd, 1) := by decide +kernel
theorem dX6_ask_31 : decode cX6_ask 31 = .ok (.putfield 164, 3) := by decide +kernel
theorem dX6_ask_34 : decode cX6_ask 34 = .ok (.aload 4, 2) := by decide +kernel
theorem dX6_ask_36 : decode cX6_ask 36 = .ok (.dup, 1) := by decide +kernel
theorem dX6_ask_37 : decode cX6_ask 37 = .ok (.getfield 167, 3) := by decide +kernel
theorem dX6_ask_40 : decode cX6_ask 40 = .ok (.aload 4, 2) := by decide +kernel
theorem dX6_ask_42 : decode cX6_ask 42 = .ok (.getfield 81, 3) := by decide +kernel
theorem dX6_ask_45 : decode cX6_ask 45 = .ok (.aload 4, 2) := by decide +kernel
theorem dX6_ask_47 : decode cX6_ask 47 = .ok (.getfield 170, 3) := by decide +kernel
theorem dX6_ask_50 : decode cX6_ask 50 = .ok (.iload_n 2, 1) := by decide +kernel
theorem dX6_ask_51 : decode cX6_ask 51 = .ok (.iload_n 3, 1) := by decide +kernel
theorem dX6_ask_52 : decode cX6_ask 52 = .ok (.invokestatic 173, 3) := by decide +kernel
theorem dX6_ask_55 : decode cX6_ask 55 = .ok (.iadd, 1) := by decide +kernel
theorem dX6_ask_56 : decode cX6_ask 56 = .ok (.putfield 167, 3) := by decide +kernel
theorem dX6_ask_59 : decode cX6_ask 59 = .ok (.aload 4, 2) := by decide +kernel
theorem dX6_ask_61 : decode cX6_ask 61 = .ok (.getfield 81, 3) := by decide +kernel
theorem dX6_ask_64 : decode cX6_ask 64 = .ok (.iload_n 2, 1) := by decide +kernel
theorem dX6_ask_65 : decode cX6_ask 65 = .ok (.iload_n 3, 1) := by decide +kernel
theorem dX6_ask_66 : decode cX6_ask 66 = .ok (.invokestatic 179, 3) := by decide +kernel
theorem dX6_ask_69 : decode cX6_ask 69 = .ok (.ireturn, 1) := by decide +kernel
theorem dX6_set_0 : decode cX6_set 0 = .ok (.aload_n 0, 1) := by decide +kernel
theorem dX6_set_1 : decode cX6_set 1 = .ok (.iload_n 1, 1) := by decide +kernel
theorem dX6_set_2 : decode cX6_set 2 = .ok (.invokevirtual 183, 3) := by decide +kernel
theorem dX6_set_5 : decode cX6_set 5 = .ok (.istore_n 3, 1) := by decide +kernel
theorem dX6_set_6 : decode cX6_set 6 = .ok (.iload_n 1, 1) := by decide +kernel
theorem dX6_set_7 : decode cX6_set 7 = .ok (.ifCond .ne 14, 3) := by decide +kernel
theorem dX6_set_10 : decode cX6_set 10 = .ok (.iload_n 2, 1) := by decide +kernel
theorem dX6_set_11 : decode cX6_set 11 = .ok (.iconst 1, 1) := by decide +kernel
theorem dX6_set_12 : decode cX6_set 12 = .ok (.sipush 400, 3) := by decide +kernel
theorem dX6_set_15 : decode cX6_set 15 = .ok (.invokestatic 41, 3) := by decide +kernel
theorem dX6_set_18 : decode cX6_set 18 = .ok (.goto 10, 3) := by decide +kernel
theorem dX6_set_21 : decode cX6_set 21 = .ok (.iload_n 2, 1) := by decide +kernel
theorem dX6_set_22 : decode cX6_set 22 = .ok (.iconst 0, 1) := by decide +kernel
theorem dX6_set_23 : decode cX6_set 23 = .ok (.bipush 100, 2) := by decide +kernel
theorem dX6_set_25 : decode cX6_set 25 = .ok (.invokestatic 41, 3) := by decide +kernel
theorem dX6_set_28 : decode cX6_set 28 = .ok (.aload_n 0, 1) := by decide +kernel
theorem dX6_set_29 : decode cX6_set 29 = .ok (.getfield 19, 3) := by decide +kernel
theorem dX6_set_32 : decode cX6_set 32 = .ok (.aload_n 0, 1) := by decide +kernel
theorem dX6_set_33 : decode cX6_set 33 = .ok (.getfield 10, 3) := by decide +kernel
theorem dX6_set_36 : decode cX6_set 36 = .ok (.invokevirtual 55, 3) := by decide +kernel
theorem dX6_set_39 : decode cX6_set 39 = .ok (.iload_n 1, 1) := by decide +kernel
theorem dX6_set_40 : decode cX6_set 40 = .ok (.ifCond .ne 14, 3) := by decide +kernel
theorem dX6_set_43 : decode cX6_set 43 = .ok (.aload_n 0, 1) := by decide +kernel
theorem dX6_set_44 : decode cX6_set 44 = .ok (.getfield 10, 3) := by decide +kernel
theorem dX6_set_47 : decode cX6_set 47 = .ok (.iload_n 2, 1) := by decide +kernel
theorem dX6_set_48 : decode cX6_set 48 = .ok (.putfield 186, 3) := by decide +kernel
theorem dX6_set_51 : decode cX6_set 51 = .ok (.goto 11, 3) := by decide +kernel
theorem dX6_set_54 : decode cX6_set 54 = .ok (.aload_n 0, 1) := by decide +kernel
theorem dX6_set_55 : decode cX6_set 55 = .ok (.getfield 10, 3) := by decide +kernel
theorem dX6_set_58 : decode cX6_set 58 = .ok (.iload_n 2, 1) := by decide +kernel
theorem dX6_set_59 : decode cX6_set 59 = .ok (.putfield 189, 3) := by decide +kernel
theorem dX6_set_62 : decode cX6_set 62 = .ok (.iload_n 3, 1) := by decide +kernel
theorem dX6_set_63 : decode cX6_set 63 = .ok (.ireturn, 1) := by decide +kernel
theorem dX6_append_0 : decode cX6_append 0 = .ok (.iload_n 1, 1) := by decide +kernel
theorem dX6_append_1 : decode cX6_append 1 = .ok (.bipush 33, 2) := by decide +kernel
theorem dX6_append_3 : decode cX6_append 3 = .ok (.bipush 126, 2) := by decide +kernel
theorem dX6_append_5 : decode cX6_append 5 = .ok (.invokestatic 41, 3) := by decide +kernel
theorem dX6_append_8 : decode cX6_append 8 = .ok (.aload_n 0, 1) := by decide +kernel
theorem dX6_append_9 : decode cX6_append 9 = .ok (.getfield 26, 3) := by decide +kernel
theorem dX6_append_12 : decode cX6_append 12 = .ok (.invokevirtual 192, 3) := by decide +kernel
theorem dX6_append_15 : decode cX6_append 15 = .ok (.ifCond .eq 13, 3) := by decide +kernel
theorem dX6_append_18 : decode cX6_append 18 = .ok (.new 90, 3) := by decide +kernel
theorem dX6_append_21 : decode cX6_append 21 = .ok (.dup, 1) := by decide +kernel
theorem dX6_append_22 : decode cX6_append 22 = .ok (.ldc 196, 2) := by decide +kernel
theorem dX6_append_24 : decode cX6_append 24 = .ok (.invokespecial 94, 3) := by decide +kernel
theorem dX6_append_27 : decode cX6_append 27 = .ok (.athrow, 1) := by decide +kernel
theorem dX6_append_28 : decode cX6_append 28 = .ok (.aload_n 0, 1) := by decide +kernel
theorem dX6_append_29 : decode cX6_append 29 = .ok (.getfield 26, 3) := by decide +kernel
theorem dX6_append_32 : decode cX6_append 32 = .ok (.iload_n 1, 1) := by decide +kernel
theorem dX6_append_33 : decode cX6_append 33 = .ok (.invokevirtual 198, 3) := by decide +kernel
theorem dX6_append_36 : decode cX6_append 36 = .ok (.aload_n 0, 1) := by decide +kernel
theorem dX6_append_37 : decode cX6_append 37 = .ok (.getfield 26, 3) := by decide +kernel
theorem dX6_append_40 : decode cX6_append 40 = .ok (.invokevirtual 200, 3) := by decide +kernel
theorem dX6_append_43 : decode cX6_append 43 = .ok (.ireturn, 1) := by decide +kernel
theorem dX6_clearBuffer_0 : decode cX6_clearBuffer 0 = .ok (.aload_n 0, 1) := by decide +kernel
theorem dX6_clearBuffer_1 : decode cX6_clearBuffer 1 = .ok (.getfield 26, 3) := by decide +kernel
theorem dX6_clearBuffer_4 : decode cX6_clearBuffer 4 = .ok (.invokevirtual 200, 3) := by decide +kernel
theorem dX6_clearBuffer_7 : decode cX6_clearBuffer 7 = .ok (.istore_n 1, 1) := by decide +kernel
theorem dX6_clearBuffer_8 : decode cX6_clearBuffer 8 = .ok (.aload_n 0, 1) := by decide +kernel
theorem dX6_clearBuffer_9 : decode cX6_clearBuffer 9 = .ok (.getfield 26, 3) := by decide +kernel
theorem dX6_clearBuffer_12 : decode cX6_clearBuffer 12 = .ok (.invokevirtual 74, 3) := by decide +kernel
theorem dX6_clearBuffer_15 : decode cX6_clearBuffer 15 = .ok (.iload_n 1, 1) := by decide +kernel
theorem dX6_clearBuffer_16 : decode cX6_clearBuffer 16 = .ok (.ireturn, 1) := by decide +kernel
theorem dX6_firstError_0 : decode cX6_firstError 0 = .ok (.aload_n 0, 1) := by decide +kernel
theorem dX6_firstError_1 : decode cX6_firstError 1 = .ok (.getfield 26, 3) := by decide +kernel
theorem dX6_firstError_4 : decode cX6_firstError 4 = .ok (.invokevirtual 203, 3) := by decide +kernel
theorem dX6_firstError_7 : decode cX6_firstError 7 = .ok (.ireturn, 1) := by decide +kernel
theorem dX6_undo_0 : decode cX6_undo 0 = .ok (.aload_n 0, 1) := by decide +kernel
theorem dX6_undo_1 : decode cX6_undo 1 = .ok (.getfield 19, 3) := by decide +kernel
theorem dX6_undo_4 : decode cX6_undo 4 = .ok (.invokevirtual 206, 3) := by decide +kernel
theorem dX6_undo_7 : decode cX6_undo 7 = .ok (.ifCond .ne 13, 3) := by decide +kernel
theorem dX6_undo_10 : decode cX6_undo 10 = .ok (.new 90, 3) := by decide +kernel
theorem dX6_undo_13 : decode cX6_undo 13 = .ok (.dup, 1) := by decide +kernel
theorem dX6_undo_14 : decode cX6_undo 14 = .ok (.ldc 207, 2) := by decide +kernel
theorem dX6_undo_16 : decode cX6_undo 16 = .ok (.invokespecial 94, 3) := by decide +kernel
theorem dX6_undo_19 : decode cX6_undo 19 = .ok (.athrow, 1) := by decide +kernel
theorem dX6_undo_20 : decode cX6_undo 20 = .ok (.aload_n 0, 1) := by decide +kernel
theorem dX6_undo_21 : decode cX6_undo 21 = .ok (.getfield 19, 3) := by decide +kernel
theorem dX6_undo_24 : decode cX6_undo 24 = .ok (.aload_n 0, 1) := by decide +kernel
theorem dX6_undo_25 : decode cX6_undo 25 = .ok (.getfield 10, 3) := by decide +kernel
theorem dX6_undo_28 : decode cX6_undo 28 = .ok (.invokevirtual 209, 3) := by decide +kernel
theorem dX6_undo_31 : decode cX6_undo 31 = .ok (.aload_n 0, 1) := by decide +kernel
theorem dX6_undo_32 : decode cX6_undo 32 = .ok (.getfield 19, 3) := by decide +kernel
theorem dX6_undo_35 : decode cX6_undo 35 = .ok (.invokevirtual 206, 3) := by decide +kernel
theorem dX6_undo_38 : decode cX6_undo 38 = .ok (.ireturn, 1) := by decide +kernel
theorem dX6_block_0 : decode cX6_block 0 = .ok (.aload_n 0, 1) := by decide +kernel
theorem dX6_block_1 : decode cX6_block 1 = .ok (.iload_n 1, 1) := by decide +kernel
theorem dX6_block_2 : decode cX6_block 2 = .ok (.invokevirtual 77, 3) := by decide +kernel
theorem dX6_block_5 : decode cX6_block 5 = .ok (.astore_n 3, 1) := by decide +kernel
theorem dX6_block_6 : decode cX6_block 6 = .ok (.iload_n 2, 1) := by decide +kernel
theorem dX6_block_7 : decode cX6_block 7 = .ok (.iconst 0, 1) := by decide +kernel
theorem dX6_block_8 : decode cX6_block 8 = .ok (.bipush 11, 2) := by decide +kernel
theorem dX6_block_10 : decode cX6_block 10 = .ok (.invokestatic 41, 3) := by decide +kernel
theorem dX6_block_13 : decode cX6_block 13 = .ok (.aload_n 0, 1) := by decide +kernel
theorem dX6_block_14 : decode cX6_block 14 = .ok (.aload_n 3, 1) := by decide +kernel
theorem dX6_block_15 : decode cX6_block 15 = .ok (.iload_n 2, 1) := by decide +kernel
theorem dX6_block_16 : decode cX6_block 16 = .ok (.invokevirtual 212, 3) := by decide +kernel
theorem dX6_block_19 : decode cX6_block 19 = .ok (.ireturn, 1) := by decide +kernel
theorem dX6_value_0 : decode cX6_value 0 = .ok (.aload_n 0, 1) := by decide +kernel
theorem dX6_value_1 : decode cX6_value 1 = .ok (.iload_n 1, 1) := by decide +kernel
theorem dX6_value_2 : decode cX6_value 2 = .ok (.iload_n 2, 1) := by decide +kernel
theorem dX6_value_3 : decode cX6_value 3 = .ok (.invokevirtual 99, 3) := by decide +kernel
theorem dX6_value_6 : decode cX6_value 6 = .ok (.getfield 81, 3) := by decide +kernel
theorem dX6_value_9 : decode cX6_value 9 = .ok (.iload_n 2, 1) := by decide +kernel
theorem dX6_value_10 : decode cX6_value 10 = .ok (.invokevirtual 103, 3) := by decide +kernel
theorem dX6_value_13 : decode cX6_value 13 = .ok (.ireturn, 1) := by decide +kernel
theorem dX6_count_0 : decode cX6_count 0 = .ok (.iload_n 1, 1) := by decide +kernel
theorem dX6_count_1 : decode cX6_count 1 = .ok (.iconst 0, 1) := by decide +kernel
theorem dX6_count_2 : decode cX6_count 2 = .ok (.bipush 15, 2) := by decide +kernel
theorem dX6_count_4 : decode cX6_count 4 = .ok (.invokestatic 41, 3) := by decide +kernel
theorem dX6_count_7 : decode cX6_count 7 = .ok (.aload_n 0, 1) := by decide +kernel
theorem dX6_count_8 : decode cX6_count 8 = .ok (.iload_n 1, 1) := by decide +kernel
theorem dX6_count_9 : decode cX6_count 9 = .ok (.invokevirtual 216, 3) := by decide +kernel
theorem dX6_count_12 : decode cX6_count 12 = .ok (.ireturn, 1) := by decide +kernel
theorem dX6_setting_0 : decode cX6_setting 0 = .ok (.aload_n 0, 1) := by decide +kernel
theorem dX6_setting_1 : decode cX6_setting 1 = .ok (.iload_n 1, 1) := by decide +kernel
theorem dX6_setting_2 : decode cX6_setting 2 = .ok (.invokevirtual 183, 3) := by decide +kernel
theorem dX6_setting_5 : decode cX6_setting 5 = .ok (.ireturn, 1) := by decide +kernel
theorem dX6_cost_0 : decode cX6_cost 0 = .ok (.aload_n 0, 1) := by decide +kernel
theorem dX6_cost_1 : decode cX6_cost 1 = .ok (.iload_n 1, 1) := by decide +kernel
theorem dX6_cost_2 : decode cX6_cost 2 = .ok (.invokevirtual 77, 3) := by decide +kernel
theorem dX6_cost_5 : decode cX6_cost 5 = .ok (.astore_n 3, 1) := by decide +kernel
theorem dX6_cost_6 : decode cX6_cost 6 = .ok (.iload_n 2, 1) := by decide +kernel
theorem dX6_cost_7 : decode cX6_cost 7 = .ok (.iconst 0, 1) := by decide +kernel
theorem dX6_cost_8 : decode cX6_cost 8 = .ok (.iconst 5, 1) := by decide +kernel
theorem dX6_cost_9 : decode cX6_cost 9 = .ok (.invokestatic 41, 3) := by decide +kernel
theorem dX6_cost_12 : decode cX6_cost 12 = .ok (.aload_n 3, 1) := by decide +kernel
theorem dX6_cost_13 : decode cX6_cost 13 = .ok (.getfield 81, 3) := by decide +kernel
theorem dX6_cost_16 : decode cX6_cost 16 = .ok (.iload_n 2, 1) := by decide +kernel
theorem dX6_cost_17 : decode cX6_cost 17 = .ok (.invokestatic 219, 3) := by decide +kernel
theorem dX6_cost_20 : decode cX6_cost 20 = .ok (.ireturn, 1) := by decide +kernel
theorem dX6_work_0 : decode cX6_work 0 = .ok (.aload_n 0, 1) := by decide +kernel
theorem dX6_work_1 : decode cX6_work 1 = .ok (.iload_n 1, 1) := by decide +kernel
theorem dX6_work_2 : decode cX6_work 2 = .ok (.invokevirtual 77, 3) := by decide +kernel
theorem dX6_work_5 : decode cX6_work 5 = .ok (.astore 5, 2) := by decide +kernel
theorem dX6_work_7 : decode cX6_work 7 = .ok (.iload_n 2, 1) := by decide +kernel
theorem dX6_work_8 : decode cX6_work 8 = .ok (.iconst 0, 1) := by decide +kernel
theorem dX6_work_9 : decode cX6_work 9 = .ok (.iconst 5, 1) := by decide +kernel
theorem dX6_work_10 : decode cX6_work 10 = .ok (.invokestatic 41, 3) := by decide +kernel
theorem dX6_work_13 : decode cX6_work 13 = .ok (.iload_n 3, 1) := by decide +kernel
theorem dX6_work_14 : decode cX6_work 14 = .ok (.iload 4, 2) := by decide +kernel
theorem dX6_work_16 : decode cX6_work 16 = .ok (.invokestatic 161, 3) := by decide +kernel
theorem dX6_work_19 : decode cX6_work 19 = .ok (.aload 5, 2) := by decide +kernel
theorem dX6_work_21 : decode cX6_work 21 = .ok (.getfield 81, 3) := by decide +kernel
theorem dX6_work_24 : decode cX6_work 24 = .ok (.iload_n 2, 1) := by decide +kernel
theorem dX6_work_25 : decode cX6_work 25 = .ok (.iload_n 3, 1) := by decide +kernel
theorem dX6_work_26 : decode cX6_work 26 = .ok (.iload 4, 2) := by decide +kernel
theorem dX6_work_28 : decode cX6_work 28 = .ok (.invokestatic 173, 3) := by decide +kernel
theorem dX6_work_31 : decode cX6_work 31 = .ok (.ireturn, 1) := by decide +kernel
theorem dX6_regretIn_0 : decode cX6_regretIn 0 = .ok (.aload_n 0, 1) := by decide +kernel
theorem dX6_regretIn_1 : decode cX6_regretIn 1 = .ok (.iload_n 1, 1) := by decide +kernel
theorem dX6_regretIn_2 : decode cX6_regretIn 2 = .ok (.invokevirtual 77, 3) := by decide +kernel
theorem dX6_regretIn_5 : decode cX6_regretIn 5 = .ok (.astore_n 3, 1) := by decide +kernel
theorem dX6_regretIn_6 : decode cX6_regretIn 6 = .ok (.iload_n 2, 1) := by decide +kernel
theorem dX6_regretIn_7 : decode cX6_regretIn 7 = .ok (.iconst 0, 1) := by decide +kernel
theorem dX6_regretIn_8 : decode cX6_regretIn 8 = .ok (.sipush 200, 3) := by decide +kernel
theorem dX6_regretIn_11 : decode cX6_regretIn 11 = .ok (.invokestatic 41, 3) := by decide +kernel
theorem dX6_regretIn_14 : decode cX6_regretIn 14 = .ok (.aload_n 0, 1) := by decide +kernel
theorem dX6_regretIn_15 : decode cX6_regretIn 15 = .ok (.aload_n 3, 1) := by decide +kernel
theorem dX6_regretIn_16 : decode cX6_regretIn 16 = .ok (.iload_n 2, 1) := by decide +kernel
theorem dX6_regretIn_17 : decode cX6_regretIn 17 = .ok (.invokevirtual 223, 3) := by decide +kernel
theorem dX6_regretIn_20 : decode cX6_regretIn 20 = .ok (.ireturn, 1) := by decide +kernel
theorem dX6_gain_0 : decode cX6_gain 0 = .ok (.aload_n 0, 1) := by decide +kernel
theorem dX6_gain_1 : decode cX6_gain 1 = .ok (.aload_n 0, 1) := by decide +kernel
theorem dX6_gain_2 : decode cX6_gain 2 = .ok (.iload_n 1, 1) := by decide +kernel
theorem dX6_gain_3 : decode cX6_gain 3 = .ok (.invokevirtual 77, 3) := by decide +kernel
theorem dX6_gain_6 : decode cX6_gain 6 = .ok (.invokevirtual 226, 3) := by decide +kernel
theorem dX6_gain_9 : decode cX6_gain 9 = .ok (.ireturn, 1) := by decide +kernel
theorem dX6_cheapest_0 : decode cX6_cheapest 0 = .ok (.aload_n 0, 1) := by decide +kernel
theorem dX6_cheapest_1 : decode cX6_cheapest 1 = .ok (.aload_n 0, 1) := by decide +kernel
theorem dX6_cheapest_2 : decode cX6_cheapest 2 = .ok (.iload_n 1, 1) := by decide +kernel
theorem dX6_cheapest_3 : decode cX6_cheapest 3 = .ok (.iload_n 2, 1) := by decide +kernel
theorem dX6_cheapest_4 : decode cX6_cheapest 4 = .ok (.invokevirtual 99, 3) := by decide +kernel
theorem dX6_cheapest_7 : decode cX6_cheapest 7 = .ok (.iload_n 2, 1) := by decide +kernel
theorem dX6_cheapest_8 : decode cX6_cheapest 8 = .ok (.invokevirtual 229, 3) := by decide +kernel
theorem dX6_cheapest_11 : decode cX6_cheapest 11 = .ok (.ireturn, 1) := by decide +kernel
theorem dX6_mate_0 : decode cX6_mate 0 = .ok (.aload_n 0, 1) := by decide +kernel
theorem dX6_mate_1 : decode cX6_mate 1 = .ok (.aload_n 0, 1) := by decide +kernel
theorem dX6_mate_2 : decode cX6_mate 2 = .ok (.iload_n 1, 1) := by decide +kernel
theorem dX6_mate_3 : decode cX6_mate 3 = .ok (.invokevirtual 77, 3) := by decide +kernel
theorem dX6_mate_6 : decode cX6_mate 6 = .ok (.invokevirtual 232, 3) := by decide +kernel
theorem dX6_mate_9 : decode cX6_mate 9 = .ok (.ireturn, 1) := by decide +kernel
theorem dX6_meanBits_0 : decode cX6_meanBits 0 = .ok (.aload_n 0, 1) := by decide +kernel
theorem dX6_meanBits_1 : decode cX6_meanBits 1 = .ok (.iconst 0, 1) := by decide +kernel
theorem dX6_meanBits_2 : decode cX6_meanBits 2 = .ok (.invokevirtual 235, 3) := by decide +kernel
theorem dX6_meanBits_5 : decode cX6_meanBits 5 = .ok (.istore_n 1, 1) := by decide +kernel
theorem dX6_meanBits_6 : decode cX6_meanBits 6 = .ok (.iload_n 1, 1) := by decide +kernel
theorem dX6_meanBits_7 : decode cX6_meanBits 7 = .ok (.ifCond .ne 7, 3) := by decide +kernel
theorem dX6_meanBits_10 : decode cX6_meanBits 10 = .ok (.dconst 0, 1) := by decide +kernel
theorem dX6_meanBits_11 : decode cX6_meanBits 11 = .ok (.goto 12, 3) := by decide +kernel
theorem dX6_meanBits_14 : decode cX6_meanBits 14 = .ok (.aload_n 0, 1) := by decide +kernel
theorem dX6_meanBits_15 : decode cX6_meanBits 15 = .ok (.iconst 2, 1) := by decide +kernel
theorem dX6_meanBits_16 : decode cX6_meanBits 16 = .ok (.invokevirtual 235, 3) := by decide +kernel
theorem dX6_meanBits_19 : decode cX6_meanBits 19 = .ok (.i2d, 1) := by decide +kernel
theorem dX6_meanBits_20 : decode cX6_meanBits 20 = .ok (.iload_n 1, 1) := by decide +kernel
theorem dX6_meanBits_21 : decode cX6_meanBits 21 = .ok (.i2d, 1) := by decide +kernel
theorem dX6_meanBits_22 : decode cX6_meanBits 22 = .ok (.ddiv, 1) := by decide +kernel
theorem dX6_meanBits_23 : decode cX6_meanBits 23 = .ok (.dreturn, 1) := by decide +kernel
theorem dX6_digest_0 : decode cX6_digest 0 = .ok (.ldc2_w 238, 3) := by decide +kernel
theorem dX6_digest_3 : decode cX6_digest 3 = .ok (.lstore_n 1, 1) := by decide +kernel
theorem dX6_digest_4 : decode cX6_digest 4 = .ok (.iconst 0, 1) := by decide +kernel
theorem dX6_digest_5 : decode cX6_digest 5 = .ok (.istore_n 3, 1) := by decide +kernel
theorem dX6_digest_6 : decode cX6_digest 6 = .ok (.iload_n 3, 1) := by decide +kernel
theorem dX6_digest_7 : decode cX6_digest 7 = .ok (.bipush 16, 2) := by decide +kernel
theorem dX6_digest_9 : decode cX6_digest 9 = .ok (.if_icmp .ge 20, 3) := by decide +kernel
theorem dX6_digest_12 : decode cX6_digest 12 = .ok (.lload_n 1, 1) := by decide +kernel
theorem dX6_digest_13 : decode cX6_digest 13 = .ok (.aload_n 0, 1) := by decide +kernel
theorem dX6_digest_14 : decode cX6_digest 14 = .ok (.iload_n 3, 1) := by decide +kernel
theorem dX6_digest_15 : decode cX6_digest 15 = .ok (.invokevirtual 216, 3) := by decide +kernel
theorem dX6_digest_18 : decode cX6_digest 18 = .ok (.i2l, 1) := by decide +kernel
theorem dX6_digest_19 : decode cX6_digest 19 = .ok (.invokestatic 240, 3) := by decide +kernel
theorem dX6_digest_22 : decode cX6_digest 22 = .ok (.lstore_n 1, 1) := by decide +kernel
theorem dX6_digest_23 : decode cX6_digest 23 = .ok (.iinc 3 1, 3) := by decide +kernel
theorem dX6_digest_26 : decode cX6_digest 26 = .ok (.goto (-20), 3) := by decide +kernel
theorem dX6_digest_29 : decode cX6_digest 29 = .ok (.lload_n 1, 1) := by decide +kernel
theorem dX6_digest_30 : decode cX6_digest 30 = .ok (.aload_n 0, 1) := by decide +kernel
theorem dX6_digest_31 : decode cX6_digest 31 = .ok (.getfield 10, 3) := by decide +kernel
theorem dX6_digest_34 : decode cX6_digest 34 = .ok (.getfield 186, 3) := by decide +kernel
theorem dX6_digest_37 : decode cX6_digest 37 = .ok (.i2l, 1) := by decide +kernel
theorem dX6_digest_38 : decode cX6_digest 38 = .ok (.invokestatic 240, 3) := by decide +kernel
theorem dX6_digest_41 : decode cX6_digest 41 = .ok (.lstore_n 1, 1) := by decide +kernel
theorem dX6_digest_42 : decode cX6_digest 42 = .ok (.lload_n 1, 1) := by decide +kernel
theorem dX6_digest_43 : decode cX6_digest 43 = .ok (.aload_n 0, 1) := by decide +kernel
theorem dX6_digest_44 : decode cX6_digest 44 = .ok (.getfield 10, 3) := by decide +kernel
theorem dX6_digest_47 : decode cX6_digest 47 = .ok (.getfield 189, 3) := by decide +kernel
theorem dX6_digest_50 : decode cX6_digest 50 = .ok (.i2l, 1) := by decide +kernel
theorem dX6_digest_51 : decode cX6_digest 51 = .ok (.invokestatic 240, 3) := by decide +kernel
theorem dX6_digest_54 : decode cX6_digest 54 = .ok (.lstore_n 1, 1) := by decide +kernel
theorem dX6_digest_55 : decode cX6_digest 55 = .ok (.iconst 0, 1) := by decide +kernel
theorem dX6_digest_56 : decode cX6_digest 56 = .ok (.istore_n 3, 1) := by decide +kernel
theorem dX6_digest_57 : decode cX6_digest 57 = .ok (.iload_n 3, 1) := by decide +kernel
theorem dX6_digest_58 : decode cX6_digest 58 = .ok (.aload_n 0, 1) := by decide +kernel
theorem dX6_digest_59 : decode cX6_digest 59 = .ok (.getfield 10, 3) := by decide +kernel
theorem dX6_digest_62 : decode cX6_digest 62 = .ok (.invokevirtual 244, 3) := by decide +kernel
theorem dX6_digest_65 : decode cX6_digest 65 = .ok (.if_icmp .ge 23, 3) := by decide +kernel
theorem dX6_digest_68 : decode cX6_digest 68 = .ok (.aload_n 0, 1) := by decide +kernel
theorem dX6_digest_69 : decode cX6_digest 69 = .ok (.lload_n 1, 1) := by decide +kernel
theorem dX6_digest_70 : decode cX6_digest 70 = .ok (.aload_n 0, 1) := by decide +kernel
theorem dX6_digest_71 : decode cX6_digest 71 = .ok (.getfield 10, 3) := by decide +kernel
theorem dX6_digest_74 : decode cX6_digest 74 = .ok (.iload_n 3, 1) := by decide +kernel
theorem dX6_digest_75 : decode cX6_digest 75 = .ok (.invokevirtual 245, 3) := by decide +kernel
theorem dX6_digest_78 : decode cX6_digest 78 = .ok (.invokevirtual 247, 3) := by decide +kernel
theorem dX6_digest_81 : decode cX6_digest 81 = .ok (.lstore_n 1, 1) := by decide +kernel
theorem dX6_digest_82 : decode cX6_digest 82 = .ok (.iinc 3 1, 3) := by decide +kernel
theorem dX6_digest_85 : decode cX6_digest 85 = .ok (.goto (-28), 3) := by decide +kernel
theorem dX6_digest_88 : decode cX6_digest 88 = .ok (.lload_n 1, 1) := by decide +kernel
theorem dX6_digest_89 : decode cX6_digest 89 = .ok (.aload_n 0, 1) := by decide +kernel
theorem dX6_digest_90 : decode cX6_digest 90 = .ok (.invokevirtual 251, 3) := by decide +kernel
theorem dX6_digest_93 : decode cX6_digest 93 = .ok (.invokestatic 255, 3) := by decide +kernel
theorem dX6_digest_96 : decode cX6_digest 96 = .ok (.invokestatic 240, 3) := by decide +kernel
theorem dX6_digest_99 : decode cX6_digest 99 = .ok (.lstore_n 1, 1) := by decide +kernel
theorem dX6_digest_100 : decode cX6_digest 100 = .ok (.lload_n 1, 1) := by decide +kernel
theorem dX6_digest_101 : decode cX6_digest 101 = .ok (.aload_n 0, 1) := by decide +kernel
theorem dX6_digest_102 : decode cX6_digest 102 = .ok (.getfield 26, 3) := by decide +kernel
theorem dX6_digest_105 : decode cX6_digest 105 = .ok (.invokevirtual 200, 3) := by decide +kernel
theorem dX6_digest_108 : decode cX6_digest 108 = .ok (.i2l, 1) := by decide +kernel
theorem dX6_digest_109 : decode cX6_digest 109 = .ok (.invokestatic 240, 3) := by decide +kernel
theorem dX6_digest_112 : decode cX6_digest 112 = .ok (.lstore_n 1, 1) := by decide +kernel
theorem dX6_digest_113 : decode cX6_digest 113 = .ok (.iconst 0, 1) := by decide +kernel
theorem dX6_digest_114 : decode cX6_digest 114 = .ok (.istore_n 3, 1) := by decide +kernel
theorem dX6_digest_115 : decode cX6_digest 115 = .ok (.iload_n 3, 1) := by decide +kernel
theorem dX6_digest_116 : decode cX6_digest 116 = .ok (.aload_n 0, 1) := by decide +kernel
theorem dX6_digest_117 : decode cX6_digest 117 = .ok (.getfield 26, 3) := by decide +kernel
theorem dX6_digest_120 : decode cX6_digest 120 = .ok (.invokevirtual 200, 3) := by decide +kernel
theorem dX6_digest_123 : decode cX6_digest 123 = .ok (.if_icmp .ge 23, 3) := by decide +kernel
theorem dX6_digest_126 : decode cX6_digest 126 = .ok (.lload_n 1, 1) := by decide +kernel
theorem dX6_digest_127 : decode cX6_digest 127 = .ok (.aload_n 0, 1) := by decide +kernel
theorem dX6_digest_128 : decode cX6_digest 128 = .ok (.getfield 26, 3) := by decide +kernel
theorem dX6_digest_131 : decode cX6_digest 131 = .ok (.iload_n 3, 1) := by decide +kernel
theorem dX6_digest_132 : decode cX6_digest 132 = .ok (.invokevirtual 259, 3) := by decide +kernel
theorem dX6_digest_135 : decode cX6_digest 135 = .ok (.i2l, 1) := by decide +kernel
theorem dX6_digest_136 : decode cX6_digest 136 = .ok (.invokestatic 240, 3) := by decide +kernel
theorem dX6_digest_139 : decode cX6_digest 139 = .ok (.lstore_n 1, 1) := by decide +kernel
theorem dX6_digest_140 : decode cX6_digest 140 = .ok (.iinc 3 1, 3) := by decide +kernel
theorem dX6_digest_143 : decode cX6_digest 143 = .ok (.goto (-28), 3) := by decide +kernel
theorem dX6_digest_146 : decode cX6_digest 146 = .ok (.lload_n 1, 1) := by decide +kernel
theorem dX6_digest_147 : decode cX6_digest 147 = .ok (.lreturn, 1) := by decide +kernel
theorem dX6_find_0 : decode cX6_find 0 = .ok (.aload_n 0, 1) := by decide +kernel
theorem dX6_find_1 : decode cX6_find 1 = .ok (.getfield 10, 3) := by decide +kernel
theorem dX6_find_4 : decode cX6_find 4 = .ok (.iload_n 1, 1) := by decide +kernel
theorem dX6_find_5 : decode cX6_find 5 = .ok (.invokevirtual 262, 3) := by decide +kernel
theorem dX6_find_8 : decode cX6_find 8 = .ok (.ifCond .ne 14, 3) := by decide +kernel
theorem dX6_find_11 : decode cX6_find 11 = .ok (.new 130, 3) := by decide +kernel
theorem dX6_find_14 : decode cX6_find 14 = .ok (.dup, 1) := by decide +kernel
theorem dX6_find_15 : decode cX6_find 15 = .ok (.ldc_w 265, 3) := by decide +kernel
theorem dX6_find_18 : decode cX6_find 18 = .ok (.invokespecial 134, 3) := by decide +kernel
theorem dX6_find_21 : decode cX6_find 21 = .ok (.athrow, 1) := by decide +kernel
theorem dX6_find_22 : decode cX6_find 22 = .ok (.aload_n 0, 1) := by decide +kernel
theorem dX6_find_23 : decode cX6_find 23 = .ok (.getfield 10, 3) := by decide +kernel
theorem dX6_find_26 : decode cX6_find 26 = .ok (.iload_n 1, 1) := by decide +kernel
theorem dX6_find_27 : decode cX6_find 27 = .ok (.invokevirtual 245, 3) := by decide +kernel
theorem dX6_find_30 : decode cX6_find 30 = .ok (.areturn, 1) := by decide +kernel
theorem dX6_findWithPlace_0 : decode cX6_findWithPlace 0 = .ok (.aload_n 0, 1) := by decide +kernel
theorem dX6_findWithPlace_1 : decode cX6_findWithPlace 1 = .ok (.iload_n 1, 1) := by decide +kernel
theorem dX6_findWithPlace_2 : decode cX6_findWithPlace 2 = .ok (.invokevirtual 77, 3) := by decide +kernel
theorem dX6_findWithPlace_5 : decode cX6_findWithPlace 5 = .ok (.astore_n 3, 1) := by decide +kernel
theorem dX6_findWithPlace_6 : decode cX6_findWithPlace 6 = .ok (.aload_n 3, 1) := by decide +kernel
theorem dX6_findWithPlace_7 : decode cX6_findWithPlace 7 = .ok (.getfield 81, 3) := by decide +kernel
theorem dX6_findWithPlace_10 : decode cX6_findWithPlace 10 = .ok (.iload_n 2, 1) := by decide +kernel
theorem dX6_findWithPlace_11 : decode cX6_findWithPlace 11 = .ok (.invokevirtual 267, 3) := by decide +kernel
theorem dX6_findWithPlace_14 : decode cX6_findWithPlace 14 = .ok (.ifCond .ne 14, 3) := by decide +kernel
theorem dX6_findWithPlace_17 : decode cX6_findWithPlace 17 = .ok (.new 130, 3) := by decide +kernel
theorem dX6_findWithPlace_20 : decode cX6_findWithPlace 20 = .ok (.dup, 1) := by decide +kernel
theorem dX6_findWithPlace_21 : decode cX6_findWithPlace 21 = .ok (.ldc_w 268, 3) := by decide +kernel
theorem dX6_findWithPlace_24 : decode cX6_findWithPlace 24 = .ok (.invokespecial 134, 3) := by decide +kernel
theorem dX6_findWithPlace_27 : decode cX6_findWithPlace 27 = .ok (.athrow, 1) := by decide +kernel
theorem dX6_findWithPlace_28 : decode cX6_findWithPlace 28 = .ok (.aload_n 3, 1) := by decide +kernel
theorem dX6_findWithPlace_29 : decode cX6_findWithPlace 29 = .ok (.areturn, 1) := by decide +kernel
theorem dX6_settingAt_0 : decode cX6_settingAt 0 = .ok (.iload_n 1, 1) := by decide +kernel
theorem dX6_settingAt_1 : decode cX6_settingAt 1 = .ok (.ifCond .eq 19, 3) := by decide +kernel
theorem dX6_settingAt_4 : decode cX6_settingAt 4 = .ok (.iload_n 1, 1) := by decide +kernel
theorem dX6_settingAt_5 : decode cX6_settingAt 5 = .ok (.iconst 1, 1) := by decide +kernel
theorem dX6_settingAt_6 : decode cX6_settingAt 6 = .ok (.if_icmp .eq 14, 3) := by decide +kernel
theorem dX6_settingAt_9 : decode cX6_settingAt 9 = .ok (.new 130, 3) := by decide +kernel
theorem dX6_settingAt_12 : decode cX6_settingAt 12 = .ok (.dup, 1) := by decide +kernel
theorem dX6_settingAt_13 : decode cX6_settingAt 13 = .ok (.ldc_w 270, 3) := by decide +kernel
theorem dX6_settingAt_16 : decode cX6_settingAt 16 = .ok (.invokespecial 134, 3) := by decide +kernel
theorem dX6_settingAt_19 : decode cX6_settingAt 19 = .ok (.athrow, 1) := by decide +kernel
theorem dX6_settingAt_20 : decode cX6_settingAt 20 = .ok (.iload_n 1, 1) := by decide +kernel
theorem dX6_settingAt_21 : decode cX6_settingAt 21 = .ok (.ifCond .ne 13, 3) := by decide +kernel
theorem dX6_settingAt_24 : decode cX6_settingAt 24 = .ok (.aload_n 0, 1) := by decide +kernel
theorem dX6_settingAt_25 : decode cX6_settingAt 25 = .ok (.getfield 10, 3) := by decide +kernel
theorem dX6_settingAt_28 : decode cX6_settingAt 28 = .ok (.getfield 186, 3) := by decide +kernel
theorem dX6_settingAt_31 : decode cX6_settingAt 31 = .ok (.goto 10, 3) := by decide +kernel
theorem dX6_settingAt_34 : decode cX6_settingAt 34 = .ok (.aload_n 0, 1) := by decide +kernel
theorem dX6_settingAt_35 : decode cX6_settingAt 35 = .ok (.getfield 10, 3) := by decide +kernel
theorem dX6_settingAt_38 : decode cX6_settingAt 38 = .ok (.getfield 189, 3) := by decide +kernel
theorem dX6_settingAt_41 : decode cX6_settingAt 41 = .ok (.ireturn, 1) := by decide +kernel
theorem dX6_requireRoomForBlock_0 : decode cX6_requireRoomForBlock 0 = .ok (.aload_n 0, 1) := by decide +kernel
theorem dX6_requireRoomForBlock_1 : decode cX6_requireRoomForBlock 1 = .ok (.getfield 10, 3) := by decide +kernel
theorem dX6_requireRoomForBlock_4 : decode cX6_requireRoomForBlock 4 = .ok (.invokevirtual 272, 3) := by decide +kernel
theorem dX6_requireRoomForBlock_7 : decode cX6_requireRoomForBlock 7 = .ok (.ifCond .eq 14, 3) := by decide +kernel
theorem dX6_requireRoomForBlock_10 : decode cX6_requireRoomForBlock 10 = .ok (.new 90, 3) := by decide +kernel
theorem dX6_requireRoomForBlock_13 : decode cX6_requireRoomForBlock 13 = .ok (.dup, 1) := by decide +kernel
theorem dX6_requireRoomForBlock_14 : decode cX6_requireRoomForBlock 14 = .ok (.ldc_w 273, 3) := by decide +kernel
theorem dX6_requireRoomForBlock_17 : decode cX6_requireRoomForBlock 17 = .ok (.invokespecial 94, 3) := by decide +kernel
theorem dX6_requireRoomForBlock_20 : decode cX6_requireRoomForBlock 20 = .ok (.athrow, 1) := by decide +kernel
theorem dX6_requireRoomForBlock_21 : decode cX6_requireRoomForBlock 21 = .ok (.return_, 1) := by decide +kernel
theorem dX6_requireWithin_0 : decode cX6_requireWithin 0 = .ok (.iload_n 0, 1) := by decide +kernel
theorem dX6_requireWithin_1 : decode cX6_requireWithin 1 = .ok (.iload_n 1, 1) := by decide +kernel
theorem dX6_requireWithin_2 : decode cX6_requireWithin 2 = .ok (.if_icmp .lt 8, 3) := by decide +kernel
theorem dX6_requireWithin_5 : decode cX6_requireWithin 5 = .ok (.iload_n 0, 1) := by decide +kernel
theorem dX6_requireWithin_6 : decode cX6_requireWithin 6 = .ok (.iload_n 2, 1) := by decide +kernel
theorem dX6_requireWithin_7 : decode cX6_requireWithin 7 = .ok (.if_icmp .le 14, 3) := by decide +kernel
theorem dX6_requireWithin_10 : decode cX6_requireWithin 10 = .ok (.new 67, 3) := by decide +kernel
theorem dX6_requireWithin_13 : decode cX6_requireWithin 13 = .ok (.dup, 1) := by decide +kernel
theorem dX6_requireWithin_14 : decode cX6_requireWithin 14 = .ok (.ldc_w 275, 3) := by decide +kernel
theorem dX6_requireWithin_17 : decode cX6_requireWithin 17 = .ok (.invokespecial 71, 3) := by decide +kernel
theorem dX6_requireWithin_20 : decode cX6_requireWithin 20 = .ok (.athrow, 1) := by decide +kernel
theorem dX6_requireWithin_21 : decode cX6_requireWithin 21 = .ok (.return_, 1) := by decide +kernel
theorem dX6_requireValue_0 : decode cX6_requireValue 0 = .ok (.iload_n 0, 1) := by decide +kernel
theorem dX6_requireValue_1 : decode cX6_requireValue 1 = .ok (.iconst 0, 1) := by decide +kernel
theorem dX6_requireValue_2 : decode cX6_requireValue 2 = .ok (.sipush 255, 3) := by decide +kernel
theorem dX6_requireValue_5 : decode cX6_requireValue 5 = .ok (.invokestatic 41, 3) := by decide +kernel
theorem dX6_requireValue_8 : decode cX6_requireValue 8 = .ok (.return_, 1) := by decide +kernel
theorem dX6_requireQuestion_0 : decode cX6_requireQuestion 0 = .ok (.iload_n 0, 1) := by decide +kernel
theorem dX6_requireQuestion_1 : decode cX6_requireQuestion 1 = .ok (.iconst 0, 1) := by decide +kernel
theorem dX6_requireQuestion_2 : decode cX6_requireQuestion 2 = .ok (.iconst 2, 1) := by decide +kernel
theorem dX6_requireQuestion_3 : decode cX6_requireQuestion 3 = .ok (.invokestatic 41, 3) := by decide +kernel
theorem dX6_requireQuestion_6 : decode cX6_requireQuestion 6 = .ok (.iload_n 1, 1) := by decide +kernel
theorem dX6_requireQuestion_7 : decode cX6_requireQuestion 7 = .ok (.invokestatic 37, 3) := by decide +kernel
theorem dX6_requireQuestion_10 : decode cX6_requireQuestion 10 = .ok (.return_, 1) := by decide +kernel
theorem dX6_propertyOf_0 : decode cX6_propertyOf 0 = .ok (.iload_n 2, 1) := by decide +kernel
theorem dX6_propertyOf_1 : decode cX6_propertyOf 1 = .ok (.tableswitch 144 0 10 #[59, 67, 72, 84, 89, 94, 99, 104, 109, 117, 132], 59) := by decide +kernel
theorem dX6_propertyOf_60 : decode cX6_propertyOf 60 = .ok (.aload_n 1, 1) := by decide +kernel
theorem dX6_propertyOf_61 : decode cX6_propertyOf 61 = .ok (.getfield 81, 3) := by decide +kernel
theorem dX6_propertyOf_64 : decode cX6_propertyOf 64 = .ok (.invokevirtual 95, 3) := by decide +kernel
theorem dX6_propertyOf_67 : decode cX6_propertyOf 67 = .ok (.ireturn, 1) := by decide +kernel
theorem dX6_propertyOf_68 : decode cX6_propertyOf 68 = .ok (.aload_n 1, 1) := by decide +kernel
theorem dX6_propertyOf_69 : decode cX6_propertyOf 69 = .ok (.getfield 170, 3) := by decide +kernel
theorem dX6_propertyOf_72 : decode cX6_propertyOf 72 = .ok (.ireturn, 1) := by decide +kernel
theorem dX6_propertyOf_73 : decode cX6_propertyOf 73 = .ok (.aload_n 1, 1) := by decide +kernel
theorem dX6_propertyOf_74 : decode cX6_propertyOf 74 = .ok (.getfield 81, 3) := by decide +kernel
theorem dX6_propertyOf_77 : decode cX6_propertyOf 77 = .ok (.aload_n 1, 1) := by decide +kernel
theorem dX6_propertyOf_78 : decode cX6_propertyOf 78 = .ok (.getfield 170, 3) := by decide +kernel
theorem dX6_propertyOf_81 : decode cX6_propertyOf 81 = .ok (.invokestatic 219, 3) := by decide +kernel
theorem dX6_propertyOf_84 : decode cX6_propertyOf 84 = .ok (.ireturn, 1) := by decide +kernel
theorem dX6_propertyOf_85 : decode cX6_propertyOf 85 = .ok (.aload_n 1, 1) := by decide +kernel
theorem dX6_propertyOf_86 : decode cX6_propertyOf 86 = .ok (.getfield 277, 3) := by decide +kernel
theorem dX6_propertyOf_89 : decode cX6_propertyOf 89 = .ok (.ireturn, 1) := by decide +kernel
theorem dX6_propertyOf_90 : decode cX6_propertyOf 90 = .ok (.aload_n 1, 1) := by decide +kernel
theorem dX6_propertyOf_91 : decode cX6_propertyOf 91 = .ok (.getfield 280, 3) := by decide +kernel
theorem dX6_propertyOf_94 : decode cX6_propertyOf 94 = .ok (.ireturn, 1) := by decide +kernel
theorem dX6_propertyOf_95 : decode cX6_propertyOf 95 = .ok (.aload_n 1, 1) := by decide +kernel
theorem dX6_propertyOf_96 : decode cX6_propertyOf 96 = .ok (.getfield 167, 3) := by decide +kernel
theorem dX6_propertyOf_99 : decode cX6_propertyOf 99 = .ok (.ireturn, 1) := by decide +kernel
theorem dX6_propertyOf_100 : decode cX6_propertyOf 100 = .ok (.aload_n 1, 1) := by decide +kernel
theorem dX6_propertyOf_101 : decode cX6_propertyOf 101 = .ok (.getfield 164, 3) := by decide +kernel
theorem dX6_propertyOf_104 : decode cX6_propertyOf 104 = .ok (.ireturn, 1) := by decide +kernel
theorem dX6_propertyOf_105 : decode cX6_propertyOf 105 = .ok (.aload_n 1, 1) := by decide +kernel
theorem dX6_propertyOf_106 : decode cX6_propertyOf 106 = .ok (.getfield 155, 3) := by decide +kernel
theorem dX6_propertyOf_109 : decode cX6_propertyOf 109 = .ok (.ireturn, 1) := by decide +kernel
theorem dX6_propertyOf_110 : decode cX6_propertyOf 110 = .ok (.aload_n 1, 1) := by decide +kernel
theorem dX6_propertyOf_111 : decode cX6_propertyOf 111 = .ok (.getfield 81, 3) := by decide +kernel
theorem dX6_propertyOf_114 : decode cX6_propertyOf 114 = .ok (.invokestatic 283, 3) := by decide +kernel
theorem dX6_propertyOf_117 : decode cX6_propertyOf 117 = .ok (.ireturn, 1) := by decide +kernel
theorem dX6_propertyOf_118 : decode cX6_propertyOf 118 = .ok (.aload_n 1, 1) := by decide +kernel
theorem dX6_propertyOf_119 : decode cX6_propertyOf 119 = .ok (.getfield 81, 3) := by decide +kernel
theorem dX6_propertyOf_122 : decode cX6_propertyOf 122 = .ok (.aload_n 1, 1) := by decide +kernel
theorem dX6_propertyOf_123 : decode cX6_propertyOf 123 = .ok (.getfield 81, 3) := by decide +kernel
theorem dX6_propertyOf_126 : decode cX6_propertyOf 126 = .ok (.invokestatic 283, 3) := by decide +kernel
theorem dX6_propertyOf_129 : decode cX6_propertyOf 129 = .ok (.invokestatic 219, 3) := by decide +kernel
theorem dX6_propertyOf_132 : decode cX6_propertyOf 132 = .ok (.ireturn, 1) := by decide +kernel
theorem dX6_propertyOf_133 : decode cX6_propertyOf 133 = .ok (.aload_n 0, 1) := by decide +kernel
theorem dX6_propertyOf_134 : decode cX6_propertyOf 134 = .ok (.getfield 10, 3) := by decide +kernel
theorem dX6_propertyOf_137 : decode cX6_propertyOf 137 = .ok (.aload_n 1, 1) := by decide +kernel
theorem dX6_propertyOf_138 : decode cX6_propertyOf 138 = .ok (.getfield 81, 3) := by decide +kernel
theorem dX6_propertyOf_141 : decode cX6_propertyOf 141 = .ok (.invokevirtual 286, 3) := by decide +kernel
theorem dX6_propertyOf_144 : decode cX6_propertyOf 144 = .ok (.ireturn, 1) := by decide +kernel
theorem dX6_propertyOf_145 : decode cX6_propertyOf 145 = .ok (.aload_n 1, 1) := by decide +kernel
theorem dX6_propertyOf_146 : decode cX6_propertyOf 146 = .ok (.getfield 289, 3) := by decide +kernel
theorem dX6_propertyOf_149 : decode cX6_propertyOf 149 = .ok (.ireturn, 1) := by decide +kernel
theorem dX6_countOf_0 : decode cX6_countOf 0 = .ok (.iload_n 1, 1) := by decide +kernel
theorem dX6_countOf_1 : decode cX6_countOf 1 = .ok (.tableswitch 125 0 9 #[55, 63, 71, 77, 83, 90, 96, 102, 109, 117], 55) := by decide +kernel
theorem dX6_countOf_56 : decode cX6_countOf 56 = .ok (.aload_n 0, 1) := by decide +kernel
theorem dX6_countOf_57 : decode cX6_countOf 57 = .ok (.getfield 10, 3) := by decide +kernel
theorem dX6_countOf_60 : decode cX6_countOf 60 = .ok (.invokevirtual 244, 3) := by decide +kernel
theorem dX6_countOf_63 : decode cX6_countOf 63 = .ok (.ireturn, 1) := by decide +kernel
theorem dX6_countOf_64 : decode cX6_countOf 64 = .ok (.aload_n 0, 1) := by decide +kernel
theorem dX6_countOf_65 : decode cX6_countOf 65 = .ok (.getfield 10, 3) := by decide +kernel
theorem dX6_countOf_68 : decode cX6_countOf 68 = .ok (.getfield 142, 3) := by decide +kernel
theorem dX6_countOf_71 : decode cX6_countOf 71 = .ok (.ireturn, 1) := by decide +kernel
theorem dX6_countOf_72 : decode cX6_countOf 72 = .ok (.aload_n 0, 1) := by decide +kernel
theorem dX6_countOf_73 : decode cX6_countOf 73 = .ok (.iconst 0, 1) := by decide +kernel
theorem dX6_countOf_74 : decode cX6_countOf 74 = .ok (.invokevirtual 235, 3) := by decide +kernel
theorem dX6_countOf_77 : decode cX6_countOf 77 = .ok (.ireturn, 1) := by decide +kernel
theorem dX6_countOf_78 : decode cX6_countOf 78 = .ok (.aload_n 0, 1) := by decide +kernel
theorem dX6_countOf_79 : decode cX6_countOf 79 = .ok (.iconst 2, 1) := by decide +kernel
theorem dX6_countOf_80 : decode cX6_countOf 80 = .ok (.invokevirtual 235, 3) := by decide +kernel
theorem dX6_countOf_83 : decode cX6_countOf 83 = .ok (.ireturn, 1) := by decide +kernel
theorem dX6_countOf_84 : decode cX6_countOf 84 = .ok (.aload_n 0, 1) := by decide +kernel
theorem dX6_countOf_85 : decode cX6_countOf 85 = .ok (.bipush 9, 2) := by decide +kernel
theorem dX6_countOf_87 : decode cX6_countOf 87 = .ok (.invokevirtual 235, 3) := by decide +kernel
theorem dX6_countOf_90 : decode cX6_countOf 90 = .ok (.ireturn, 1) := by decide +kernel
theorem dX6_countOf_91 : decode cX6_countOf 91 = .ok (.aload_n 0, 1) := by decide +kernel
theorem dX6_countOf_92 : decode cX6_countOf 92 = .ok (.iconst 4, 1) := by decide +kernel
theorem dX6_countOf_93 : decode cX6_countOf 93 = .ok (.invokevirtual 235, 3) := by decide +kernel
theorem dX6_countOf_96 : decode cX6_countOf 96 = .ok (.ireturn, 1) := by decide +kernel
theorem dX6_countOf_97 : decode cX6_countOf 97 = .ok (.aload_n 0, 1) := by decide +kernel
theorem dX6_countOf_98 : decode cX6_countOf 98 = .ok (.iconst 5, 1) := by decide +kernel
theorem dX6_countOf_99 : decode cX6_countOf 99 = .ok (.invokevirtual 235, 3) := by decide +kernel
theorem dX6_countOf_102 : decode cX6_countOf 102 = .ok (.ireturn, 1) := by decide +kernel
theorem dX6_countOf_103 : decode cX6_countOf 103 = .ok (.aload_n 0, 1) := by decide +kernel
theorem dX6_countOf_104 : decode cX6_countOf 104 = .ok (.bipush 7, 2) := by decide +kernel
theorem dX6_countOf_106 : decode cX6_countOf 106 = .ok (.invokevirtual 235, 3) := by decide +kernel
theorem dX6_countOf_109 : decode cX6_countOf 109 = .ok (.ireturn, 1) := by decide +kernel
theorem dX6_countOf_110 : decode cX6_countOf 110 = .ok (.aload_n 0, 1) := by decide +kernel
theorem dX6_countOf_111 : decode cX6_countOf 111 = .ok (.getfield 10, 3) := by decide +kernel
theorem dX6_countOf_114 : decode cX6_countOf 114 = .ok (.invokevirtual 292, 3) := by decide +kernel
theorem dX6_countOf_117 : decode cX6_countOf 117 = .ok (.ireturn, 1) := by decide +kernel
theorem dX6_countOf_118 : decode cX6_countOf 118 = .ok (.aload_n 0, 1) := by decide +kernel
theorem dX6_countOf_119 : decode cX6_countOf 119 = .ok (.getfield 19, 3) := by decide +kernel
theorem dX6_countOf_122 : decode cX6_countOf 122 = .ok (.invokevirtual 206, 3) := by decide +kernel
theorem dX6_countOf_125 : decode cX6_countOf 125 = .ok (.ireturn, 1) := by decide +kernel
theorem dX6_countOf_126 : decode cX6_countOf 126 = .ok (.aload_n 0, 1) := by decide +kernel
theorem dX6_countOf_127 : decode cX6_countOf 127 = .ok (.getfield 10, 3) := by decide +kernel
theorem dX6_countOf_130 : decode cX6_countOf 130 = .ok (.iload_n 1, 1) := by decide +kernel
theorem dX6_countOf_131 : decode cX6_countOf 131 = .ok (.bipush 10, 2) := by decide +kernel
theorem dX6_countOf_133 : decode cX6_countOf 133 = .ok (.isub, 1) := by decide +kernel
theorem dX6_countOf_134 : decode cX6_countOf 134 = .ok (.invokevirtual 295, 3) := by decide +kernel
theorem dX6_countOf_137 : decode cX6_countOf 137 = .ok (.ireturn, 1) := by decide +kernel
theorem dX6_sumOf_0 : decode cX6_sumOf 0 = .ok (.iconst 0, 1) := by decide +kernel
theorem dX6_sumOf_1 : decode cX6_sumOf 1 = .ok (.istore_n 2, 1) := by decide +kernel
theorem dX6_sumOf_2 : decode cX6_sumOf 2 = .ok (.iconst 0, 1) := by decide +kernel
theorem dX6_sumOf_3 : decode cX6_sumOf 3 = .ok (.istore_n 3, 1) := by decide +kernel
theorem dX6_sumOf_4 : decode cX6_sumOf 4 = .ok (.iload_n 3, 1) := by decide +kernel
theorem dX6_sumOf_5 : decode cX6_sumOf 5 = .ok (.aload_n 0, 1) := by decide +kernel
theorem dX6_sumOf_6 : decode cX6_sumOf 6 = .ok (.getfield 10, 3) := by decide +kernel
theorem dX6_sumOf_9 : decode cX6_sumOf 9 = .ok (.invokevirtual 244, 3) := by decide +kernel
theorem dX6_sumOf_12 : decode cX6_sumOf 12 = .ok (.if_icmp .ge 25, 3) := by decide +kernel
theorem dX6_sumOf_15 : decode cX6_sumOf 15 = .ok (.iload_n 2, 1) := by decide +kernel
theorem dX6_sumOf_16 : decode cX6_sumOf 16 = .ok (.aload_n 0, 1) := by decide +kernel
theorem dX6_sumOf_17 : decode cX6_sumOf 17 = .ok (.aload_n 0, 1) := by decide +kernel
theorem dX6_sumOf_18 : decode cX6_sumOf 18 = .ok (.getfield 10, 3) := by decide +kernel
theorem dX6_sumOf_21 : decode cX6_sumOf 21 = .ok (.iload_n 3, 1) := by decide +kernel
theorem dX6_sumOf_22 : decode cX6_sumOf 22 = .ok (.invokevirtual 245, 3) := by decide +kernel
theorem dX6_sumOf_25 : decode cX6_sumOf 25 = .ok (.iload_n 1, 1) := by decide +kernel
theorem dX6_sumOf_26 : decode cX6_sumOf 26 = .ok (.invokevirtual 212, 3) := by decide +kernel
theorem dX6_sumOf_29 : decode cX6_sumOf 29 = .ok (.iadd, 1) := by decide +kernel
theorem dX6_sumOf_30 : decode cX6_sumOf 30 = .ok (.istore_n 2, 1) := by decide +kernel
theorem dX6_sumOf_31 : decode cX6_sumOf 31 = .ok (.iinc 3 1, 3) := by decide +kernel
theorem dX6_sumOf_34 : decode cX6_sumOf 34 = .ok (.goto (-30), 3) := by decide +kernel
theorem dX6_sumOf_37 : decode cX6_sumOf 37 = .ok (.iload_n 2, 1) := by decide +kernel
theorem dX6_sumOf_38 : decode cX6_sumOf 38 = .ok (.ireturn, 1) := by decide +kernel
theorem dX6_fineOf_0 : decode cX6_fineOf 0 = .ok (.aload_n 0, 1) := by decide +kernel
theorem dX6_fineOf_1 : decode cX6_fineOf 1 = .ok (.getfield 10, 3) := by decide +kernel
theorem dX6_fineOf_4 : decode cX6_fineOf 4 = .ok (.getfield 189, 3) := by decide +kernel
theorem dX6_fineOf_7 : decode cX6_fineOf 7 = .ok (.aload_n 1, 1) := by decide +kernel
theorem dX6_fineOf_8 : decode cX6_fineOf 8 = .ok (.aload_n 0, 1) := by decide +kernel
theorem dX6_fineOf_9 : decode cX6_fineOf 9 = .ok (.getfield 10, 3) := by decide +kernel
theorem dX6_fineOf_12 : decode cX6_fineOf 12 = .ok (.getfield 142, 3) := by decide +kernel
theorem dX6_fineOf_15 : decode cX6_fineOf 15 = .ok (.aload_n 0, 1) := by decide +kernel
theorem dX6_fineOf_16 : decode cX6_fineOf 16 = .ok (.getfield 10, 3) := by decide +kernel
theorem dX6_fineOf_19 : decode cX6_fineOf 19 = .ok (.getfield 186, 3) := by decide +kernel
theorem dX6_fineOf_22 : decode cX6_fineOf 22 = .ok (.invokevirtual 298, 3) := by decide +kernel
theorem dX6_fineOf_25 : decode cX6_fineOf 25 = .ok (.imul, 1) := by decide +kernel
theorem dX6_fineOf_26 : decode cX6_fineOf 26 = .ok (.ireturn, 1) := by decide +kernel
theorem dX6_regretOf_0 : decode cX6_regretOf 0 = .ok (.iconst 1, 1) := by decide +kernel
theorem dX6_regretOf_1 : decode cX6_regretOf 1 = .ok (.aload_n 1, 1) := by decide +kernel
theorem dX6_regretOf_2 : decode cX6_regretOf 2 = .ok (.aload_n 0, 1) := by decide +kernel
theorem dX6_regretOf_3 : decode cX6_regretOf 3 = .ok (.getfield 10, 3) := by decide +kernel
theorem dX6_regretOf_6 : decode cX6_regretOf 6 = .ok (.getfield 142, 3) := by decide +kernel
theorem dX6_regretOf_9 : decode cX6_regretOf 9 = .ok (.aload_n 0, 1) := by decide +kernel
theorem dX6_regretOf_10 : decode cX6_regretOf 10 = .ok (.getfield 10, 3) := by decide +kernel
theorem dX6_regretOf_13 : decode cX6_regretOf 13 = .ok (.getfield 186, 3) := by decide +kernel
theorem dX6_regretOf_16 : decode cX6_regretOf 16 = .ok (.invokevirtual 298, 3) := by decide +kernel
theorem dX6_regretOf_19 : decode cX6_regretOf 19 = .ok (.invokestatic 302, 3) := by decide +kernel
theorem dX6_regretOf_22 : decode cX6_regretOf 22 = .ok (.istore_n 3, 1) := by decide +kernel
theorem dX6_regretOf_23 : decode cX6_regretOf 23 = .ok (.aload_n 1, 1) := by decide +kernel
theorem dX6_regretOf_24 : decode cX6_regretOf 24 = .ok (.invokevirtual 307, 3) := by decide +kernel
theorem dX6_regretOf_27 : decode cX6_regretOf 27 = .ok (.iload_n 2, 1) := by decide +kernel
theorem dX6_regretOf_28 : decode cX6_regretOf 28 = .ok (.iload_n 3, 1) := by decide +kernel
theorem dX6_regretOf_29 : decode cX6_regretOf 29 = .ok (.invokestatic 310, 3) := by decide +kernel
theorem dX6_regretOf_32 : decode cX6_regretOf 32 = .ok (.imul, 1) := by decide +kernel
theorem dX6_regretOf_33 : decode cX6_regretOf 33 = .ok (.ireturn, 1) := by decide +kernel
theorem dX6_gainOf_0 : decode cX6_gainOf 0 = .ok (.aload_n 1, 1) := by decide +kernel
theorem dX6_gainOf_1 : decode cX6_gainOf 1 = .ok (.aload_n 0, 1) := by decide +kernel
theorem dX6_gainOf_2 : decode cX6_gainOf 2 = .ok (.getfield 10, 3) := by decide +kernel
theorem dX6_gainOf_5 : decode cX6_gainOf 5 = .ok (.getfield 142, 3) := by decide +kernel
theorem dX6_gainOf_8 : decode cX6_gainOf 8 = .ok (.aload_n 0, 1) := by decide +kernel
theorem dX6_gainOf_9 : decode cX6_gainOf 9 = .ok (.getfield 10, 3) := by decide +kernel
theorem dX6_gainOf_12 : decode cX6_gainOf 12 = .ok (.getfield 186, 3) := by decide +kernel
theorem dX6_gainOf_15 : decode cX6_gainOf 15 = .ok (.invokevirtual 298, 3) := by decide +kernel
theorem dX6_gainOf_18 : decode cX6_gainOf 18 = .ok (.istore_n 2, 1) := by decide +kernel
theorem dX6_gainOf_19 : decode cX6_gainOf 19 = .ok (.aload_n 1, 1) := by decide +kernel
theorem dX6_gainOf_20 : decode cX6_gainOf 20 = .ok (.invokevirtual 307, 3) := by decide +kernel
theorem dX6_gainOf_23 : decode cX6_gainOf 23 = .ok (.iload_n 2, 1) := by decide +kernel
theorem dX6_gainOf_24 : decode cX6_gainOf 24 = .ok (.sipush 200, 3) := by decide +kernel
theorem dX6_gainOf_27 : decode cX6_gainOf 27 = .ok (.invokestatic 310, 3) := by decide +kernel
theorem dX6_gainOf_30 : decode cX6_gainOf 30 = .ok (.imul, 1) := by decide +kernel
theorem dX6_gainOf_31 : decode cX6_gainOf 31 = .ok (.aload_n 0, 1) := by decide +kernel
theorem dX6_gainOf_32 : decode cX6_gainOf 32 = .ok (.aload_n 1, 1) := by decide +kernel
theorem dX6_gainOf_33 : decode cX6_gainOf 33 = .ok (.invokevirtual 151, 3) := by decide +kernel
theorem dX6_gainOf_36 : decode cX6_gainOf 36 = .ok (.isub, 1) := by decide +kernel
theorem dX6_gainOf_37 : decode cX6_gainOf 37 = .ok (.ireturn, 1) := by decide +kernel
theorem dX6_cheapestValue_0 : decode cX6_cheapestValue 0 = .ok (.aload_n 0, 1) := by decide +kernel
theorem dX6_cheapestValue_1 : decode cX6_cheapestValue 1 = .ok (.getfield 33, 3) := by decide +kernel
theorem dX6_cheapestValue_4 : decode cX6_cheapestValue 4 = .ok (.aload_n 1, 1) := by decide +kernel
theorem dX6_cheapestValue_5 : decode cX6_cheapestValue 5 = .ok (.getfield 81, 3) := by decide +kernel
theorem dX6_cheapestValue_8 : decode cX6_cheapestValue 8 = .ok (.invokevirtual 313, 3) := by decide +kernel
theorem dX6_cheapestValue_11 : decode cX6_cheapestValue 11 = .ok (.aload_n 0, 1) := by decide +kernel
theorem dX6_cheapestValue_12 : decode cX6_cheapestValue 12 = .ok (.getfield 33, 3) := by decide +kernel
theorem dX6_cheapestValue_15 : decode cX6_cheapestValue 15 = .ok (.iload_n 2, 1) := by decide +kernel
theorem dX6_cheapestValue_16 : decode cX6_cheapestValue 16 = .ok (.iconst 0, 1) := by decide +kernel
theorem dX6_cheapestValue_17 : decode cX6_cheapestValue 17 = .ok (.invokevirtual 107, 3) := by decide +kernel
theorem dX6_cheapestValue_20 : decode cX6_cheapestValue 20 = .ok (.iconst 0, 1) := by decide +kernel
theorem dX6_cheapestValue_21 : decode cX6_cheapestValue 21 = .ok (.istore_n 3, 1) := by decide +kernel
theorem dX6_cheapestValue_22 : decode cX6_cheapestValue 22 = .ok (.aload_n 0, 1) := by decide +kernel
theorem dX6_cheapestValue_23 : decode cX6_cheapestValue 23 = .ok (.getfield 33, 3) := by decide +kernel
theorem dX6_cheapestValue_26 : decode cX6_cheapestValue 26 = .ok (.aload_n 1, 1) := by decide +kernel
theorem dX6_cheapestValue_27 : decode cX6_cheapestValue 27 = .ok (.getfield 170, 3) := by decide +kernel
theorem dX6_cheapestValue_30 : decode cX6_cheapestValue 30 = .ok (.invokestatic 219, 3) := by decide +kernel
theorem dX6_cheapestValue_33 : decode cX6_cheapestValue 33 = .ok (.istore 4, 2) := by decide +kernel
theorem dX6_cheapestValue_35 : decode cX6_cheapestValue 35 = .ok (.iconst 1, 1) := by decide +kernel
theorem dX6_cheapestValue_36 : decode cX6_cheapestValue 36 = .ok (.istore 5, 2) := by decide +kernel
theorem dX6_cheapestValue_38 : decode cX6_cheapestValue 38 = .ok (.iload 5, 2) := by decide +kernel
theorem dX6_cheapestValue_40 : decode cX6_cheapestValue 40 = .ok (.sipush 255, 3) := by decide +kernel
theorem dX6_cheapestValue_43 : decode cX6_cheapestValue 43 = .ok (.if_icmp .gt 46, 3) := by decide +kernel
theorem dX6_cheapestValue_46 : decode cX6_cheapestValue 46 = .ok (.aload_n 0, 1) := by decide +kernel
theorem dX6_cheapestValue_47 : decode cX6_cheapestValue 47 = .ok (.getfield 33, 3) := by decide +kernel
theorem dX6_cheapestValue_50 : decode cX6_cheapestValue 50 = .ok (.iload_n 2, 1) := by decide +kernel
theorem dX6_cheapestValue_51 : decode cX6_cheapestValue 51 = .ok (.iload 5, 2) := by decide +kernel
theorem dX6_cheapestValue_53 : decode cX6_cheapestValue 53 = .ok (.invokevirtual 107, 3) := by decide +kernel
theorem dX6_cheapestValue_56 : decode cX6_cheapestValue 56 = .ok (.aload_n 0, 1) := by decide +kernel
theorem dX6_cheapestValue_57 : decode cX6_cheapestValue 57 = .ok (.getfield 33, 3) := by decide +kernel
theorem dX6_cheapestValue_60 : decode cX6_cheapestValue 60 = .ok (.aload_n 1, 1) := by decide +kernel
theorem dX6_cheapestValue_61 : decode cX6_cheapestValue 61 = .ok (.getfield 170, 3) := by decide +kernel
theorem dX6_cheapestValue_64 : decode cX6_cheapestValue 64 = .ok (.invokestatic 219, 3) := by decide +kernel
theorem dX6_cheapestValue_67 : decode cX6_cheapestValue 67 = .ok (.istore 6, 2) := by decide +kernel
theorem dX6_cheapestValue_69 : decode cX6_cheapestValue 69 = .ok (.iload 6, 2) := by decide +kernel
theorem dX6_cheapestValue_71 : decode cX6_cheapestValue 71 = .ok (.iload 4, 2) := by decide +kernel
theorem dX6_cheapestValue_73 : decode cX6_cheapestValue 73 = .ok (.if_icmp .ge 10, 3) := by decide +kernel
theorem dX6_cheapestValue_76 : decode cX6_cheapestValue 76 = .ok (.iload 6, 2) := by decide +kernel
theorem dX6_cheapestValue_78 : decode cX6_cheapestValue 78 = .ok (.istore 4, 2) := by decide +kernel
theorem dX6_cheapestValue_80 : decode cX6_cheapestValue 80 = .ok (.iload 5, 2) := by decide +kernel
theorem dX6_cheapestValue_82 : decode cX6_cheapestValue 82 = .ok (.istore_n 3, 1) := by decide +kernel
theorem dX6_cheapestValue_83 : decode cX6_cheapestValue 83 = .ok (.iinc 5 1, 3) := by decide +kernel
theorem dX6_cheapestValue_86 : decode cX6_cheapestValue 86 = .ok (.goto (-48), 3) := by decide +kernel
theorem dX6_cheapestValue_89 : decode cX6_cheapestValue 89 = .ok (.iload_n 3, 1) := by decide +kernel
theorem dX6_cheapestValue_90 : decode cX6_cheapestValue 90 = .ok (.ireturn, 1) := by decide +kernel
theorem dX6_mateOf_0 : decode cX6_mateOf 0 = .ok (.iconst (-1), 1) := by decide +kernel
theorem dX6_mateOf_1 : decode cX6_mateOf 1 = .ok (.istore_n 2, 1) := by decide +kernel
theorem dX6_mateOf_2 : decode cX6_mateOf 2 = .ok (.iconst 0, 1) := by decide +kernel
theorem dX6_mateOf_3 : decode cX6_mateOf 3 = .ok (.istore_n 3, 1) := by decide +kernel
theorem dX6_mateOf_4 : decode cX6_mateOf 4 = .ok (.iconst 0, 1) := by decide +kernel
theorem dX6_mateOf_5 : decode cX6_mateOf 5 = .ok (.istore 4, 2) := by decide +kernel
theorem dX6_mateOf_7 : decode cX6_mateOf 7 = .ok (.iload 4, 2) := by decide +kernel
theorem dX6_mateOf_9 : decode cX6_mateOf 9 = .ok (.aload_n 0, 1) := by decide +kernel
theorem dX6_mateOf_10 : decode cX6_mateOf 10 = .ok (.getfield 10, 3) := by decide +kernel
theorem dX6_mateOf_13 : decode cX6_mateOf 13 = .ok (.invokevirtual 244, 3) := by decide +kernel
theorem dX6_mateOf_16 : decode cX6_mateOf 16 = .ok (.if_icmp .ge 98, 3) := by decide +kernel
theorem dX6_mateOf_19 : decode cX6_mateOf 19 = .ok (.aload_n 0, 1) := by decide +kernel
theorem dX6_mateOf_20 : decode cX6_mateOf 20 = .ok (.getfield 10, 3) := by decide +kernel
theorem dX6_mateOf_23 : decode cX6_mateOf 23 = .ok (.iload 4, 2) := by decide +kernel
theorem dX6_mateOf_25 : decode cX6_mateOf 25 = .ok (.invokevirtual 245, 3) := by decide +kernel
theorem dX6_mateOf_28 : decode cX6_mateOf 28 = .ok (.astore 5, 2) := by decide +kernel
theorem dX6_mateOf_30 : decode cX6_mateOf 30 = .ok (.aload 5, 2) := by decide +kernel
theorem dX6_mateOf_32 : decode cX6_mateOf 32 = .ok (.aload_n 1, 1) := by decide +kernel
theorem dX6_mateOf_33 : decode cX6_mateOf 33 = .ok (.if_acmp .eq 75, 3) := by decide +kernel
theorem dX6_mateOf_36 : decode cX6_mateOf 36 = .ok (.aload_n 1, 1) := by decide +kernel
theorem dX6_mateOf_37 : decode cX6_mateOf 37 = .ok (.getfield 81, 3) := by decide +kernel
theorem dX6_mateOf_40 : decode cX6_mateOf 40 = .ok (.aload 5, 2) := by decide +kernel
theorem dX6_mateOf_42 : decode cX6_mateOf 42 = .ok (.getfield 81, 3) := by decide +kernel
theorem dX6_mateOf_45 : decode cX6_mateOf 45 = .ok (.invokevirtual 95, 3) := by decide +kernel
theorem dX6_mateOf_48 : decode cX6_mateOf 48 = .ok (.invokevirtual 86, 3) := by decide +kernel
theorem dX6_mateOf_51 : decode cX6_mateOf 51 = .ok (.ifCond .eq 57, 3) := by decide +kernel
theorem dX6_mateOf_54 : decode cX6_mateOf 54 = .ok (.aload_n 0, 1) := by decide +kernel
theorem dX6_mateOf_55 : decode cX6_mateOf 55 = .ok (.getfield 33, 3) := by decide +kernel
theorem dX6_mateOf_58 : decode cX6_mateOf 58 = .ok (.aload_n 1, 1) := by decide +kernel
theorem dX6_mateOf_59 : decode cX6_mateOf 59 = .ok (.getfield 81, 3) := by decide +kernel
theorem dX6_mateOf_62 : decode cX6_mateOf 62 = .ok (.invokevirtual 313, 3) := by decide +kernel
theorem dX6_mateOf_65 : decode cX6_mateOf 65 = .ok (.aload_n 0, 1) := by decide +kernel
theorem dX6_mateOf_66 : decode cX6_mateOf 66 = .ok (.getfield 33, 3) := by decide +kernel
theorem dX6_mateOf_69 : decode cX6_mateOf 69 = .ok (.aload 5, 2) := by decide +kernel
theorem dX6_mateOf_71 : decode cX6_mateOf 71 = .ok (.getfield 81, 3) := by decide +kernel
theorem dX6_mateOf_74 : decode cX6_mateOf 74 = .ok (.iconst 0, 1) := by decide +kernel
theorem dX6_mateOf_75 : decode cX6_mateOf 75 = .ok (.invokevirtual 135, 3) := by decide +kernel
theorem dX6_mateOf_78 : decode cX6_mateOf 78 = .ok (.aload_n 0, 1) := by decide +kernel
theorem dX6_mateOf_79 : decode cX6_mateOf 79 = .ok (.getfield 33, 3) := by decide +kernel
theorem dX6_mateOf_82 : decode cX6_mateOf 82 = .ok (.aload_n 1, 1) := by decide +kernel
theorem dX6_mateOf_83 : decode cX6_mateOf 83 = .ok (.getfield 170, 3) := by decide +kernel
theorem dX6_mateOf_86 : decode cX6_mateOf 86 = .ok (.invokestatic 219, 3) := by decide +kernel
theorem dX6_mateOf_89 : decode cX6_mateOf 89 = .ok (.istore 6, 2) := by decide +kernel
theorem dX6_mateOf_91 : decode cX6_mateOf 91 = .ok (.iload_n 2, 1) := by decide +kernel
theorem dX6_mateOf_92 : decode cX6_mateOf 92 = .ok (.iconst (-1), 1) := by decide +kernel
theorem dX6_mateOf_93 : decode cX6_mateOf 93 = .ok (.if_icmp .eq 9, 3) := by decide +kernel
theorem dX6_mateOf_96 : decode cX6_mateOf 96 = .ok (.iload 6, 2) := by decide +kernel
theorem dX6_mateOf_98 : decode cX6_mateOf 98 = .ok (.iload_n 3, 1) := by decide +kernel
theorem dX6_mateOf_99 : decode cX6_mateOf 99 = .ok (.if_icmp .ge 9, 3) := by decide +kernel
theorem dX6_mateOf_102 : decode cX6_mateOf 102 = .ok (.iload 6, 2) := by decide +kernel
theorem dX6_mateOf_104 : decode cX6_mateOf 104 = .ok (.istore_n 3, 1) := by decide +kernel
theorem dX6_mateOf_105 : decode cX6_mateOf 105 = .ok (.iload 4, 2) := by decide +kernel
theorem dX6_mateOf_107 : decode cX6_mateOf 107 = .ok (.istore_n 2, 1) := by decide +kernel
theorem dX6_mateOf_108 : decode cX6_mateOf 108 = .ok (.iinc 4 1, 3) := by decide +kernel
theorem dX6_mateOf_111 : decode cX6_mateOf 111 = .ok (.goto (-104), 3) := by decide +kernel
theorem dX6_mateOf_114 : decode cX6_mateOf 114 = .ok (.iload_n 2, 1) := by decide +kernel
theorem dX6_mateOf_115 : decode cX6_mateOf 115 = .ok (.ireturn, 1) := by decide +kernel
theorem dX6_mix_0 : decode cX6_mix 0 = .ok (.ldc2_w 317, 3) := by decide +kernel
theorem dX6_mix_3 : decode cX6_mix 3 = .ok (.lload_n 0, 1) := by decide +kernel
theorem dX6_mix_4 : decode cX6_mix 4 = .ok (.lmul, 1) := by decide +kernel
theorem dX6_mix_5 : decode cX6_mix 5 = .ok (.lload_n 2, 1) := by decide +kernel
theorem dX6_mix_6 : decode cX6_mix 6 = .ok (.ladd, 1) := by decide +kernel
theorem dX6_mix_7 : decode cX6_mix 7 = .ok (.lreturn, 1) := by decide +kernel
theorem dX6_mixBlock_0 : decode cX6_mixBlock 0 = .ok (.lload_n 1, 1) := by decide +kernel
theorem dX6_mixBlock_1 : decode cX6_mixBlock 1 = .ok (.lstore 4, 2) := by decide +kernel
theorem dX6_mixBlock_3 : decode cX6_mixBlock 3 = .ok (.iconst 0, 1) := by decide +kernel
theorem dX6_mixBlock_4 : decode cX6_mixBlock 4 = .ok (.istore 6, 2) := by decide +kernel
theorem dX6_mixBlock_6 : decode cX6_mixBlock 6 = .ok (.iload 6, 2) := by decide +kernel
theorem dX6_mixBlock_8 : decode cX6_mixBlock 8 = .ok (.bipush 12, 2) := by decide +kernel
theorem dX6_mixBlock_10 : decode cX6_mixBlock 10 = .ok (.if_icmp .ge 24, 3) := by decide +kernel
theorem dX6_mixBlock_13 : decode cX6_mixBlock 13 = .ok (.lload 4, 2) := by decide +kernel
theorem dX6_mixBlock_15 : decode cX6_mixBlock 15 = .ok (.aload_n 0, 1) := by decide +kernel
theorem dX6_mixBlock_16 : decode cX6_mixBlock 16 = .ok (.aload_n 3, 1) := by decide +kernel
theorem dX6_mixBlock_17 : decode cX6_mixBlock 17 = .ok (.iload 6, 2) := by decide +kernel
theorem dX6_mixBlock_19 : decode cX6_mixBlock 19 = .ok (.invokevirtual 212, 3) := by decide +kernel
theorem dX6_mixBlock_22 : decode cX6_mixBlock 22 = .ok (.i2l, 1) := by decide +kernel
theorem dX6_mixBlock_23 : decode cX6_mixBlock 23 = .ok (.invokestatic 240, 3) := by decide +kernel
theorem dX6_mixBlock_26 : decode cX6_mixBlock 26 = .ok (.lstore 4, 2) := by decide +kernel
theorem dX6_mixBlock_28 : decode cX6_mixBlock 28 = .ok (.iinc 6 1, 3) := by decide +kernel
theorem dX6_mixBlock_31 : decode cX6_mixBlock 31 = .ok (.goto (-25), 3) := by decide +kernel
theorem dX6_mixBlock_34 : decode cX6_mixBlock 34 = .ok (.iconst 0, 1) := by decide +kernel
theorem dX6_mixBlock_35 : decode cX6_mixBlock 35 = .ok (.istore 6, 2) := by decide +kernel
theorem dX6_mixBlock_37 : decode cX6_mixBlock 37 = .ok (.iload 6, 2) := by decide +kernel
theorem dX6_mixBlock_39 : decode cX6_mixBlock 39 = .ok (.aload_n 3, 1) := by decide +kernel
theorem dX6_mixBlock_40 : decode cX6_mixBlock 40 = .ok (.getfield 81, 3) := by decide +kernel
theorem dX6_mixBlock_43 : decode cX6_mixBlock 43 = .ok (.invokevirtual 95, 3) := by decide +kernel
theorem dX6_mixBlock_46 : decode cX6_mixBlock 46 = .ok (.if_icmp .ge 26, 3) := by decide +kernel
theorem dX6_mixBlock_49 : decode cX6_mixBlock 49 = .ok (.lload 4, 2) := by decide +kernel
theorem dX6_mixBlock_51 : decode cX6_mixBlock 51 = .ok (.aload_n 3, 1) := by decide +kernel
theorem dX6_mixBlock_52 : decode cX6_mixBlock 52 = .ok (.getfield 81, 3) := by decide +kernel
theorem dX6_mixBlock_55 : decode cX6_mixBlock 55 = .ok (.iload 6, 2) := by decide +kernel
theorem dX6_mixBlock_57 : decode cX6_mixBlock 57 = .ok (.invokevirtual 103, 3) := by decide +kernel
theorem dX6_mixBlock_60 : decode cX6_mixBlock 60 = .ok (.i2l, 1) := by decide +kernel
theorem dX6_mixBlock_61 : decode cX6_mixBlock 61 = .ok (.invokestatic 240, 3) := by decide +kernel
theorem dX6_mixBlock_64 : decode cX6_mixBlock 64 = .ok (.lstore 4, 2) := by decide +kernel
theorem dX6_mixBlock_66 : decode cX6_mixBlock 66 = .ok (.iinc 6 1, 3) := by decide +kernel
theorem dX6_mixBlock_69 : decode cX6_mixBlock 69 = .ok (.goto (-32), 3) := by decide +kernel
theorem dX6_mixBlock_72 : decode cX6_mixBlock 72 = .ok (.iconst 0, 1) := by decide +kernel
theorem dX6_mixBlock_73 : decode cX6_mixBlock 73 = .ok (.istore 6, 2) := by decide +kernel
theorem dX6_mixBlock_75 : decode cX6_mixBlock 75 = .ok (.iload 6, 2) := by decide +kernel
theorem dX6_mixBlock_77 : decode cX6_mixBlock 77 = .ok (.bipush 6, 2) := by decide +kernel
theorem dX6_mixBlock_79 : decode cX6_mixBlock 79 = .ok (.if_icmp .ge 26, 3) := by decide +kernel
theorem dX6_mixBlock_82 : decode cX6_mixBlock 82 = .ok (.lload 4, 2) := by decide +kernel
theorem dX6_mixBlock_84 : decode cX6_mixBlock 84 = .ok (.aload_n 3, 1) := by decide +kernel
theorem dX6_mixBlock_85 : decode cX6_mixBlock 85 = .ok (.getfield 81, 3) := by decide +kernel
theorem dX6_mixBlock_88 : decode cX6_mixBlock 88 = .ok (.iload 6, 2) := by decide +kernel
theorem dX6_mixBlock_90 : decode cX6_mixBlock 90 = .ok (.invokestatic 219, 3) := by decide +kernel
theorem dX6_mixBlock_93 : decode cX6_mixBlock 93 = .ok (.i2l, 1) := by decide +kernel
theorem dX6_mixBlock_94 : decode cX6_mixBlock 94 = .ok (.invokestatic 240, 3) := by decide +kernel
theorem dX6_mixBlock_97 : decode cX6_mixBlock 97 = .ok (.lstore 4, 2) := by decide +kernel
theorem dX6_mixBlock_99 : decode cX6_mixBlock 99 = .ok (.iinc 6 1, 3) := by decide +kernel
theorem dX6_mixBlock_102 : decode cX6_mixBlock 102 = .ok (.goto (-27), 3) := by decide +kernel
theorem dX6_mixBlock_105 : decode cX6_mixBlock 105 = .ok (.iconst 0, 1) := by decide +kernel
theorem dX6_mixBlock_106 : decode cX6_mixBlock 106 = .ok (.istore 6, 2) := by decide +kernel
theorem dX6_mixBlock_108 : decode cX6_mixBlock 108 = .ok (.iload 6, 2) := by decide +kernel
theorem dX6_mixBlock_110 : decode cX6_mixBlock 110 = .ok (.bipush 6, 2) := by decide +kernel
theorem dX6_mixBlock_112 : decode cX6_mixBlock 112 = .ok (.if_icmp .ge 28, 3) := by decide +kernel
theorem dX6_mixBlock_115 : decode cX6_mixBlock 115 = .ok (.lload 4, 2) := by decide +kernel
theorem dX6_mixBlock_117 : decode cX6_mixBlock 117 = .ok (.aload_n 3, 1) := by decide +kernel
theorem dX6_mixBlock_118 : decode cX6_mixBlock 118 = .ok (.getfield 81, 3) := by decide +kernel
theorem dX6_mixBlock_121 : decode cX6_mixBlock 121 = .ok (.iload 6, 2) := by decide +kernel
theorem dX6_mixBlock_123 : decode cX6_mixBlock 123 = .ok (.iconst 0, 1) := by decide +kernel
theorem dX6_mixBlock_124 : decode cX6_mixBlock 124 = .ok (.iconst 3, 1) := by decide +kernel
theorem dX6_mixBlock_125 : decode cX6_mixBlock 125 = .ok (.invokestatic 173, 3) := by decide +kernel
theorem dX6_mixBlock_128 : decode cX6_mixBlock 128 = .ok (.i2l, 1) := by decide +kernel
theorem dX6_mixBlock_129 : decode cX6_mixBlock 129 = .ok (.invokestatic 240, 3) := by decide +kernel
theorem dX6_mixBlock_132 : decode cX6_mixBlock 132 = .ok (.lstore 4, 2) := by decide +kernel
theorem dX6_mixBlock_134 : decode cX6_mixBlock 134 = .ok (.iinc 6 1, 3) := by decide +kernel
theorem dX6_mixBlock_137 : decode cX6_mixBlock 137 = .ok (.goto (-29), 3) := by decide +kernel
theorem dX6_mixBlock_140 : decode cX6_mixBlock 140 = .ok (.iconst 0, 1) := by decide +kernel
theorem dX6_mixBlock_141 : decode cX6_mixBlock 141 = .ok (.istore 6, 2) := by decide +kernel
theorem dX6_mixBlock_143 : decode cX6_mixBlock 143 = .ok (.iload 6, 2) := by decide +kernel
theorem dX6_mixBlock_145 : decode cX6_mixBlock 145 = .ok (.bipush 6, 2) := by decide +kernel
theorem dX6_mixBlock_147 : decode cX6_mixBlock 147 = .ok (.if_icmp .ge 28, 3) := by decide +kernel
theorem dX6_mixBlock_150 : decode cX6_mixBlock 150 = .ok (.lload 4, 2) := by decide +kernel
theorem dX6_mixBlock_152 : decode cX6_mixBlock 152 = .ok (.aload_n 3, 1) := by decide +kernel
theorem dX6_mixBlock_153 : decode cX6_mixBlock 153 = .ok (.getfield 81, 3) := by decide +kernel
theorem dX6_mixBlock_156 : decode cX6_mixBlock 156 = .ok (.iload 6, 2) := by decide +kernel
theorem dX6_mixBlock_158 : decode cX6_mixBlock 158 = .ok (.iconst 2, 1) := by decide +kernel
theorem dX6_mixBlock_159 : decode cX6_mixBlock 159 = .ok (.iconst 3, 1) := by decide +kernel
theorem dX6_mixBlock_160 : decode cX6_mixBlock 160 = .ok (.invokestatic 173, 3) := by decide +kernel
theorem dX6_mixBlock_163 : decode cX6_mixBlock 163 = .ok (.i2l, 1) := by decide +kernel
theorem dX6_mixBlock_164 : decode cX6_mixBlock 164 = .ok (.invokestatic 240, 3) := by decide +kernel
theorem dX6_mixBlock_167 : decode cX6_mixBlock 167 = .ok (.lstore 4, 2) := by decide +kernel
theorem dX6_mixBlock_169 : decode cX6_mixBlock 169 = .ok (.iinc 6 1, 3) := by decide +kernel
theorem dX6_mixBlock_172 : decode cX6_mixBlock 172 = .ok (.goto (-29), 3) := by decide +kernel
theorem dX6_mixBlock_175 : decode cX6_mixBlock 175 = .ok (.lload 4, 2) := by decide +kernel
theorem dX6_mixBlock_177 : decode cX6_mixBlock 177 = .ok (.aload_n 0, 1) := by decide +kernel
theorem dX6_mixBlock_178 : decode cX6_mixBlock 178 = .ok (.aload_n 3, 1) := by decide +kernel
theorem dX6_mixBlock_179 : decode cX6_mixBlock 179 = .ok (.bipush 20, 2) := by decide +kernel
theorem dX6_mixBlock_181 : decode cX6_mixBlock 181 = .ok (.invokevirtual 223, 3) := by decide +kernel
theorem dX6_mixBlock_184 : decode cX6_mixBlock 184 = .ok (.i2l, 1) := by decide +kernel
theorem dX6_mixBlock_185 : decode cX6_mixBlock 185 = .ok (.invokestatic 240, 3) := by decide +kernel
theorem dX6_mixBlock_188 : decode cX6_mixBlock 188 = .ok (.lstore 4, 2) := by decide +kernel
theorem dX6_mixBlock_190 : decode cX6_mixBlock 190 = .ok (.lload 4, 2) := by decide +kernel
theorem dX6_mixBlock_192 : decode cX6_mixBlock 192 = .ok (.aload_n 0, 1) := by decide +kernel
theorem dX6_mixBlock_193 : decode cX6_mixBlock 193 = .ok (.aload_n 3, 1) := by decide +kernel
theorem dX6_mixBlock_194 : decode cX6_mixBlock 194 = .ok (.invokevirtual 226, 3) := by decide +kernel
theorem dX6_mixBlock_197 : decode cX6_mixBlock 197 = .ok (.i2l, 1) := by decide +kernel
theorem dX6_mixBlock_198 : decode cX6_mixBlock 198 = .ok (.invokestatic 240, 3) := by decide +kernel
theorem dX6_mixBlock_201 : decode cX6_mixBlock 201 = .ok (.lstore 4, 2) := by decide +kernel
theorem dX6_mixBlock_203 : decode cX6_mixBlock 203 = .ok (.lload 4, 2) := by decide +kernel
theorem dX6_mixBlock_205 : decode cX6_mixBlock 205 = .ok (.aload_n 0, 1) := by decide +kernel
theorem dX6_mixBlock_206 : decode cX6_mixBlock 206 = .ok (.aload_n 3, 1) := by decide +kernel
theorem dX6_mixBlock_207 : decode cX6_mixBlock 207 = .ok (.iconst 0, 1) := by decide +kernel
theorem dX6_mixBlock_208 : decode cX6_mixBlock 208 = .ok (.invokevirtual 229, 3) := by decide +kernel
theorem dX6_mixBlock_211 : decode cX6_mixBlock 211 = .ok (.i2l, 1) := by decide +kernel
theorem dX6_mixBlock_212 : decode cX6_mixBlock 212 = .ok (.invokestatic 240, 3) := by decide +kernel
theorem dX6_mixBlock_215 : decode cX6_mixBlock 215 = .ok (.lstore 4, 2) := by decide +kernel
theorem dX6_mixBlock_217 : decode cX6_mixBlock 217 = .ok (.lload 4, 2) := by decide +kernel
theorem dX6_mixBlock_219 : decode cX6_mixBlock 219 = .ok (.aload_n 0, 1) := by decide +kernel
theorem dX6_mixBlock_220 : decode cX6_mixBlock 220 = .ok (.aload_n 3, 1) := by decide +kernel
theorem dX6_mixBlock_221 : decode cX6_mixBlock 221 = .ok (.invokevirtual 232, 3) := by decide +kernel
theorem dX6_mixBlock_224 : decode cX6_mixBlock 224 = .ok (.i2l, 1) := by decide +kernel
theorem dX6_mixBlock_225 : decode cX6_mixBlock 225 = .ok (.invokestatic 240, 3) := by decide +kernel
theorem dX6_mixBlock_228 : decode cX6_mixBlock 228 = .ok (.lreturn, 1) := by decide +kernel
theorem dX6_doubleBits_0 : decode cX6_doubleBits 0 = .ok (.dload_n 0, 1) := by decide +kernel
theorem dX6_doubleBits_1 : decode cX6_doubleBits 1 = .ok (.dconst 0, 1) := by decide +kernel
theorem dX6_doubleBits_2 : decode cX6_doubleBits 2 = .ok (.dcmp .l, 1) := by decide +kernel
theorem dX6_doubleBits_3 : decode cX6_doubleBits 3 = .ok (.ifCond .gt 5, 3) := by decide +kernel
theorem dX6_doubleBits_6 : decode cX6_doubleBits 6 = .ok (.lconst 0, 1) := by decide +kernel
theorem dX6_doubleBits_7 : decode cX6_doubleBits 7 = .ok (.lreturn, 1) := by decide +kernel
theorem dX6_doubleBits_8 : decode cX6_doubleBits 8 = .ok (.dload_n 0, 1) := by decide +kernel
theorem dX6_doubleBits_9 : decode cX6_doubleBits 9 = .ok (.dstore_n 2, 1) := by decide +kernel
theorem dX6_doubleBits_10 : decode cX6_doubleBits 10 = .ok (.ldc2_w 319, 3) := by decide +kernel
theorem dX6_doubleBits_13 : decode cX6_doubleBits 13 = .ok (.lstore 4, 2) := by decide +kernel
theorem dX6_doubleBits_15 : decode cX6_doubleBits 15 = .ok (.iconst 0, 1) := by decide +kernel
theorem dX6_doubleBits_16 : decode cX6_doubleBits 16 = .ok (.istore 6, 2) := by decide +kernel
theorem dX6_doubleBits_18 : decode cX6_doubleBits 18 = .ok (.iload 6, 2) := by decide +kernel
theorem dX6_doubleBits_20 : decode cX6_doubleBits 20 = .ok (.sipush 1023, 3) := by decide +kernel
theorem dX6_doubleBits_23 : decode cX6_doubleBits 23 = .ok (.if_icmp .ge 29, 3) := by decide +kernel
theorem dX6_doubleBits_26 : decode cX6_doubleBits 26 = .ok (.dload_n 2, 1) := by decide +kernel
theorem dX6_doubleBits_27 : decode cX6_doubleBits 27 = .ok (.ldc2_w 321, 3) := by decide +kernel
theorem dX6_doubleBits_30 : decode cX6_doubleBits 30 = .ok (.dcmp .l, 1) := by decide +kernel
theorem dX6_doubleBits_31 : decode cX6_doubleBits 31 = .ok (.ifCond .lt 21, 3) := by decide +kernel
theorem dX6_doubleBits_34 : decode cX6_doubleBits 34 = .ok (.dload_n 2, 1) := by decide +kernel
theorem dX6_doubleBits_35 : decode cX6_doubleBits 35 = .ok (.ldc2_w 321, 3) := by decide +kernel
theorem dX6_doubleBits_38 : decode cX6_doubleBits 38 = .ok (.ddiv, 1) := by decide +kernel
theorem dX6_doubleBits_39 : decode cX6_doubleBits 39 = .ok (.dstore_n 2, 1) := by decide +kernel
theorem dX6_doubleBits_40 : decode cX6_doubleBits 40 = .ok (.lload 4, 2) := by decide +kernel
theorem dX6_doubleBits_42 : decode cX6_doubleBits 42 = .ok (.lconst 1, 1) := by decide +kernel
theorem dX6_doubleBits_43 : decode cX6_doubleBits 43 = .ok (.ladd, 1) := by decide +kernel
theorem dX6_doubleBits_44 : decode cX6_doubleBits 44 = .ok (.lstore 4, 2) := by decide +kernel
theorem dX6_doubleBits_46 : decode cX6_doubleBits 46 = .ok (.iinc 6 1, 3) := by decide +kernel
theorem dX6_doubleBits_49 : decode cX6_doubleBits 49 = .ok (.goto (-31), 3) := by decide +kernel
theorem dX6_doubleBits_52 : decode cX6_doubleBits 52 = .ok (.iconst 0, 1) := by decide +kernel
theorem dX6_doubleBits_53 : decode cX6_doubleBits 53 = .ok (.istore 6, 2) := by decide +kernel
theorem dX6_doubleBits_55 : decode cX6_doubleBits 55 = .ok (.iload 6, 2) := by decide +kernel
theorem dX6_doubleBits_57 : decode cX6_doubleBits 57 = .ok (.sipush 1022, 3) := by decide +kernel
theorem dX6_doubleBits_60 : decode cX6_doubleBits 60 = .ok (.if_icmp .ge 27, 3) := by decide +kernel
theorem dX6_doubleBits_63 : decode cX6_doubleBits 63 = .ok (.dload_n 2, 1) := by decide +kernel
theorem dX6_doubleBits_64 : decode cX6_doubleBits 64 = .ok (.dconst 1, 1) := by decide +kernel
theorem dX6_doubleBits_65 : decode cX6_doubleBits 65 = .ok (.dcmp .g, 1) := by decide +kernel
theorem dX6_doubleBits_66 : decode cX6_doubleBits 66 = .ok (.ifCond .ge 21, 3) := by decide +kernel
theorem dX6_doubleBits_69 : decode cX6_doubleBits 69 = .ok (.dload_n 2, 1) := by decide +kernel
theorem dX6_doubleBits_70 : decode cX6_doubleBits 70 = .ok (.ldc2_w 321, 3) := by decide +kernel
theorem dX6_doubleBits_73 : decode cX6_doubleBits 73 = .ok (.dmul, 1) := by decide +kernel
theorem dX6_doubleBits_74 : decode cX6_doubleBits 74 = .ok (.dstore_n 2, 1) := by decide +kernel
theorem dX6_doubleBits_75 : decode cX6_doubleBits 75 = .ok (.lload 4, 2) := by decide +kernel
theorem dX6_doubleBits_77 : decode cX6_doubleBits 77 = .ok (.lconst 1, 1) := by decide +kernel
theorem dX6_doubleBits_78 : decode cX6_doubleBits 78 = .ok (.lsub, 1) := by decide +kernel
theorem dX6_doubleBits_79 : decode cX6_doubleBits 79 = .ok (.lstore 4, 2) := by decide +kernel
theorem dX6_doubleBits_81 : decode cX6_doubleBits 81 = .ok (.iinc 6 1, 3) := by decide +kernel
theorem dX6_doubleBits_84 : decode cX6_doubleBits 84 = .ok (.goto (-29), 3) := by decide +kernel
theorem dX6_doubleBits_87 : decode cX6_doubleBits 87 = .ok (.lload 4, 2) := by decide +kernel
theorem dX6_doubleBits_89 : decode cX6_doubleBits 89 = .ok (.bipush 52, 2) := by decide +kernel
theorem dX6_doubleBits_91 : decode cX6_doubleBits 91 = .ok (.lshl, 1) := by decide +kernel
theorem dX6_doubleBits_92 : decode cX6_doubleBits 92 = .ok (.dload_n 2, 1) := by decide +kernel
theorem dX6_doubleBits_93 : decode cX6_doubleBits 93 = .ok (.dconst 1, 1) := by decide +kernel
theorem dX6_doubleBits_94 : decode cX6_doubleBits 94 = .ok (.dsub, 1) := by decide +kernel
theorem dX6_doubleBits_95 : decode cX6_doubleBits 95 = .ok (.ldc2_w 323, 3) := by decide +kernel
theorem dX6_doubleBits_98 : decode cX6_doubleBits 98 = .ok (.dmul, 1) := by decide +kernel
theorem dX6_doubleBits_99 : decode cX6_doubleBits 99 = .ok (.d2l, 1) := by decide +kernel
theorem dX6_doubleBits_100 : decode cX6_doubleBits 100 = .ok (.ladd, 1) := by decide +kernel
theorem dX6_doubleBits_101 : decode cX6_doubleBits 101 = .ok (.lreturn, 1) := by decide +kernel
theorem dJxe99ae_isNaN_b9ae7_0 : decode cJxe99ae_isNaN_b9ae7 0 = .ok (.dload_n 0, 1) := by decide +kernel
theorem dJxe99ae_isNaN_b9ae7_1 : decode cJxe99ae_isNaN_b9ae7 1 = .ok (.dload_n 0, 1) := by decide +kernel
theorem dJxe99ae_isNaN_b9ae7_2 : decode cJxe99ae_isNaN_b9ae7 2 = .ok (.dcmp .l, 1) := by decide +kernel
theorem dJxe99ae_isNaN_b9ae7_3 : decode cJxe99ae_isNaN_b9ae7 3 = .ok (.ifCond .eq 7, 3) := by decide +kernel
theorem dJxe99ae_isNaN_b9ae7_6 : decode cJxe99ae_isNaN_b9ae7 6 = .ok (.iconst 1, 1) := by decide +kernel
theorem dJxe99ae_isNaN_b9ae7_7 : decode cJxe99ae_isNaN_b9ae7 7 = .ok (.goto 4, 3) := by decide +kernel
theorem dJxe99ae_isNaN_b9ae7_10 : decode cJxe99ae_isNaN_b9ae7 10 = .ok (.iconst 0, 1) := by decide +kernel
theorem dJxe99ae_isNaN_b9ae7_11 : decode cJxe99ae_isNaN_b9ae7 11 = .ok (.ireturn, 1) := by decide +kernel
theorem dJxe99ae_doubleToLongBits_ccdee_0 : decode cJxe99ae_doubleToLongBits_ccdee 0 = .ok (.dload_n 0, 1) := by decide +kernel
theorem dJxe99ae_doubleToLongBits_ccdee_1 : decode cJxe99ae_doubleToLongBits_ccdee 1 = .ok (.invokestatic 122, 3) := by decide +kernel
theorem dJxe99ae_doubleToLongBits_ccdee_4 : decode cJxe99ae_doubleToLongBits_ccdee 4 = .ok (.ifCond .ne 8, 3) := by decide +kernel
theorem dJxe99ae_doubleToLongBits_ccdee_7 : decode cJxe99ae_doubleToLongBits_ccdee 7 = .ok (.dload_n 0, 1) := by decide +kernel
theorem dJxe99ae_doubleToLongBits_ccdee_8 : decode cJxe99ae_doubleToLongBits_ccdee 8 = .ok (.invokestatic 134, 3) := by decide +kernel
theorem dJxe99ae_doubleToLongBits_ccdee_11 : decode cJxe99ae_doubleToLongBits_ccdee 11 = .ok (.lreturn, 1) := by decide +kernel
theorem dJxe99ae_doubleToLongBits_ccdee_12 : decode cJxe99ae_doubleToLongBits_ccdee 12 = .ok (.ldc2_w 137, 3) := by decide +kernel
theorem dJxe99ae_doubleToLongBits_ccdee_15 : decode cJxe99ae_doubleToLongBits_ccdee 15 = .ok (.lreturn, 1) := by decide +kernel
theorem dJ9_max_7cf53_0 : decode cJ9_max_7cf53 0 = .ok (.iload_n 0, 1) := by decide +kernel
theorem dJ9_max_7cf53_1 : decode cJ9_max_7cf53 1 = .ok (.iload_n 1, 1) := by decide +kernel
theorem dJ9_max_7cf53_2 : decode cJ9_max_7cf53 2 = .ok (.if_icmp .lt 7, 3) := by decide +kernel
theorem dJ9_max_7cf53_5 : decode cJ9_max_7cf53 5 = .ok (.iload_n 0, 1) := by decide +kernel
theorem dJ9_max_7cf53_6 : decode cJ9_max_7cf53 6 = .ok (.goto 4, 3) := by decide +kernel
theorem dJ9_max_7cf53_9 : decode cJ9_max_7cf53 9 = .ok (.iload_n 1, 1) := by decide +kernel
theorem dJ9_max_7cf53_10 : decode cJ9_max_7cf53 10 = .ok (.ireturn, 1) := by decide +kernel
theorem dJ9_min_7cf53_0 : decode cJ9_min_7cf53 0 = .ok (.iload_n 0, 1) := by decide +kernel
theorem dJ9_min_7cf53_1 : decode cJ9_min_7cf53 1 = .ok (.iload_n 1, 1) := by decide +kernel
theorem dJ9_min_7cf53_2 : decode cJ9_min_7cf53 2 = .ok (.if_icmp .gt 7, 3) := by decide +kernel
theorem dJ9_min_7cf53_5 : decode cJ9_min_7cf53 5 = .ok (.iload_n 0, 1) := by decide +kernel
theorem dJ9_min_7cf53_6 : decode cJ9_min_7cf53 6 = .ok (.goto 4, 3) := by decide +kernel
theorem dJ9_min_7cf53_9 : decode cJ9_min_7cf53 9 = .ok (.iload_n 1, 1) := by decide +kernel
theorem dJ9_min_7cf53_10 : decode cJ9_min_7cf53 10 = .ok (.ireturn, 1) := by decide +kernel
