theorem dX7_init_0 : decode cX7_init 0 = .ok (.aload_n 0, 1) := by decide +kernel
theorem dX7_init_1 : decode cX7_init 1 = .ok (.invokespecial 1, 3) := by decide +kernel
theorem dX7_init_4 : decode cX7_init 4 = .ok (.aload_n 0, 1) := by decide +kernel
theorem dX7_init_5 : decode cX7_init 5 = .ok (.sipush 260, 3) := by decide +kernel
theorem dX7_init_8 : decode cX7_init 8 = .ok (.newarray .int, 2) := by decide +kernel
theorem dX7_init_10 : decode cX7_init 10 = .ok (.putfield 7, 3) := by decide +kernel
theorem dX7_init_13 : decode cX7_init 13 = .ok (.aload_n 0, 1) := by decide +kernel
theorem dX7_init_14 : decode cX7_init 14 = .ok (.sipush 1560, 3) := by decide +kernel
theorem dX7_init_17 : decode cX7_init 17 = .ok (.newarray .int, 2) := by decide +kernel
theorem dX7_init_19 : decode cX7_init 19 = .ok (.putfield 13, 3) := by decide +kernel
theorem dX7_init_22 : decode cX7_init 22 = .ok (.aload_n 0, 1) := by decide +kernel
theorem dX7_init_23 : decode cX7_init 23 = .ok (.bipush 60, 2) := by decide +kernel
theorem dX7_init_25 : decode cX7_init 25 = .ok (.newarray .int, 2) := by decide +kernel
theorem dX7_init_27 : decode cX7_init 27 = .ok (.putfield 16, 3) := by decide +kernel
theorem dX7_init_30 : decode cX7_init 30 = .ok (.aload_n 0, 1) := by decide +kernel
theorem dX7_init_31 : decode cX7_init 31 = .ok (.bipush 48, 2) := by decide +kernel
theorem dX7_init_33 : decode cX7_init 33 = .ok (.newarray .int, 2) := by decide +kernel
theorem dX7_init_35 : decode cX7_init 35 = .ok (.putfield 19, 3) := by decide +kernel
theorem dX7_init_38 : decode cX7_init 38 = .ok (.aload_n 0, 1) := by decide +kernel
theorem dX7_init_39 : decode cX7_init 39 = .ok (.bipush 64, 2) := by decide +kernel
theorem dX7_init_41 : decode cX7_init 41 = .ok (.newarray .int, 2) := by decide +kernel
theorem dX7_init_43 : decode cX7_init 43 = .ok (.putfield 22, 3) := by decide +kernel
theorem dX7_init_46 : decode cX7_init 46 = .ok (.aload_n 0, 1) := by decide +kernel
theorem dX7_init_47 : decode cX7_init 47 = .ok (.getfield 7, 3) := by decide +kernel
theorem dX7_init_50 : decode cX7_init 50 = .ok (.iconst 0, 1) := by decide +kernel
theorem dX7_init_51 : decode cX7_init 51 = .ok (.bipush 30, 2) := by decide +kernel
theorem dX7_init_53 : decode cX7_init 53 = .ok (.iastore, 1) := by decide +kernel
theorem dX7_init_54 : decode cX7_init 54 = .ok (.aload_n 0, 1) := by decide +kernel
theorem dX7_init_55 : decode cX7_init 55 = .ok (.getfield 7, 3) := by decide +kernel
theorem dX7_init_58 : decode cX7_init 58 = .ok (.iconst 1, 1) := by decide +kernel
theorem dX7_init_59 : decode cX7_init 59 = .ok (.iconst 4, 1) := by decide +kernel
theorem dX7_init_60 : decode cX7_init 60 = .ok (.iastore, 1) := by decide +kernel
theorem dX7_init_61 : decode cX7_init 61 = .ok (.return_, 1) := by decide +kernel
theorem dX7_thrown_0 : decode cX7_thrown 0 = .ok (.aload_n 0, 1) := by decide +kernel
theorem dX7_thrown_1 : decode cX7_thrown 1 = .ok (.getfield 25, 3) := by decide +kernel
theorem dX7_thrown_4 : decode cX7_thrown 4 = .ok (.ireturn, 1) := by decide +kernel
theorem dX7_within_0 : decode cX7_within 0 = .ok (.iload_n 0, 1) := by decide +kernel
theorem dX7_within_1 : decode cX7_within 1 = .ok (.iload_n 1, 1) := by decide +kernel
theorem dX7_within_2 : decode cX7_within 2 = .ok (.if_icmp .lt 12, 3) := by decide +kernel
theorem dX7_within_5 : decode cX7_within 5 = .ok (.iload_n 0, 1) := by decide +kernel
theorem dX7_within_6 : decode cX7_within 6 = .ok (.iload_n 2, 1) := by decide +kernel
theorem dX7_within_7 : decode cX7_within 7 = .ok (.if_icmp .gt 7, 3) := by decide +kernel
theorem dX7_within_10 : decode cX7_within 10 = .ok (.iconst 1, 1) := by decide +kernel
theorem dX7_within_11 : decode cX7_within 11 = .ok (.goto 4, 3) := by decide +kernel
theorem dX7_within_14 : decode cX7_within 14 = .ok (.iconst 0, 1) := by decide +kernel
theorem dX7_within_15 : decode cX7_within 15 = .ok (.ireturn, 1) := by decide +kernel
theorem dX7_save_0 : decode cX7_save 0 = .ok (.aload_n 0, 1) := by decide +kernel
theorem dX7_save_1 : decode cX7_save 1 = .ok (.getfield 29, 3) := by decide +kernel
theorem dX7_save_4 : decode cX7_save 4 = .ok (.bipush 6, 2) := by decide +kernel
theorem dX7_save_6 : decode cX7_save 6 = .ok (.if_icmp .ne 46, 3) := by decide +kernel
theorem dX7_save_9 : decode cX7_save 9 = .ok (.sipush 260, 3) := by decide +kernel
theorem dX7_save_12 : decode cX7_save 12 = .ok (.istore_n 1, 1) := by decide +kernel
theorem dX7_save_13 : decode cX7_save 13 = .ok (.iload_n 1, 1) := by decide +kernel
theorem dX7_save_14 : decode cX7_save 14 = .ok (.sipush 1560, 3) := by decide +kernel
theorem dX7_save_17 : decode cX7_save 17 = .ok (.if_icmp .ge 25, 3) := by decide +kernel
theorem dX7_save_20 : decode cX7_save 20 = .ok (.aload_n 0, 1) := by decide +kernel
theorem dX7_save_21 : decode cX7_save 21 = .ok (.getfield 13, 3) := by decide +kernel
theorem dX7_save_24 : decode cX7_save 24 = .ok (.iload_n 1, 1) := by decide +kernel
theorem dX7_save_25 : decode cX7_save 25 = .ok (.sipush 260, 3) := by decide +kernel
theorem dX7_save_28 : decode cX7_save 28 = .ok (.isub, 1) := by decide +kernel
theorem dX7_save_29 : decode cX7_save 29 = .ok (.aload_n 0, 1) := by decide +kernel
theorem dX7_save_30 : decode cX7_save 30 = .ok (.getfield 13, 3) := by decide +kernel
theorem dX7_save_33 : decode cX7_save 33 = .ok (.iload_n 1, 1) := by decide +kernel
theorem dX7_save_34 : decode cX7_save 34 = .ok (.iaload, 1) := by decide +kernel
theorem dX7_save_35 : decode cX7_save 35 = .ok (.iastore, 1) := by decide +kernel
theorem dX7_save_36 : decode cX7_save 36 = .ok (.iinc 1 1, 3) := by decide +kernel
theorem dX7_save_39 : decode cX7_save 39 = .ok (.goto (-26), 3) := by decide +kernel
theorem dX7_save_42 : decode cX7_save 42 = .ok (.aload_n 0, 1) := by decide +kernel
theorem dX7_save_43 : decode cX7_save 43 = .ok (.dup, 1) := by decide +kernel
theorem dX7_save_44 : decode cX7_save 44 = .ok (.getfield 29, 3) := by decide +kernel
theorem dX7_save_47 : decode cX7_save 47 = .ok (.iconst 1, 1) := by decide +kernel
theorem dX7_save_48 : decode cX7_save 48 = .ok (.isub, 1) := by decide +kernel
theorem dX7_save_49 : decode cX7_save 49 = .ok (.putfield 29, 3) := by decide +kernel
theorem dX7_save_52 : decode cX7_save 52 = .ok (.iconst 0, 1) := by decide +kernel
theorem dX7_save_53 : decode cX7_save 53 = .ok (.istore_n 1, 1) := by decide +kernel
theorem dX7_save_54 : decode cX7_save 54 = .ok (.iload_n 1, 1) := by decide +kernel
theorem dX7_save_55 : decode cX7_save 55 = .ok (.sipush 260, 3) := by decide +kernel
theorem dX7_save_58 : decode cX7_save 58 = .ok (.if_icmp .ge 30, 3) := by decide +kernel
theorem dX7_save_61 : decode cX7_save 61 = .ok (.aload_n 0, 1) := by decide +kernel
theorem dX7_save_62 : decode cX7_save 62 = .ok (.getfield 13, 3) := by decide +kernel
theorem dX7_save_65 : decode cX7_save 65 = .ok (.sipush 260, 3) := by decide +kernel
theorem dX7_save_68 : decode cX7_save 68 = .ok (.aload_n 0, 1) := by decide +kernel
theorem dX7_save_69 : decode cX7_save 69 = .ok (.getfield 29, 3) := by decide +kernel
theorem dX7_save_72 : decode cX7_save 72 = .ok (.imul, 1) := by decide +kernel
theorem dX7_save_73 : decode cX7_save 73 = .ok (.iload_n 1, 1) := by decide +kernel
theorem dX7_save_74 : decode cX7_save 74 = .ok (.iadd, 1) := by decide +kernel
theorem dX7_save_75 : decode cX7_save 75 = .ok (.aload_n 0, 1) := by decide +kernel
theorem dX7_save_76 : decode cX7_save 76 = .ok (.getfield 7, 3) := by decide +kernel
theorem dX7_save_79 : decode cX7_save 79 = .ok (.iload_n 1, 1) := by decide +kernel
theorem dX7_save_80 : decode cX7_save 80 = .ok (.iaload, 1) := by decide +kernel
theorem dX7_save_81 : decode cX7_save 81 = .ok (.iastore, 1) := by decide +kernel
theorem dX7_save_82 : decode cX7_save 82 = .ok (.iinc 1 1, 3) := by decide +kernel
theorem dX7_save_85 : decode cX7_save 85 = .ok (.goto (-31), 3) := by decide +kernel
theorem dX7_save_88 : decode cX7_save 88 = .ok (.aload_n 0, 1) := by decide +kernel
theorem dX7_save_89 : decode cX7_save 89 = .ok (.dup, 1) := by decide +kernel
theorem dX7_save_90 : decode cX7_save 90 = .ok (.getfield 29, 3) := by decide +kernel
theorem dX7_save_93 : decode cX7_save 93 = .ok (.iconst 1, 1) := by decide +kernel
theorem dX7_save_94 : decode cX7_save 94 = .ok (.iadd, 1) := by decide +kernel
theorem dX7_save_95 : decode cX7_save 95 = .ok (.putfield 29, 3) := by decide +kernel
theorem dX7_save_98 : decode cX7_save 98 = .ok (.return_, 1) := by decide +kernel
theorem dX7_isBlock_0 : decode cX7_isBlock 0 = .ok (.iload_n 1, 1) := by decide +kernel
theorem dX7_isBlock_1 : decode cX7_isBlock 1 = .ok (.iconst 0, 1) := by decide +kernel
theorem dX7_isBlock_2 : decode cX7_isBlock 2 = .ok (.aload_n 0, 1) := by decide +kernel
theorem dX7_isBlock_3 : decode cX7_isBlock 3 = .ok (.getfield 7, 3) := by decide +kernel
theorem dX7_isBlock_6 : decode cX7_isBlock 6 = .ok (.iconst 2, 1) := by decide +kernel
theorem dX7_isBlock_7 : decode cX7_isBlock 7 = .ok (.iaload, 1) := by decide +kernel
theorem dX7_isBlock_8 : decode cX7_isBlock 8 = .ok (.iconst 1, 1) := by decide +kernel
theorem dX7_isBlock_9 : decode cX7_isBlock 9 = .ok (.isub, 1) := by decide +kernel
theorem dX7_isBlock_10 : decode cX7_isBlock 10 = .ok (.invokestatic 32, 3) := by decide +kernel
theorem dX7_isBlock_13 : decode cX7_isBlock 13 = .ok (.ireturn, 1) := by decide +kernel
theorem dX7_of_0 : decode cX7_of 0 = .ok (.aload_n 0, 1) := by decide +kernel
theorem dX7_of_1 : decode cX7_of 1 = .ok (.getfield 7, 3) := by decide +kernel
theorem dX7_of_4 : decode cX7_of 4 = .ok (.iconst 4, 1) := by decide +kernel
theorem dX7_of_5 : decode cX7_of 5 = .ok (.bipush 32, 2) := by decide +kernel
theorem dX7_of_7 : decode cX7_of 7 = .ok (.iload_n 1, 1) := by decide +kernel
theorem dX7_of_8 : decode cX7_of 8 = .ok (.imul, 1) := by decide +kernel
theorem dX7_of_9 : decode cX7_of 9 = .ok (.iadd, 1) := by decide +kernel
theorem dX7_of_10 : decode cX7_of 10 = .ok (.iload_n 2, 1) := by decide +kernel
theorem dX7_of_11 : decode cX7_of 11 = .ok (.iadd, 1) := by decide +kernel
theorem dX7_of_12 : decode cX7_of 12 = .ok (.iaload, 1) := by decide +kernel
theorem dX7_of_13 : decode cX7_of 13 = .ok (.ireturn, 1) := by decide +kernel
theorem dX7_setOf_0 : decode cX7_setOf 0 = .ok (.aload_n 0, 1) := by decide +kernel
theorem dX7_setOf_1 : decode cX7_setOf 1 = .ok (.getfield 7, 3) := by decide +kernel
theorem dX7_setOf_4 : decode cX7_setOf 4 = .ok (.iconst 4, 1) := by decide +kernel
theorem dX7_setOf_5 : decode cX7_setOf 5 = .ok (.bipush 32, 2) := by decide +kernel
theorem dX7_setOf_7 : decode cX7_setOf 7 = .ok (.iload_n 1, 1) := by decide +kernel
theorem dX7_setOf_8 : decode cX7_setOf 8 = .ok (.imul, 1) := by decide +kernel
theorem dX7_setOf_9 : decode cX7_setOf 9 = .ok (.iadd, 1) := by decide +kernel
theorem dX7_setOf_10 : decode cX7_setOf 10 = .ok (.iload_n 2, 1) := by decide +kernel
theorem dX7_setOf_11 : decode cX7_setOf 11 = .ok (.iadd, 1) := by decide +kernel
theorem dX7_setOf_12 : decode cX7_setOf 12 = .ok (.iload_n 3, 1) := by decide +kernel
theorem dX7_setOf_13 : decode cX7_setOf 13 = .ok (.iastore, 1) := by decide +kernel
theorem dX7_setOf_14 : decode cX7_setOf 14 = .ok (.return_, 1) := by decide +kernel
theorem dX7_isPlace_0 : decode cX7_isPlace 0 = .ok (.aload_n 0, 1) := by decide +kernel
theorem dX7_isPlace_1 : decode cX7_isPlace 1 = .ok (.iload_n 1, 1) := by decide +kernel
theorem dX7_isPlace_2 : decode cX7_isPlace 2 = .ok (.invokevirtual 36, 3) := by decide +kernel
theorem dX7_isPlace_5 : decode cX7_isPlace 5 = .ok (.ifCond .eq 23, 3) := by decide +kernel
theorem dX7_isPlace_8 : decode cX7_isPlace 8 = .ok (.iload_n 2, 1) := by decide +kernel
theorem dX7_isPlace_9 : decode cX7_isPlace 9 = .ok (.iconst 0, 1) := by decide +kernel
theorem dX7_isPlace_10 : decode cX7_isPlace 10 = .ok (.aload_n 0, 1) := by decide +kernel
theorem dX7_isPlace_11 : decode cX7_isPlace 11 = .ok (.iload_n 1, 1) := by decide +kernel
theorem dX7_isPlace_12 : decode cX7_isPlace 12 = .ok (.iconst 0, 1) := by decide +kernel
theorem dX7_isPlace_13 : decode cX7_isPlace 13 = .ok (.invokevirtual 40, 3) := by decide +kernel
theorem dX7_isPlace_16 : decode cX7_isPlace 16 = .ok (.iconst 1, 1) := by decide +kernel
theorem dX7_isPlace_17 : decode cX7_isPlace 17 = .ok (.isub, 1) := by decide +kernel
theorem dX7_isPlace_18 : decode cX7_isPlace 18 = .ok (.invokestatic 32, 3) := by decide +kernel
theorem dX7_isPlace_21 : decode cX7_isPlace 21 = .ok (.ifCond .eq 7, 3) := by decide +kernel
theorem dX7_isPlace_24 : decode cX7_isPlace 24 = .ok (.iconst 1, 1) := by decide +kernel
theorem dX7_isPlace_25 : decode cX7_isPlace 25 = .ok (.goto 4, 3) := by decide +kernel
theorem dX7_isPlace_28 : decode cX7_isPlace 28 = .ok (.iconst 0, 1) := by decide +kernel
theorem dX7_isPlace_29 : decode cX7_isPlace 29 = .ok (.ireturn, 1) := by decide +kernel
theorem dX7_isValue_0 : decode cX7_isValue 0 = .ok (.iload_n 0, 1) := by decide +kernel
theorem dX7_isValue_1 : decode cX7_isValue 1 = .ok (.iconst 0, 1) := by decide +kernel
theorem dX7_isValue_2 : decode cX7_isValue 2 = .ok (.sipush 255, 3) := by decide +kernel
theorem dX7_isValue_5 : decode cX7_isValue 5 = .ok (.invokestatic 32, 3) := by decide +kernel
theorem dX7_isValue_8 : decode cX7_isValue 8 = .ok (.ireturn, 1) := by decide +kernel
theorem dX7_lay_0 : decode cX7_lay 0 = .ok (.aload_n 0, 1) := by decide +kernel
theorem dX7_lay_1 : decode cX7_lay 1 = .ok (.aload_n 0, 1) := by decide +kernel
theorem dX7_lay_2 : decode cX7_lay 2 = .ok (.iload_n 1, 1) := by decide +kernel
theorem dX7_lay_3 : decode cX7_lay 3 = .ok (.iconst 0, 1) := by decide +kernel
theorem dX7_lay_4 : decode cX7_lay 4 = .ok (.invokevirtual 40, 3) := by decide +kernel
theorem dX7_lay_7 : decode cX7_lay 7 = .ok (.putfield 44, 3) := by decide +kernel
theorem dX7_lay_10 : decode cX7_lay 10 = .ok (.iconst 0, 1) := by decide +kernel
theorem dX7_lay_11 : decode cX7_lay 11 = .ok (.istore_n 2, 1) := by decide +kernel
theorem dX7_lay_12 : decode cX7_lay 12 = .ok (.iload_n 2, 1) := by decide +kernel
theorem dX7_lay_13 : decode cX7_lay 13 = .ok (.aload_n 0, 1) := by decide +kernel
theorem dX7_lay_14 : decode cX7_lay 14 = .ok (.getfield 44, 3) := by decide +kernel
theorem dX7_lay_17 : decode cX7_lay 17 = .ok (.if_icmp .ge 24, 3) := by decide +kernel
theorem dX7_lay_20 : decode cX7_lay 20 = .ok (.aload_n 0, 1) := by decide +kernel
theorem dX7_lay_21 : decode cX7_lay 21 = .ok (.getfield 19, 3) := by decide +kernel
theorem dX7_lay_24 : decode cX7_lay 24 = .ok (.iload_n 2, 1) := by decide +kernel
theorem dX7_lay_25 : decode cX7_lay 25 = .ok (.aload_n 0, 1) := by decide +kernel
theorem dX7_lay_26 : decode cX7_lay 26 = .ok (.iload_n 1, 1) := by decide +kernel
theorem dX7_lay_27 : decode cX7_lay 27 = .ok (.bipush 8, 2) := by decide +kernel
theorem dX7_lay_29 : decode cX7_lay 29 = .ok (.iload_n 2, 1) := by decide +kernel
theorem dX7_lay_30 : decode cX7_lay 30 = .ok (.iadd, 1) := by decide +kernel
theorem dX7_lay_31 : decode cX7_lay 31 = .ok (.invokevirtual 40, 3) := by decide +kernel
theorem dX7_lay_34 : decode cX7_lay 34 = .ok (.iastore, 1) := by decide +kernel
theorem dX7_lay_35 : decode cX7_lay 35 = .ok (.iinc 2 1, 3) := by decide +kernel
theorem dX7_lay_38 : decode cX7_lay 38 = .ok (.goto (-26), 3) := by decide +kernel
theorem dX7_lay_41 : decode cX7_lay 41 = .ok (.return_, 1) := by decide +kernel
theorem dX7_layBoth_0 : decode cX7_layBoth 0 = .ok (.aload_n 0, 1) := by decide +kernel
theorem dX7_layBoth_1 : decode cX7_layBoth 1 = .ok (.iload_n 1, 1) := by decide +kernel
theorem dX7_layBoth_2 : decode cX7_layBoth 2 = .ok (.invokevirtual 47, 3) := by decide +kernel
theorem dX7_layBoth_5 : decode cX7_layBoth 5 = .ok (.iconst 0, 1) := by decide +kernel
theorem dX7_layBoth_6 : decode cX7_layBoth 6 = .ok (.istore_n 3, 1) := by decide +kernel
theorem dX7_layBoth_7 : decode cX7_layBoth 7 = .ok (.iload_n 3, 1) := by decide +kernel
theorem dX7_layBoth_8 : decode cX7_layBoth 8 = .ok (.aload_n 0, 1) := by decide +kernel
theorem dX7_layBoth_9 : decode cX7_layBoth 9 = .ok (.iload_n 2, 1) := by decide +kernel
theorem dX7_layBoth_10 : decode cX7_layBoth 10 = .ok (.iconst 0, 1) := by decide +kernel
theorem dX7_layBoth_11 : decode cX7_layBoth 11 = .ok (.invokevirtual 40, 3) := by decide +kernel
theorem dX7_layBoth_14 : decode cX7_layBoth 14 = .ok (.if_icmp .ge 29, 3) := by decide +kernel
theorem dX7_layBoth_17 : decode cX7_layBoth 17 = .ok (.aload_n 0, 1) := by decide +kernel
theorem dX7_layBoth_18 : decode cX7_layBoth 18 = .ok (.getfield 19, 3) := by decide +kernel
theorem dX7_layBoth_21 : decode cX7_layBoth 21 = .ok (.aload_n 0, 1) := by decide +kernel
theorem dX7_layBoth_22 : decode cX7_layBoth 22 = .ok (.getfield 44, 3) := by decide +kernel
theorem dX7_layBoth_25 : decode cX7_layBoth 25 = .ok (.iload_n 3, 1) := by decide +kernel
theorem dX7_layBoth_26 : decode cX7_layBoth 26 = .ok (.iadd, 1) := by decide +kernel
theorem dX7_layBoth_27 : decode cX7_layBoth 27 = .ok (.aload_n 0, 1) := by decide +kernel
theorem dX7_layBoth_28 : decode cX7_layBoth 28 = .ok (.iload_n 2, 1) := by decide +kernel
theorem dX7_layBoth_29 : decode cX7_layBoth 29 = .ok (.bipush 8, 2) := by decide +kernel
theorem dX7_layBoth_31 : decode cX7_layBoth 31 = .ok (.iload_n 3, 1) := by decide +kernel
theorem dX7_layBoth_32 : decode cX7_layBoth 32 = .ok (.iadd, 1) := by decide +kernel
theorem dX7_layBoth_33 : decode cX7_layBoth 33 = .ok (.invokevirtual 40, 3) := by decide +kernel
theorem dX7_layBoth_36 : decode cX7_layBoth 36 = .ok (.iastore, 1) := by decide +kernel
theorem dX7_layBoth_37 : decode cX7_layBoth 37 = .ok (.iinc 3 1, 3) := by decide +kernel
theorem dX7_layBoth_40 : decode cX7_layBoth 40 = .ok (.goto (-33), 3) := by decide +kernel
theorem dX7_layBoth_43 : decode cX7_layBoth 43 = .ok (.aload_n 0, 1) := by decide +kernel
theorem dX7_layBoth_44 : decode cX7_layBoth 44 = .ok (.dup, 1) := by decide +kernel
theorem dX7_layBoth_45 : decode cX7_layBoth 45 = .ok (.getfield 44, 3) := by decide +kernel
theorem dX7_layBoth_48 : decode cX7_layBoth 48 = .ok (.aload_n 0, 1) := by decide +kernel
theorem dX7_layBoth_49 : decode cX7_layBoth 49 = .ok (.iload_n 2, 1) := by decide +kernel
theorem dX7_layBoth_50 : decode cX7_layBoth 50 = .ok (.iconst 0, 1) := by decide +kernel
theorem dX7_layBoth_51 : decode cX7_layBoth 51 = .ok (.invokevirtual 40, 3) := by decide +kernel
theorem dX7_layBoth_54 : decode cX7_layBoth 54 = .ok (.iadd, 1) := by decide +kernel
theorem dX7_layBoth_55 : decode cX7_layBoth 55 = .ok (.putfield 44, 3) := by decide +kernel
theorem dX7_layBoth_58 : decode cX7_layBoth 58 = .ok (.return_, 1) := by decide +kernel
theorem dX7_timesOf_0 : decode cX7_timesOf 0 = .ok (.iconst 0, 1) := by decide +kernel
theorem dX7_timesOf_1 : decode cX7_timesOf 1 = .ok (.istore_n 2, 1) := by decide +kernel
theorem dX7_timesOf_2 : decode cX7_timesOf 2 = .ok (.iconst 0, 1) := by decide +kernel
theorem dX7_timesOf_3 : decode cX7_timesOf 3 = .ok (.istore_n 3, 1) := by decide +kernel
theorem dX7_timesOf_4 : decode cX7_timesOf 4 = .ok (.iload_n 3, 1) := by decide +kernel
theorem dX7_timesOf_5 : decode cX7_timesOf 5 = .ok (.aload_n 0, 1) := by decide +kernel
theorem dX7_timesOf_6 : decode cX7_timesOf 6 = .ok (.getfield 44, 3) := by decide +kernel
theorem dX7_timesOf_9 : decode cX7_timesOf 9 = .ok (.if_icmp .ge 27, 3) := by decide +kernel
theorem dX7_timesOf_12 : decode cX7_timesOf 12 = .ok (.iload_n 2, 1) := by decide +kernel
theorem dX7_timesOf_13 : decode cX7_timesOf 13 = .ok (.aload_n 0, 1) := by decide +kernel
theorem dX7_timesOf_14 : decode cX7_timesOf 14 = .ok (.getfield 19, 3) := by decide +kernel
theorem dX7_timesOf_17 : decode cX7_timesOf 17 = .ok (.iload_n 3, 1) := by decide +kernel
theorem dX7_timesOf_18 : decode cX7_timesOf 18 = .ok (.iaload, 1) := by decide +kernel
theorem dX7_timesOf_19 : decode cX7_timesOf 19 = .ok (.iload_n 1, 1) := by decide +kernel
theorem dX7_timesOf_20 : decode cX7_timesOf 20 = .ok (.if_icmp .ne 7, 3) := by decide +kernel
theorem dX7_timesOf_23 : decode cX7_timesOf 23 = .ok (.iconst 1, 1) := by decide +kernel
theorem dX7_timesOf_24 : decode cX7_timesOf 24 = .ok (.goto 4, 3) := by decide +kernel
theorem dX7_timesOf_27 : decode cX7_timesOf 27 = .ok (.iconst 0, 1) := by decide +kernel
theorem dX7_timesOf_28 : decode cX7_timesOf 28 = .ok (.iadd, 1) := by decide +kernel
theorem dX7_timesOf_29 : decode cX7_timesOf 29 = .ok (.istore_n 2, 1) := by decide +kernel
theorem dX7_timesOf_30 : decode cX7_timesOf 30 = .ok (.iinc 3 1, 3) := by decide +kernel
theorem dX7_timesOf_33 : decode cX7_timesOf 33 = .ok (.goto (-29), 3) := by decide +kernel
theorem dX7_timesOf_36 : decode cX7_timesOf 36 = .ok (.iload_n 2, 1) := by decide +kernel
theorem dX7_timesOf_37 : decode cX7_timesOf 37 = .ok (.ireturn, 1) := by decide +kernel
theorem dX7_firstOf_0 : decode cX7_firstOf 0 = .ok (.iconst 0, 1) := by decide +kernel
theorem dX7_firstOf_1 : decode cX7_firstOf 1 = .ok (.istore_n 2, 1) := by decide +kernel
theorem dX7_firstOf_2 : decode cX7_firstOf 2 = .ok (.iload_n 2, 1) := by decide +kernel
theorem dX7_firstOf_3 : decode cX7_firstOf 3 = .ok (.aload_n 0, 1) := by decide +kernel
theorem dX7_firstOf_4 : decode cX7_firstOf 4 = .ok (.getfield 44, 3) := by decide +kernel
theorem dX7_firstOf_7 : decode cX7_firstOf 7 = .ok (.if_icmp .ge 19, 3) := by decide +kernel
theorem dX7_firstOf_10 : decode cX7_firstOf 10 = .ok (.aload_n 0, 1) := by decide +kernel
theorem dX7_firstOf_11 : decode cX7_firstOf 11 = .ok (.getfield 19, 3) := by decide +kernel
theorem dX7_firstOf_14 : decode cX7_firstOf 14 = .ok (.iload_n 2, 1) := by decide +kernel
theorem dX7_firstOf_15 : decode cX7_firstOf 15 = .ok (.iaload, 1) := by decide +kernel
theorem dX7_firstOf_16 : decode cX7_firstOf 16 = .ok (.iload_n 1, 1) := by decide +kernel
theorem dX7_firstOf_17 : decode cX7_firstOf 17 = .ok (.if_icmp .eq 9, 3) := by decide +kernel
theorem dX7_firstOf_20 : decode cX7_firstOf 20 = .ok (.iinc 2 1, 3) := by decide +kernel
theorem dX7_firstOf_23 : decode cX7_firstOf 23 = .ok (.goto (-21), 3) := by decide +kernel
theorem dX7_firstOf_26 : decode cX7_firstOf 26 = .ok (.iload_n 2, 1) := by decide +kernel
theorem dX7_firstOf_27 : decode cX7_firstOf 27 = .ok (.ireturn, 1) := by decide +kernel
theorem dX7_runsOf_0 : decode cX7_runsOf 0 = .ok (.iload_n 1, 1) := by decide +kernel
theorem dX7_runsOf_1 : decode cX7_runsOf 1 = .ok (.ifCond .le 7, 3) := by decide +kernel
theorem dX7_runsOf_4 : decode cX7_runsOf 4 = .ok (.iconst 1, 1) := by decide +kernel
theorem dX7_runsOf_5 : decode cX7_runsOf 5 = .ok (.goto 4, 3) := by decide +kernel
theorem dX7_runsOf_8 : decode cX7_runsOf 8 = .ok (.iconst 0, 1) := by decide +kernel
theorem dX7_runsOf_9 : decode cX7_runsOf 9 = .ok (.istore_n 2, 1) := by decide +kernel
theorem dX7_runsOf_10 : decode cX7_runsOf 10 = .ok (.iconst 1, 1) := by decide +kernel
theorem dX7_runsOf_11 : decode cX7_runsOf 11 = .ok (.istore_n 3, 1) := by decide +kernel
theorem dX7_runsOf_12 : decode cX7_runsOf 12 = .ok (.iload_n 3, 1) := by decide +kernel
theorem dX7_runsOf_13 : decode cX7_runsOf 13 = .ok (.iload_n 1, 1) := by decide +kernel
theorem dX7_runsOf_14 : decode cX7_runsOf 14 = .ok (.if_icmp .ge 34, 3) := by decide +kernel
theorem dX7_runsOf_17 : decode cX7_runsOf 17 = .ok (.iload_n 2, 1) := by decide +kernel
theorem dX7_runsOf_18 : decode cX7_runsOf 18 = .ok (.aload_n 0, 1) := by decide +kernel
theorem dX7_runsOf_19 : decode cX7_runsOf 19 = .ok (.getfield 19, 3) := by decide +kernel
theorem dX7_runsOf_22 : decode cX7_runsOf 22 = .ok (.iload_n 3, 1) := by decide +kernel
theorem dX7_runsOf_23 : decode cX7_runsOf 23 = .ok (.iaload, 1) := by decide +kernel
theorem dX7_runsOf_24 : decode cX7_runsOf 24 = .ok (.aload_n 0, 1) := by decide +kernel
theorem dX7_runsOf_25 : decode cX7_runsOf 25 = .ok (.getfield 19, 3) := by decide +kernel
theorem dX7_runsOf_28 : decode cX7_runsOf 28 = .ok (.iload_n 3, 1) := by decide +kernel
theorem dX7_runsOf_29 : decode cX7_runsOf 29 = .ok (.iconst 1, 1) := by decide +kernel
theorem dX7_runsOf_30 : decode cX7_runsOf 30 = .ok (.isub, 1) := by decide +kernel
theorem dX7_runsOf_31 : decode cX7_runsOf 31 = .ok (.iaload, 1) := by decide +kernel
theorem dX7_runsOf_32 : decode cX7_runsOf 32 = .ok (.if_icmp .ne 7, 3) := by decide +kernel
theorem dX7_runsOf_35 : decode cX7_runsOf 35 = .ok (.iconst 0, 1) := by decide +kernel
theorem dX7_runsOf_36 : decode cX7_runsOf 36 = .ok (.goto 4, 3) := by decide +kernel
theorem dX7_runsOf_39 : decode cX7_runsOf 39 = .ok (.iconst 1, 1) := by decide +kernel
theorem dX7_runsOf_40 : decode cX7_runsOf 40 = .ok (.iadd, 1) := by decide +kernel
theorem dX7_runsOf_41 : decode cX7_runsOf 41 = .ok (.istore_n 2, 1) := by decide +kernel
theorem dX7_runsOf_42 : decode cX7_runsOf 42 = .ok (.iinc 3 1, 3) := by decide +kernel
theorem dX7_runsOf_45 : decode cX7_runsOf 45 = .ok (.goto (-33), 3) := by decide +kernel
theorem dX7_runsOf_48 : decode cX7_runsOf 48 = .ok (.iload_n 2, 1) := by decide +kernel
theorem dX7_runsOf_49 : decode cX7_runsOf 49 = .ok (.ireturn, 1) := by decide +kernel
theorem dX7_different_0 : decode cX7_different 0 = .ok (.iconst 0, 1) := by decide +kernel
theorem dX7_different_1 : decode cX7_different 1 = .ok (.istore_n 1, 1) := by decide +kernel
theorem dX7_different_2 : decode cX7_different 2 = .ok (.iconst 0, 1) := by decide +kernel
theorem dX7_different_3 : decode cX7_different 3 = .ok (.istore_n 2, 1) := by decide +kernel
theorem dX7_different_4 : decode cX7_different 4 = .ok (.iload_n 2, 1) := by decide +kernel
theorem dX7_different_5 : decode cX7_different 5 = .ok (.aload_n 0, 1) := by decide +kernel
theorem dX7_different_6 : decode cX7_different 6 = .ok (.getfield 44, 3) := by decide +kernel
theorem dX7_different_9 : decode cX7_different 9 = .ok (.if_icmp .ge 31, 3) := by decide +kernel
theorem dX7_different_12 : decode cX7_different 12 = .ok (.iload_n 1, 1) := by decide +kernel
theorem dX7_different_13 : decode cX7_different 13 = .ok (.aload_n 0, 1) := by decide +kernel
theorem dX7_different_14 : decode cX7_different 14 = .ok (.aload_n 0, 1) := by decide +kernel
theorem dX7_different_15 : decode cX7_different 15 = .ok (.getfield 19, 3) := by decide +kernel
theorem dX7_different_18 : decode cX7_different 18 = .ok (.iload_n 2, 1) := by decide +kernel
theorem dX7_different_19 : decode cX7_different 19 = .ok (.iaload, 1) := by decide +kernel
theorem dX7_different_20 : decode cX7_different 20 = .ok (.invokevirtual 51, 3) := by decide +kernel
theorem dX7_different_23 : decode cX7_different 23 = .ok (.iload_n 2, 1) := by decide +kernel
theorem dX7_different_24 : decode cX7_different 24 = .ok (.if_icmp .ne 7, 3) := by decide +kernel
theorem dX7_different_27 : decode cX7_different 27 = .ok (.iconst 1, 1) := by decide +kernel
theorem dX7_different_28 : decode cX7_different 28 = .ok (.goto 4, 3) := by decide +kernel
theorem dX7_different_31 : decode cX7_different 31 = .ok (.iconst 0, 1) := by decide +kernel
theorem dX7_different_32 : decode cX7_different 32 = .ok (.iadd, 1) := by decide +kernel
theorem dX7_different_33 : decode cX7_different 33 = .ok (.istore_n 1, 1) := by decide +kernel
theorem dX7_different_34 : decode cX7_different 34 = .ok (.iinc 2 1, 3) := by decide +kernel
theorem dX7_different_37 : decode cX7_different 37 = .ok (.goto (-33), 3) := by decide +kernel
theorem dX7_different_40 : decode cX7_different 40 = .ok (.iload_n 1, 1) := by decide +kernel
theorem dX7_different_41 : decode cX7_different 41 = .ok (.ireturn, 1) := by decide +kernel
theorem dX7_bitsFor_0 : decode cX7_bitsFor 0 = .ok (.iconst 0, 1) := by decide +kernel
theorem dX7_bitsFor_1 : decode cX7_bitsFor 1 = .ok (.istore_n 1, 1) := by decide +kernel
theorem dX7_bitsFor_2 : decode cX7_bitsFor 2 = .ok (.iload_n 0, 1) := by decide +kernel
theorem dX7_bitsFor_3 : decode cX7_bitsFor 3 = .ok (.iconst 1, 1) := by decide +kernel
theorem dX7_bitsFor_4 : decode cX7_bitsFor 4 = .ok (.iload_n 1, 1) := by decide +kernel
theorem dX7_bitsFor_5 : decode cX7_bitsFor 5 = .ok (.ishl, 1) := by decide +kernel
theorem dX7_bitsFor_6 : decode cX7_bitsFor 6 = .ok (.if_icmp .le 9, 3) := by decide +kernel
theorem dX7_bitsFor_9 : decode cX7_bitsFor 9 = .ok (.iinc 1 1, 3) := by decide +kernel
theorem dX7_bitsFor_12 : decode cX7_bitsFor 12 = .ok (.goto (-10), 3) := by decide +kernel
theorem dX7_bitsFor_15 : decode cX7_bitsFor 15 = .ok (.iload_n 1, 1) := by decide +kernel
theorem dX7_bitsFor_16 : decode cX7_bitsFor 16 = .ok (.ireturn, 1) := by decide +kernel
theorem dX7_stepBits_0 : decode cX7_stepBits 0 = .ok (.iconst 0, 1) := by decide +kernel
theorem dX7_stepBits_1 : decode cX7_stepBits 1 = .ok (.istore_n 1, 1) := by decide +kernel
theorem dX7_stepBits_2 : decode cX7_stepBits 2 = .ok (.iconst 1, 1) := by decide +kernel
theorem dX7_stepBits_3 : decode cX7_stepBits 3 = .ok (.istore_n 2, 1) := by decide +kernel
theorem dX7_stepBits_4 : decode cX7_stepBits 4 = .ok (.iload_n 2, 1) := by decide +kernel
theorem dX7_stepBits_5 : decode cX7_stepBits 5 = .ok (.aload_n 0, 1) := by decide +kernel
theorem dX7_stepBits_6 : decode cX7_stepBits 6 = .ok (.getfield 44, 3) := by decide +kernel
theorem dX7_stepBits_9 : decode cX7_stepBits 9 = .ok (.if_icmp .ge 62, 3) := by decide +kernel
theorem dX7_stepBits_12 : decode cX7_stepBits 12 = .ok (.aload_n 0, 1) := by decide +kernel
theorem dX7_stepBits_13 : decode cX7_stepBits 13 = .ok (.getfield 19, 3) := by decide +kernel
theorem dX7_stepBits_16 : decode cX7_stepBits 16 = .ok (.iload_n 2, 1) := by decide +kernel
theorem dX7_stepBits_17 : decode cX7_stepBits 17 = .ok (.iaload, 1) := by decide +kernel
theorem dX7_stepBits_18 : decode cX7_stepBits 18 = .ok (.aload_n 0, 1) := by decide +kernel
theorem dX7_stepBits_19 : decode cX7_stepBits 19 = .ok (.getfield 19, 3) := by decide +kernel
theorem dX7_stepBits_22 : decode cX7_stepBits 22 = .ok (.iload_n 2, 1) := by decide +kernel
theorem dX7_stepBits_23 : decode cX7_stepBits 23 = .ok (.iconst 1, 1) := by decide +kernel
theorem dX7_stepBits_24 : decode cX7_stepBits 24 = .ok (.isub, 1) := by decide +kernel
theorem dX7_stepBits_25 : decode cX7_stepBits 25 = .ok (.iaload, 1) := by decide +kernel
theorem dX7_stepBits_26 : decode cX7_stepBits 26 = .ok (.isub, 1) := by decide +kernel
theorem dX7_stepBits_27 : decode cX7_stepBits 27 = .ok (.istore_n 3, 1) := by decide +kernel
theorem dX7_stepBits_28 : decode cX7_stepBits 28 = .ok (.iload_n 1, 1) := by decide +kernel
theorem dX7_stepBits_29 : decode cX7_stepBits 29 = .ok (.ifCond .ne 10, 3) := by decide +kernel
theorem dX7_stepBits_32 : decode cX7_stepBits 32 = .ok (.iload_n 3, 1) := by decide +kernel
theorem dX7_stepBits_33 : decode cX7_stepBits 33 = .ok (.ifCond .eq 32, 3) := by decide +kernel
theorem dX7_stepBits_36 : decode cX7_stepBits 36 = .ok (.goto 23, 3) := by decide +kernel
theorem dX7_stepBits_39 : decode cX7_stepBits 39 = .ok (.iload_n 3, 1) := by decide +kernel
theorem dX7_stepBits_40 : decode cX7_stepBits 40 = .ok (.iconst 1, 1) := by decide +kernel
theorem dX7_stepBits_41 : decode cX7_stepBits 41 = .ok (.iload_n 1, 1) := by decide +kernel
theorem dX7_stepBits_42 : decode cX7_stepBits 42 = .ok (.iconst 1, 1) := by decide +kernel
theorem dX7_stepBits_43 : decode cX7_stepBits 43 = .ok (.isub, 1) := by decide +kernel
theorem dX7_stepBits_44 : decode cX7_stepBits 44 = .ok (.ishl, 1) := by decide +kernel
theorem dX7_stepBits_45 : decode cX7_stepBits 45 = .ok (.ineg, 1) := by decide +kernel
theorem dX7_stepBits_46 : decode cX7_stepBits 46 = .ok (.iconst 1, 1) := by decide +kernel
theorem dX7_stepBits_47 : decode cX7_stepBits 47 = .ok (.iload_n 1, 1) := by decide +kernel
theorem dX7_stepBits_48 : decode cX7_stepBits 48 = .ok (.iconst 1, 1) := by decide +kernel
theorem dX7_stepBits_49 : decode cX7_stepBits 49 = .ok (.isub, 1) := by decide +kernel
theorem dX7_stepBits_50 : decode cX7_stepBits 50 = .ok (.ishl, 1) := by decide +kernel
theorem dX7_stepBits_51 : decode cX7_stepBits 51 = .ok (.iconst 1, 1) := by decide +kernel
theorem dX7_stepBits_52 : decode cX7_stepBits 52 = .ok (.isub, 1) := by decide +kernel
theorem dX7_stepBits_53 : decode cX7_stepBits 53 = .ok (.invokestatic 32, 3) := by decide +kernel
theorem dX7_stepBits_56 : decode cX7_stepBits 56 = .ok (.ifCond .ne 9, 3) := by decide +kernel
theorem dX7_stepBits_59 : decode cX7_stepBits 59 = .ok (.iinc 1 1, 3) := by decide +kernel
theorem dX7_stepBits_62 : decode cX7_stepBits 62 = .ok (.goto (-34), 3) := by decide +kernel
theorem dX7_stepBits_65 : decode cX7_stepBits 65 = .ok (.iinc 2 1, 3) := by decide +kernel
theorem dX7_stepBits_68 : decode cX7_stepBits 68 = .ok (.goto (-64), 3) := by decide +kernel
theorem dX7_stepBits_71 : decode cX7_stepBits 71 = .ok (.iload_n 1, 1) := by decide +kernel
theorem dX7_stepBits_72 : decode cX7_stepBits 72 = .ok (.ireturn, 1) := by decide +kernel
theorem dX7_commonOne_0 : decode cX7_commonOne 0 = .ok (.aload_n 0, 1) := by decide +kernel
theorem dX7_commonOne_1 : decode cX7_commonOne 1 = .ok (.getfield 19, 3) := by decide +kernel
theorem dX7_commonOne_4 : decode cX7_commonOne 4 = .ok (.iconst 0, 1) := by decide +kernel
theorem dX7_commonOne_5 : decode cX7_commonOne 5 = .ok (.iaload, 1) := by decide +kernel
theorem dX7_commonOne_6 : decode cX7_commonOne 6 = .ok (.istore_n 1, 1) := by decide +kernel
theorem dX7_commonOne_7 : decode cX7_commonOne 7 = .ok (.iconst 1, 1) := by decide +kernel
theorem dX7_commonOne_8 : decode cX7_commonOne 8 = .ok (.istore_n 2, 1) := by decide +kernel
theorem dX7_commonOne_9 : decode cX7_commonOne 9 = .ok (.iload_n 2, 1) := by decide +kernel
theorem dX7_commonOne_10 : decode cX7_commonOne 10 = .ok (.aload_n 0, 1) := by decide +kernel
theorem dX7_commonOne_11 : decode cX7_commonOne 11 = .ok (.getfield 44, 3) := by decide +kernel
theorem dX7_commonOne_14 : decode cX7_commonOne 14 = .ok (.if_icmp .ge 55, 3) := by decide +kernel
theorem dX7_commonOne_17 : decode cX7_commonOne 17 = .ok (.aload_n 0, 1) := by decide +kernel
theorem dX7_commonOne_18 : decode cX7_commonOne 18 = .ok (.aload_n 0, 1) := by decide +kernel
theorem dX7_commonOne_19 : decode cX7_commonOne 19 = .ok (.getfield 19, 3) := by decide +kernel
theorem dX7_commonOne_22 : decode cX7_commonOne 22 = .ok (.iload_n 2, 1) := by decide +kernel
theorem dX7_commonOne_23 : decode cX7_commonOne 23 = .ok (.iaload, 1) := by decide +kernel
theorem dX7_commonOne_24 : decode cX7_commonOne 24 = .ok (.invokevirtual 55, 3) := by decide +kernel
theorem dX7_commonOne_27 : decode cX7_commonOne 27 = .ok (.aload_n 0, 1) := by decide +kernel
theorem dX7_commonOne_28 : decode cX7_commonOne 28 = .ok (.iload_n 1, 1) := by decide +kernel
theorem dX7_commonOne_29 : decode cX7_commonOne 29 = .ok (.invokevirtual 55, 3) := by decide +kernel
theorem dX7_commonOne_32 : decode cX7_commonOne 32 = .ok (.isub, 1) := by decide +kernel
theorem dX7_commonOne_33 : decode cX7_commonOne 33 = .ok (.istore_n 3, 1) := by decide +kernel
theorem dX7_commonOne_34 : decode cX7_commonOne 34 = .ok (.iload_n 3, 1) := by decide +kernel
theorem dX7_commonOne_35 : decode cX7_commonOne 35 = .ok (.ifCond .gt 17, 3) := by decide +kernel
theorem dX7_commonOne_38 : decode cX7_commonOne 38 = .ok (.iload_n 3, 1) := by decide +kernel
theorem dX7_commonOne_39 : decode cX7_commonOne 39 = .ok (.ifCond .ne 22, 3) := by decide +kernel
theorem dX7_commonOne_42 : decode cX7_commonOne 42 = .ok (.aload_n 0, 1) := by decide +kernel
theorem dX7_commonOne_43 : decode cX7_commonOne 43 = .ok (.getfield 19, 3) := by decide +kernel
theorem dX7_commonOne_46 : decode cX7_commonOne 46 = .ok (.iload_n 2, 1) := by decide +kernel
theorem dX7_commonOne_47 : decode cX7_commonOne 47 = .ok (.iaload, 1) := by decide +kernel
theorem dX7_commonOne_48 : decode cX7_commonOne 48 = .ok (.iload_n 1, 1) := by decide +kernel
theorem dX7_commonOne_49 : decode cX7_commonOne 49 = .ok (.if_icmp .ge 12, 3) := by decide +kernel
theorem dX7_commonOne_52 : decode cX7_commonOne 52 = .ok (.aload_n 0, 1) := by decide +kernel
theorem dX7_commonOne_53 : decode cX7_commonOne 53 = .ok (.getfield 19, 3) := by decide +kernel
theorem dX7_commonOne_56 : decode cX7_commonOne 56 = .ok (.iload_n 2, 1) := by decide +kernel
theorem dX7_commonOne_57 : decode cX7_commonOne 57 = .ok (.iaload, 1) := by decide +kernel
theorem dX7_commonOne_58 : decode cX7_commonOne 58 = .ok (.goto 4, 3) := by decide +kernel
theorem dX7_commonOne_61 : decode cX7_commonOne 61 = .ok (.iload_n 1, 1) := by decide +kernel
theorem dX7_commonOne_62 : decode cX7_commonOne 62 = .ok (.istore_n 1, 1) := by decide +kernel
theorem dX7_commonOne_63 : decode cX7_commonOne 63 = .ok (.iinc 2 1, 3) := by decide +kernel
theorem dX7_commonOne_66 : decode cX7_commonOne 66 = .ok (.goto (-57), 3) := by decide +kernel
theorem dX7_commonOne_69 : decode cX7_commonOne 69 = .ok (.iload_n 1, 1) := by decide +kernel
theorem dX7_commonOne_70 : decode cX7_commonOne 70 = .ok (.ireturn, 1) := by decide +kernel
theorem dX7_rare_0 : decode cX7_rare 0 = .ok (.aload_n 0, 1) := by decide +kernel
theorem dX7_rare_1 : decode cX7_rare 1 = .ok (.getfield 44, 3) := by decide +kernel
theorem dX7_rare_4 : decode cX7_rare 4 = .ok (.aload_n 0, 1) := by decide +kernel
theorem dX7_rare_5 : decode cX7_rare 5 = .ok (.aload_n 0, 1) := by decide +kernel
theorem dX7_rare_6 : decode cX7_rare 6 = .ok (.invokevirtual 58, 3) := by decide +kernel
theorem dX7_rare_9 : decode cX7_rare 9 = .ok (.invokevirtual 55, 3) := by decide +kernel
theorem dX7_rare_12 : decode cX7_rare 12 = .ok (.isub, 1) := by decide +kernel
theorem dX7_rare_13 : decode cX7_rare 13 = .ok (.ireturn, 1) := by decide +kernel
theorem dX7_least_0 : decode cX7_least 0 = .ok (.aload_n 0, 1) := by decide +kernel
theorem dX7_least_1 : decode cX7_least 1 = .ok (.getfield 19, 3) := by decide +kernel
theorem dX7_least_4 : decode cX7_least 4 = .ok (.iconst 0, 1) := by decide +kernel
theorem dX7_least_5 : decode cX7_least 5 = .ok (.iaload, 1) := by decide +kernel
theorem dX7_least_6 : decode cX7_least 6 = .ok (.istore_n 1, 1) := by decide +kernel
theorem dX7_least_7 : decode cX7_least 7 = .ok (.iconst 1, 1) := by decide +kernel
theorem dX7_least_8 : decode cX7_least 8 = .ok (.istore_n 2, 1) := by decide +kernel
theorem dX7_least_9 : decode cX7_least 9 = .ok (.iload_n 2, 1) := by decide +kernel
theorem dX7_least_10 : decode cX7_least 10 = .ok (.aload_n 0, 1) := by decide +kernel
theorem dX7_least_11 : decode cX7_least 11 = .ok (.getfield 44, 3) := by decide +kernel
theorem dX7_least_14 : decode cX7_least 14 = .ok (.if_icmp .ge 30, 3) := by decide +kernel
theorem dX7_least_17 : decode cX7_least 17 = .ok (.aload_n 0, 1) := by decide +kernel
theorem dX7_least_18 : decode cX7_least 18 = .ok (.getfield 19, 3) := by decide +kernel
theorem dX7_least_21 : decode cX7_least 21 = .ok (.iload_n 2, 1) := by decide +kernel
theorem dX7_least_22 : decode cX7_least 22 = .ok (.iaload, 1) := by decide +kernel
theorem dX7_least_23 : decode cX7_least 23 = .ok (.iload_n 1, 1) := by decide +kernel
theorem dX7_least_24 : decode cX7_least 24 = .ok (.if_icmp .ge 12, 3) := by decide +kernel
theorem dX7_least_27 : decode cX7_least 27 = .ok (.aload_n 0, 1) := by decide +kernel
theorem dX7_least_28 : decode cX7_least 28 = .ok (.getfield 19, 3) := by decide +kernel
theorem dX7_least_31 : decode cX7_least 31 = .ok (.iload_n 2, 1) := by decide +kernel
theorem dX7_least_32 : decode cX7_least 32 = .ok (.iaload, 1) := by decide +kernel
theorem dX7_least_33 : decode cX7_least 33 = .ok (.goto 4, 3) := by decide +kernel
theorem dX7_least_36 : decode cX7_least 36 = .ok (.iload_n 1, 1) := by decide +kernel
theorem dX7_least_37 : decode cX7_least 37 = .ok (.istore_n 1, 1) := by decide +kernel
theorem dX7_least_38 : decode cX7_least 38 = .ok (.iinc 2 1, 3) := by decide +kernel
theorem dX7_least_41 : decode cX7_least 41 = .ok (.goto (-32), 3) := by decide +kernel
theorem dX7_least_44 : decode cX7_least 44 = .ok (.iload_n 1, 1) := by decide +kernel
theorem dX7_least_45 : decode cX7_least 45 = .ok (.ireturn, 1) := by decide +kernel
theorem dX7_frameBits_0 : decode cX7_frameBits 0 = .ok (.aload_n 0, 1) := by decide +kernel
theorem dX7_frameBits_1 : decode cX7_frameBits 1 = .ok (.getfield 19, 3) := by decide +kernel
theorem dX7_frameBits_4 : decode cX7_frameBits 4 = .ok (.iconst 0, 1) := by decide +kernel
theorem dX7_frameBits_5 : decode cX7_frameBits 5 = .ok (.iaload, 1) := by decide +kernel
theorem dX7_frameBits_6 : decode cX7_frameBits 6 = .ok (.istore_n 1, 1) := by decide +kernel
theorem dX7_frameBits_7 : decode cX7_frameBits 7 = .ok (.iconst 1, 1) := by decide +kernel
theorem dX7_frameBits_8 : decode cX7_frameBits 8 = .ok (.istore_n 2, 1) := by decide +kernel
theorem dX7_frameBits_9 : decode cX7_frameBits 9 = .ok (.iload_n 2, 1) := by decide +kernel
theorem dX7_frameBits_10 : decode cX7_frameBits 10 = .ok (.aload_n 0, 1) := by decide +kernel
theorem dX7_frameBits_11 : decode cX7_frameBits 11 = .ok (.getfield 44, 3) := by decide +kernel
theorem dX7_frameBits_14 : decode cX7_frameBits 14 = .ok (.if_icmp .ge 30, 3) := by decide +kernel
theorem dX7_frameBits_17 : decode cX7_frameBits 17 = .ok (.aload_n 0, 1) := by decide +kernel
theorem dX7_frameBits_18 : decode cX7_frameBits 18 = .ok (.getfield 19, 3) := by decide +kernel
theorem dX7_frameBits_21 : decode cX7_frameBits 21 = .ok (.iload_n 2, 1) := by decide +kernel
theorem dX7_frameBits_22 : decode cX7_frameBits 22 = .ok (.iaload, 1) := by decide +kernel
theorem dX7_frameBits_23 : decode cX7_frameBits 23 = .ok (.iload_n 1, 1) := by decide +kernel
theorem dX7_frameBits_24 : decode cX7_frameBits 24 = .ok (.if_icmp .le 12, 3) := by decide +kernel
theorem dX7_frameBits_27 : decode cX7_frameBits 27 = .ok (.aload_n 0, 1) := by decide +kernel
theorem dX7_frameBits_28 : decode cX7_frameBits 28 = .ok (.getfield 19, 3) := by decide +kernel
theorem dX7_frameBits_31 : decode cX7_frameBits 31 = .ok (.iload_n 2, 1) := by decide +kernel
theorem dX7_frameBits_32 : decode cX7_frameBits 32 = .ok (.iaload, 1) := by decide +kernel
theorem dX7_frameBits_33 : decode cX7_frameBits 33 = .ok (.goto 4, 3) := by decide +kernel
theorem dX7_frameBits_36 : decode cX7_frameBits 36 = .ok (.iload_n 1, 1) := by decide +kernel
theorem dX7_frameBits_37 : decode cX7_frameBits 37 = .ok (.istore_n 1, 1) := by decide +kernel
theorem dX7_frameBits_38 : decode cX7_frameBits 38 = .ok (.iinc 2 1, 3) := by decide +kernel
theorem dX7_frameBits_41 : decode cX7_frameBits 41 = .ok (.goto (-32), 3) := by decide +kernel
theorem dX7_frameBits_44 : decode cX7_frameBits 44 = .ok (.iload_n 1, 1) := by decide +kernel
theorem dX7_frameBits_45 : decode cX7_frameBits 45 = .ok (.aload_n 0, 1) := by decide +kernel
theorem dX7_frameBits_46 : decode cX7_frameBits 46 = .ok (.invokevirtual 62, 3) := by decide +kernel
theorem dX7_frameBits_49 : decode cX7_frameBits 49 = .ok (.isub, 1) := by decide +kernel
theorem dX7_frameBits_50 : decode cX7_frameBits 50 = .ok (.iconst 1, 1) := by decide +kernel
theorem dX7_frameBits_51 : decode cX7_frameBits 51 = .ok (.iadd, 1) := by decide +kernel
theorem dX7_frameBits_52 : decode cX7_frameBits 52 = .ok (.invokestatic 65, 3) := by decide +kernel
theorem dX7_frameBits_55 : decode cX7_frameBits 55 = .ok (.ireturn, 1) := by decide +kernel
theorem dX7_costBy_0 : decode cX7_costBy 0 = .ok (.iload_n 1, 1) := by decide +kernel
theorem dX7_costBy_1 : decode cX7_costBy 1 = .ok (.tableswitch 109 0 4 #[35, 43, 55, 78, 93], 35) := by decide +kernel
theorem dX7_costBy_36 : decode cX7_costBy 36 = .ok (.bipush 8, 2) := by decide +kernel
theorem dX7_costBy_38 : decode cX7_costBy 38 = .ok (.aload_n 0, 1) := by decide +kernel
theorem dX7_costBy_39 : decode cX7_costBy 39 = .ok (.getfield 44, 3) := by decide +kernel
theorem dX7_costBy_42 : decode cX7_costBy 42 = .ok (.imul, 1) := by decide +kernel
theorem dX7_costBy_43 : decode cX7_costBy 43 = .ok (.ireturn, 1) := by decide +kernel
theorem dX7_costBy_44 : decode cX7_costBy 44 = .ok (.bipush 13, 2) := by decide +kernel
theorem dX7_costBy_46 : decode cX7_costBy 46 = .ok (.aload_n 0, 1) := by decide +kernel
theorem dX7_costBy_47 : decode cX7_costBy 47 = .ok (.aload_n 0, 1) := by decide +kernel
theorem dX7_costBy_48 : decode cX7_costBy 48 = .ok (.getfield 44, 3) := by decide +kernel
theorem dX7_costBy_51 : decode cX7_costBy 51 = .ok (.invokevirtual 68, 3) := by decide +kernel
theorem dX7_costBy_54 : decode cX7_costBy 54 = .ok (.imul, 1) := by decide +kernel
theorem dX7_costBy_55 : decode cX7_costBy 55 = .ok (.ireturn, 1) := by decide +kernel
theorem dX7_costBy_56 : decode cX7_costBy 56 = .ok (.iconst 5, 1) := by decide +kernel
theorem dX7_costBy_57 : decode cX7_costBy 57 = .ok (.bipush 8, 2) := by decide +kernel
theorem dX7_costBy_59 : decode cX7_costBy 59 = .ok (.aload_n 0, 1) := by decide +kernel
theorem dX7_costBy_60 : decode cX7_costBy 60 = .ok (.invokevirtual 71, 3) := by decide +kernel
theorem dX7_costBy_63 : decode cX7_costBy 63 = .ok (.imul, 1) := by decide +kernel
theorem dX7_costBy_64 : decode cX7_costBy 64 = .ok (.iadd, 1) := by decide +kernel
theorem dX7_costBy_65 : decode cX7_costBy 65 = .ok (.aload_n 0, 1) := by decide +kernel
theorem dX7_costBy_66 : decode cX7_costBy 66 = .ok (.getfield 44, 3) := by decide +kernel
theorem dX7_costBy_69 : decode cX7_costBy 69 = .ok (.aload_n 0, 1) := by decide +kernel
theorem dX7_costBy_70 : decode cX7_costBy 70 = .ok (.invokevirtual 71, 3) := by decide +kernel
theorem dX7_costBy_73 : decode cX7_costBy 73 = .ok (.invokestatic 65, 3) := by decide +kernel
theorem dX7_costBy_76 : decode cX7_costBy 76 = .ok (.imul, 1) := by decide +kernel
theorem dX7_costBy_77 : decode cX7_costBy 77 = .ok (.iadd, 1) := by decide +kernel
theorem dX7_costBy_78 : decode cX7_costBy 78 = .ok (.ireturn, 1) := by decide +kernel
theorem dX7_costBy_79 : decode cX7_costBy 79 = .ok (.bipush 12, 2) := by decide +kernel
theorem dX7_costBy_81 : decode cX7_costBy 81 = .ok (.aload_n 0, 1) := by decide +kernel
theorem dX7_costBy_82 : decode cX7_costBy 82 = .ok (.getfield 44, 3) := by decide +kernel
theorem dX7_costBy_85 : decode cX7_costBy 85 = .ok (.iconst 1, 1) := by decide +kernel
theorem dX7_costBy_86 : decode cX7_costBy 86 = .ok (.isub, 1) := by decide +kernel
theorem dX7_costBy_87 : decode cX7_costBy 87 = .ok (.aload_n 0, 1) := by decide +kernel
theorem dX7_costBy_88 : decode cX7_costBy 88 = .ok (.invokevirtual 74, 3) := by decide +kernel
theorem dX7_costBy_91 : decode cX7_costBy 91 = .ok (.imul, 1) := by decide +kernel
theorem dX7_costBy_92 : decode cX7_costBy 92 = .ok (.iadd, 1) := by decide +kernel
theorem dX7_costBy_93 : decode cX7_costBy 93 = .ok (.ireturn, 1) := by decide +kernel
theorem dX7_costBy_94 : decode cX7_costBy 94 = .ok (.bipush 8, 2) := by decide +kernel
theorem dX7_costBy_96 : decode cX7_costBy 96 = .ok (.aload_n 0, 1) := by decide +kernel
theorem dX7_costBy_97 : decode cX7_costBy 97 = .ok (.getfield 44, 3) := by decide +kernel
theorem dX7_costBy_100 : decode cX7_costBy 100 = .ok (.iadd, 1) := by decide +kernel
theorem dX7_costBy_101 : decode cX7_costBy 101 = .ok (.bipush 8, 2) := by decide +kernel
theorem dX7_costBy_103 : decode cX7_costBy 103 = .ok (.aload_n 0, 1) := by decide +kernel
theorem dX7_costBy_104 : decode cX7_costBy 104 = .ok (.invokevirtual 77, 3) := by decide +kernel
theorem dX7_costBy_107 : decode cX7_costBy 107 = .ok (.imul, 1) := by decide +kernel
theorem dX7_costBy_108 : decode cX7_costBy 108 = .ok (.iadd, 1) := by decide +kernel
theorem dX7_costBy_109 : decode cX7_costBy 109 = .ok (.ireturn, 1) := by decide +kernel
theorem dX7_costBy_110 : decode cX7_costBy 110 = .ok (.bipush 12, 2) := by decide +kernel
theorem dX7_costBy_112 : decode cX7_costBy 112 = .ok (.aload_n 0, 1) := by decide +kernel
theorem dX7_costBy_113 : decode cX7_costBy 113 = .ok (.getfield 44, 3) := by decide +kernel
theorem dX7_costBy_116 : decode cX7_costBy 116 = .ok (.aload_n 0, 1) := by decide +kernel
theorem dX7_costBy_117 : decode cX7_costBy 117 = .ok (.invokevirtual 80, 3) := by decide +kernel
theorem dX7_costBy_120 : decode cX7_costBy 120 = .ok (.imul, 1) := by decide +kernel
theorem dX7_costBy_121 : decode cX7_costBy 121 = .ok (.iadd, 1) := by decide +kernel
theorem dX7_costBy_122 : decode cX7_costBy 122 = .ok (.ireturn, 1) := by decide +kernel
theorem dX7_bestCode_0 : decode cX7_bestCode 0 = .ok (.iconst 0, 1) := by decide +kernel
theorem dX7_bestCode_1 : decode cX7_bestCode 1 = .ok (.istore_n 1, 1) := by decide +kernel
theorem dX7_bestCode_2 : decode cX7_bestCode 2 = .ok (.iconst 1, 1) := by decide +kernel
theorem dX7_bestCode_3 : decode cX7_bestCode 3 = .ok (.istore_n 2, 1) := by decide +kernel
theorem dX7_bestCode_4 : decode cX7_bestCode 4 = .ok (.iload_n 2, 1) := by decide +kernel
theorem dX7_bestCode_5 : decode cX7_bestCode 5 = .ok (.bipush 6, 2) := by decide +kernel
theorem dX7_bestCode_7 : decode cX7_bestCode 7 = .ok (.if_icmp .ge 28, 3) := by decide +kernel
theorem dX7_bestCode_10 : decode cX7_bestCode 10 = .ok (.aload_n 0, 1) := by decide +kernel
theorem dX7_bestCode_11 : decode cX7_bestCode 11 = .ok (.iload_n 2, 1) := by decide +kernel
theorem dX7_bestCode_12 : decode cX7_bestCode 12 = .ok (.invokevirtual 83, 3) := by decide +kernel
theorem dX7_bestCode_15 : decode cX7_bestCode 15 = .ok (.aload_n 0, 1) := by decide +kernel
theorem dX7_bestCode_16 : decode cX7_bestCode 16 = .ok (.iload_n 1, 1) := by decide +kernel
theorem dX7_bestCode_17 : decode cX7_bestCode 17 = .ok (.invokevirtual 83, 3) := by decide +kernel
theorem dX7_bestCode_20 : decode cX7_bestCode 20 = .ok (.if_icmp .ge 7, 3) := by decide +kernel
theorem dX7_bestCode_23 : decode cX7_bestCode 23 = .ok (.iload_n 2, 1) := by decide +kernel
theorem dX7_bestCode_24 : decode cX7_bestCode 24 = .ok (.goto 4, 3) := by decide +kernel
theorem dX7_bestCode_27 : decode cX7_bestCode 27 = .ok (.iload_n 1, 1) := by decide +kernel
theorem dX7_bestCode_28 : decode cX7_bestCode 28 = .ok (.istore_n 1, 1) := by decide +kernel
theorem dX7_bestCode_29 : decode cX7_bestCode 29 = .ok (.iinc 2 1, 3) := by decide +kernel
theorem dX7_bestCode_32 : decode cX7_bestCode 32 = .ok (.goto (-28), 3) := by decide +kernel
theorem dX7_bestCode_35 : decode cX7_bestCode 35 = .ok (.iload_n 1, 1) := by decide +kernel
theorem dX7_bestCode_36 : decode cX7_bestCode 36 = .ok (.ireturn, 1) := by decide +kernel
theorem dX7_workBy_0 : decode cX7_workBy 0 = .ok (.aload_n 0, 1) := by decide +kernel
theorem dX7_workBy_1 : decode cX7_workBy 1 = .ok (.iload_n 3, 1) := by decide +kernel
theorem dX7_workBy_2 : decode cX7_workBy 2 = .ok (.invokevirtual 51, 3) := by decide +kernel
theorem dX7_workBy_5 : decode cX7_workBy 5 = .ok (.istore 4, 2) := by decide +kernel
theorem dX7_workBy_7 : decode cX7_workBy 7 = .ok (.iload 4, 2) := by decide +kernel
theorem dX7_workBy_9 : decode cX7_workBy 9 = .ok (.aload_n 0, 1) := by decide +kernel
theorem dX7_workBy_10 : decode cX7_workBy 10 = .ok (.getfield 44, 3) := by decide +kernel
theorem dX7_workBy_13 : decode cX7_workBy 13 = .ok (.if_icmp .ge 10, 3) := by decide +kernel
theorem dX7_workBy_16 : decode cX7_workBy 16 = .ok (.iload 4, 2) := by decide +kernel
theorem dX7_workBy_18 : decode cX7_workBy 18 = .ok (.iconst 1, 1) := by decide +kernel
theorem dX7_workBy_19 : decode cX7_workBy 19 = .ok (.iadd, 1) := by decide +kernel
theorem dX7_workBy_20 : decode cX7_workBy 20 = .ok (.goto 7, 3) := by decide +kernel
theorem dX7_workBy_23 : decode cX7_workBy 23 = .ok (.aload_n 0, 1) := by decide +kernel
theorem dX7_workBy_24 : decode cX7_workBy 24 = .ok (.getfield 44, 3) := by decide +kernel
theorem dX7_workBy_27 : decode cX7_workBy 27 = .ok (.istore 5, 2) := by decide +kernel
theorem dX7_workBy_29 : decode cX7_workBy 29 = .ok (.iload_n 2, 1) := by decide +kernel
theorem dX7_workBy_30 : decode cX7_workBy 30 = .ok (.iconst 2, 1) := by decide +kernel
theorem dX7_workBy_31 : decode cX7_workBy 31 = .ok (.if_icmp .ne 8, 3) := by decide +kernel
theorem dX7_workBy_34 : decode cX7_workBy 34 = .ok (.iload 5, 2) := by decide +kernel
theorem dX7_workBy_36 : decode cX7_workBy 36 = .ok (.goto 7, 3) := by decide +kernel
theorem dX7_workBy_39 : decode cX7_workBy 39 = .ok (.aload_n 0, 1) := by decide +kernel
theorem dX7_workBy_40 : decode cX7_workBy 40 = .ok (.getfield 44, 3) := by decide +kernel
theorem dX7_workBy_43 : decode cX7_workBy 43 = .ok (.istore 6, 2) := by decide +kernel
theorem dX7_workBy_45 : decode cX7_workBy 45 = .ok (.iload_n 1, 1) := by decide +kernel
theorem dX7_workBy_46 : decode cX7_workBy 46 = .ok (.tableswitch 144 1 5 #[34, 41, 144, 74, 109], 34) := by decide +kernel
theorem dX7_workBy_80 : decode cX7_workBy 80 = .ok (.aload_n 0, 1) := by decide +kernel
theorem dX7_workBy_81 : decode cX7_workBy 81 = .ok (.iload 6, 2) := by decide +kernel
theorem dX7_workBy_83 : decode cX7_workBy 83 = .ok (.invokevirtual 68, 3) := by decide +kernel
theorem dX7_workBy_86 : decode cX7_workBy 86 = .ok (.ireturn, 1) := by decide +kernel
theorem dX7_workBy_87 : decode cX7_workBy 87 = .ok (.aload_n 0, 1) := by decide +kernel
theorem dX7_workBy_88 : decode cX7_workBy 88 = .ok (.invokevirtual 71, 3) := by decide +kernel
theorem dX7_workBy_91 : decode cX7_workBy 91 = .ok (.iload_n 2, 1) := by decide +kernel
theorem dX7_workBy_92 : decode cX7_workBy 92 = .ok (.iconst 1, 1) := by decide +kernel
theorem dX7_workBy_93 : decode cX7_workBy 93 = .ok (.if_icmp .ne 10, 3) := by decide +kernel
theorem dX7_workBy_96 : decode cX7_workBy 96 = .ok (.aload_n 0, 1) := by decide +kernel
theorem dX7_workBy_97 : decode cX7_workBy 97 = .ok (.getfield 44, 3) := by decide +kernel
theorem dX7_workBy_100 : decode cX7_workBy 100 = .ok (.goto 18, 3) := by decide +kernel
theorem dX7_workBy_103 : decode cX7_workBy 103 = .ok (.iload 4, 2) := by decide +kernel
theorem dX7_workBy_105 : decode cX7_workBy 105 = .ok (.aload_n 0, 1) := by decide +kernel
theorem dX7_workBy_106 : decode cX7_workBy 106 = .ok (.getfield 44, 3) := by decide +kernel
theorem dX7_workBy_109 : decode cX7_workBy 109 = .ok (.if_icmp .ne 7, 3) := by decide +kernel
theorem dX7_workBy_112 : decode cX7_workBy 112 = .ok (.iconst 0, 1) := by decide +kernel
theorem dX7_workBy_113 : decode cX7_workBy 113 = .ok (.goto 5, 3) := by decide +kernel
theorem dX7_workBy_116 : decode cX7_workBy 116 = .ok (.iload 6, 2) := by decide +kernel
theorem dX7_workBy_118 : decode cX7_workBy 118 = .ok (.iadd, 1) := by decide +kernel
theorem dX7_workBy_119 : decode cX7_workBy 119 = .ok (.ireturn, 1) := by decide +kernel
theorem dX7_workBy_120 : decode cX7_workBy 120 = .ok (.iload_n 2, 1) := by decide +kernel
theorem dX7_workBy_121 : decode cX7_workBy 121 = .ok (.iconst 2, 1) := by decide +kernel
theorem dX7_workBy_122 : decode cX7_workBy 122 = .ok (.if_icmp .ne 10, 3) := by decide +kernel
theorem dX7_workBy_125 : decode cX7_workBy 125 = .ok (.aload_n 0, 1) := by decide +kernel
theorem dX7_workBy_126 : decode cX7_workBy 126 = .ok (.getfield 44, 3) := by decide +kernel
theorem dX7_workBy_129 : decode cX7_workBy 129 = .ok (.goto 25, 3) := by decide +kernel
theorem dX7_workBy_132 : decode cX7_workBy 132 = .ok (.iload_n 2, 1) := by decide +kernel
theorem dX7_workBy_133 : decode cX7_workBy 133 = .ok (.ifCond .ne 15, 3) := by decide +kernel
theorem dX7_workBy_136 : decode cX7_workBy 136 = .ok (.iload_n 3, 1) := by decide +kernel
theorem dX7_workBy_137 : decode cX7_workBy 137 = .ok (.aload_n 0, 1) := by decide +kernel
theorem dX7_workBy_138 : decode cX7_workBy 138 = .ok (.invokevirtual 58, 3) := by decide +kernel
theorem dX7_workBy_141 : decode cX7_workBy 141 = .ok (.if_icmp .ne 7, 3) := by decide +kernel
theorem dX7_workBy_144 : decode cX7_workBy 144 = .ok (.iconst 1, 1) := by decide +kernel
theorem dX7_workBy_145 : decode cX7_workBy 145 = .ok (.goto 9, 3) := by decide +kernel
theorem dX7_workBy_148 : decode cX7_workBy 148 = .ok (.iconst 1, 1) := by decide +kernel
theorem dX7_workBy_149 : decode cX7_workBy 149 = .ok (.aload_n 0, 1) := by decide +kernel
theorem dX7_workBy_150 : decode cX7_workBy 150 = .ok (.invokevirtual 77, 3) := by decide +kernel
theorem dX7_workBy_153 : decode cX7_workBy 153 = .ok (.iadd, 1) := by decide +kernel
theorem dX7_workBy_154 : decode cX7_workBy 154 = .ok (.ireturn, 1) := by decide +kernel
theorem dX7_workBy_155 : decode cX7_workBy 155 = .ok (.iload_n 2, 1) := by decide +kernel
theorem dX7_workBy_156 : decode cX7_workBy 156 = .ok (.iconst 1, 1) := by decide +kernel
theorem dX7_workBy_157 : decode cX7_workBy 157 = .ok (.if_icmp .eq 30, 3) := by decide +kernel
theorem dX7_workBy_160 : decode cX7_workBy 160 = .ok (.iload_n 3, 1) := by decide +kernel
theorem dX7_workBy_161 : decode cX7_workBy 161 = .ok (.aload_n 0, 1) := by decide +kernel
theorem dX7_workBy_162 : decode cX7_workBy 162 = .ok (.invokevirtual 62, 3) := by decide +kernel
theorem dX7_workBy_165 : decode cX7_workBy 165 = .ok (.if_icmp .lt 18, 3) := by decide +kernel
theorem dX7_workBy_168 : decode cX7_workBy 168 = .ok (.iload_n 3, 1) := by decide +kernel
theorem dX7_workBy_169 : decode cX7_workBy 169 = .ok (.aload_n 0, 1) := by decide +kernel
theorem dX7_workBy_170 : decode cX7_workBy 170 = .ok (.invokevirtual 62, 3) := by decide +kernel
theorem dX7_workBy_173 : decode cX7_workBy 173 = .ok (.iconst 1, 1) := by decide +kernel
theorem dX7_workBy_174 : decode cX7_workBy 174 = .ok (.aload_n 0, 1) := by decide +kernel
theorem dX7_workBy_175 : decode cX7_workBy 175 = .ok (.invokevirtual 80, 3) := by decide +kernel
theorem dX7_workBy_178 : decode cX7_workBy 178 = .ok (.ishl, 1) := by decide +kernel
theorem dX7_workBy_179 : decode cX7_workBy 179 = .ok (.iadd, 1) := by decide +kernel
theorem dX7_workBy_180 : decode cX7_workBy 180 = .ok (.if_icmp .lt 7, 3) := by decide +kernel
theorem dX7_workBy_183 : decode cX7_workBy 183 = .ok (.iconst 1, 1) := by decide +kernel
theorem dX7_workBy_184 : decode cX7_workBy 184 = .ok (.goto 5, 3) := by decide +kernel
theorem dX7_workBy_187 : decode cX7_workBy 187 = .ok (.iload 6, 2) := by decide +kernel
theorem dX7_workBy_189 : decode cX7_workBy 189 = .ok (.ireturn, 1) := by decide +kernel
theorem dX7_workBy_190 : decode cX7_workBy 190 = .ok (.iload 6, 2) := by decide +kernel
theorem dX7_workBy_192 : decode cX7_workBy 192 = .ok (.ireturn, 1) := by decide +kernel
theorem dX7_choose_0 : decode cX7_choose 0 = .ok (.aload_n 0, 1) := by decide +kernel
theorem dX7_choose_1 : decode cX7_choose 1 = .ok (.iload_n 1, 1) := by decide +kernel
theorem dX7_choose_2 : decode cX7_choose 2 = .ok (.invokevirtual 47, 3) := by decide +kernel
theorem dX7_choose_5 : decode cX7_choose 5 = .ok (.aload_n 0, 1) := by decide +kernel
theorem dX7_choose_6 : decode cX7_choose 6 = .ok (.iload_n 1, 1) := by decide +kernel
theorem dX7_choose_7 : decode cX7_choose 7 = .ok (.iconst 1, 1) := by decide +kernel
theorem dX7_choose_8 : decode cX7_choose 8 = .ok (.aload_n 0, 1) := by decide +kernel
theorem dX7_choose_9 : decode cX7_choose 9 = .ok (.invokevirtual 86, 3) := by decide +kernel
theorem dX7_choose_12 : decode cX7_choose 12 = .ok (.invokevirtual 89, 3) := by decide +kernel
theorem dX7_choose_15 : decode cX7_choose 15 = .ok (.aload_n 0, 1) := by decide +kernel
theorem dX7_choose_16 : decode cX7_choose 16 = .ok (.iload_n 1, 1) := by decide +kernel
theorem dX7_choose_17 : decode cX7_choose 17 = .ok (.iconst 2, 1) := by decide +kernel
theorem dX7_choose_18 : decode cX7_choose 18 = .ok (.aload_n 0, 1) := by decide +kernel
theorem dX7_choose_19 : decode cX7_choose 19 = .ok (.getfield 7, 3) := by decide +kernel
theorem dX7_choose_22 : decode cX7_choose 22 = .ok (.iconst 3, 1) := by decide +kernel
theorem dX7_choose_23 : decode cX7_choose 23 = .ok (.iaload, 1) := by decide +kernel
theorem dX7_choose_24 : decode cX7_choose 24 = .ok (.invokevirtual 89, 3) := by decide +kernel
theorem dX7_choose_27 : decode cX7_choose 27 = .ok (.aload_n 0, 1) := by decide +kernel
theorem dX7_choose_28 : decode cX7_choose 28 = .ok (.iload_n 1, 1) := by decide +kernel
theorem dX7_choose_29 : decode cX7_choose 29 = .ok (.bipush 7, 2) := by decide +kernel
theorem dX7_choose_31 : decode cX7_choose 31 = .ok (.aload_n 0, 1) := by decide +kernel
theorem dX7_choose_32 : decode cX7_choose 32 = .ok (.iload_n 1, 1) := by decide +kernel
theorem dX7_choose_33 : decode cX7_choose 33 = .ok (.bipush 7, 2) := by decide +kernel
theorem dX7_choose_35 : decode cX7_choose 35 = .ok (.invokevirtual 40, 3) := by decide +kernel
theorem dX7_choose_38 : decode cX7_choose 38 = .ok (.iconst 1, 1) := by decide +kernel
theorem dX7_choose_39 : decode cX7_choose 39 = .ok (.iadd, 1) := by decide +kernel
theorem dX7_choose_40 : decode cX7_choose 40 = .ok (.invokevirtual 89, 3) := by decide +kernel
theorem dX7_choose_43 : decode cX7_choose 43 = .ok (.return_, 1) := by decide +kernel
theorem dX7_begin_0 : decode cX7_begin 0 = .ok (.aload_n 0, 1) := by decide +kernel
theorem dX7_begin_1 : decode cX7_begin 1 = .ok (.getfield 7, 3) := by decide +kernel
theorem dX7_begin_4 : decode cX7_begin 4 = .ok (.iconst 2, 1) := by decide +kernel
theorem dX7_begin_5 : decode cX7_begin 5 = .ok (.iaload, 1) := by decide +kernel
theorem dX7_begin_6 : decode cX7_begin 6 = .ok (.istore_n 2, 1) := by decide +kernel
theorem dX7_begin_7 : decode cX7_begin 7 = .ok (.aload_n 0, 1) := by decide +kernel
theorem dX7_begin_8 : decode cX7_begin 8 = .ok (.getfield 7, 3) := by decide +kernel
theorem dX7_begin_11 : decode cX7_begin 11 = .ok (.iconst 2, 1) := by decide +kernel
theorem dX7_begin_12 : decode cX7_begin 12 = .ok (.dup2, 1) := by decide +kernel
theorem dX7_begin_13 : decode cX7_begin 13 = .ok (.iaload, 1) := by decide +kernel
theorem dX7_begin_14 : decode cX7_begin 14 = .ok (.iconst 1, 1) := by decide +kernel
theorem dX7_begin_15 : decode cX7_begin 15 = .ok (.iadd, 1) := by decide +kernel
theorem dX7_begin_16 : decode cX7_begin 16 = .ok (.iastore, 1) := by decide +kernel
theorem dX7_begin_17 : decode cX7_begin 17 = .ok (.iconst 0, 1) := by decide +kernel
theorem dX7_begin_18 : decode cX7_begin 18 = .ok (.istore_n 3, 1) := by decide +kernel
theorem dX7_begin_19 : decode cX7_begin 19 = .ok (.iload_n 3, 1) := by decide +kernel
theorem dX7_begin_20 : decode cX7_begin 20 = .ok (.bipush 32, 2) := by decide +kernel
theorem dX7_begin_22 : decode cX7_begin 22 = .ok (.if_icmp .ge 16, 3) := by decide +kernel
theorem dX7_begin_25 : decode cX7_begin 25 = .ok (.aload_n 0, 1) := by decide +kernel
theorem dX7_begin_26 : decode cX7_begin 26 = .ok (.iload_n 2, 1) := by decide +kernel
theorem dX7_begin_27 : decode cX7_begin 27 = .ok (.iload_n 3, 1) := by decide +kernel
theorem dX7_begin_28 : decode cX7_begin 28 = .ok (.iconst 0, 1) := by decide +kernel
theorem dX7_begin_29 : decode cX7_begin 29 = .ok (.invokevirtual 89, 3) := by decide +kernel
theorem dX7_begin_32 : decode cX7_begin 32 = .ok (.iinc 3 1, 3) := by decide +kernel
theorem dX7_begin_35 : decode cX7_begin 35 = .ok (.goto (-16), 3) := by decide +kernel
theorem dX7_begin_38 : decode cX7_begin 38 = .ok (.aload_n 0, 1) := by decide +kernel
theorem dX7_begin_39 : decode cX7_begin 39 = .ok (.iload_n 2, 1) := by decide +kernel
theorem dX7_begin_40 : decode cX7_begin 40 = .ok (.iconst 0, 1) := by decide +kernel
theorem dX7_begin_41 : decode cX7_begin 41 = .ok (.iload_n 1, 1) := by decide +kernel
theorem dX7_begin_42 : decode cX7_begin 42 = .ok (.invokevirtual 89, 3) := by decide +kernel
theorem dX7_begin_45 : decode cX7_begin 45 = .ok (.iload_n 2, 1) := by decide +kernel
theorem dX7_begin_46 : decode cX7_begin 46 = .ok (.ireturn, 1) := by decide +kernel
theorem dX7_make_0 : decode cX7_make 0 = .ok (.aload_n 0, 1) := by decide +kernel
theorem dX7_make_1 : decode cX7_make 1 = .ok (.iload_n 1, 1) := by decide +kernel
theorem dX7_make_2 : decode cX7_make 2 = .ok (.invokestatic 93, 3) := by decide +kernel
theorem dX7_make_5 : decode cX7_make 5 = .ok (.ifCond .eq 13, 3) := by decide +kernel
theorem dX7_make_8 : decode cX7_make 8 = .ok (.iload_n 2, 1) := by decide +kernel
theorem dX7_make_9 : decode cX7_make 9 = .ok (.iconst 1, 1) := by decide +kernel
theorem dX7_make_10 : decode cX7_make 10 = .ok (.bipush 24, 2) := by decide +kernel
theorem dX7_make_12 : decode cX7_make 12 = .ok (.invokestatic 32, 3) := by decide +kernel
theorem dX7_make_15 : decode cX7_make 15 = .ok (.ifCond .ne 7, 3) := by decide +kernel
theorem dX7_make_18 : decode cX7_make 18 = .ok (.iconst 1, 1) := by decide +kernel
theorem dX7_make_19 : decode cX7_make 19 = .ok (.goto 19, 3) := by decide +kernel
theorem dX7_make_22 : decode cX7_make 22 = .ok (.aload_n 0, 1) := by decide +kernel
theorem dX7_make_23 : decode cX7_make 23 = .ok (.getfield 7, 3) := by decide +kernel
theorem dX7_make_26 : decode cX7_make 26 = .ok (.iconst 2, 1) := by decide +kernel
theorem dX7_make_27 : decode cX7_make 27 = .ok (.iaload, 1) := by decide +kernel
theorem dX7_make_28 : decode cX7_make 28 = .ok (.bipush 8, 2) := by decide +kernel
theorem dX7_make_30 : decode cX7_make 30 = .ok (.if_icmp .ne 7, 3) := by decide +kernel
theorem dX7_make_33 : decode cX7_make 33 = .ok (.iconst 2, 1) := by decide +kernel
theorem dX7_make_34 : decode cX7_make 34 = .ok (.goto 4, 3) := by decide +kernel
theorem dX7_make_37 : decode cX7_make 37 = .ok (.iconst 0, 1) := by decide +kernel
theorem dX7_make_38 : decode cX7_make 38 = .ok (.putfield 25, 3) := by decide +kernel
theorem dX7_make_41 : decode cX7_make 41 = .ok (.aload_n 0, 1) := by decide +kernel
theorem dX7_make_42 : decode cX7_make 42 = .ok (.getfield 25, 3) := by decide +kernel
theorem dX7_make_45 : decode cX7_make 45 = .ok (.ifCond .le 5, 3) := by decide +kernel
theorem dX7_make_48 : decode cX7_make 48 = .ok (.iconst 0, 1) := by decide +kernel
theorem dX7_make_49 : decode cX7_make 49 = .ok (.ireturn, 1) := by decide +kernel
theorem dX7_make_50 : decode cX7_make 50 = .ok (.aload_n 0, 1) := by decide +kernel
theorem dX7_make_51 : decode cX7_make 51 = .ok (.invokevirtual 96, 3) := by decide +kernel
theorem dX7_make_54 : decode cX7_make 54 = .ok (.aload_n 0, 1) := by decide +kernel
theorem dX7_make_55 : decode cX7_make 55 = .ok (.iload_n 2, 1) := by decide +kernel
theorem dX7_make_56 : decode cX7_make 56 = .ok (.invokevirtual 99, 3) := by decide +kernel
theorem dX7_make_59 : decode cX7_make 59 = .ok (.istore_n 3, 1) := by decide +kernel
theorem dX7_make_60 : decode cX7_make 60 = .ok (.iconst 0, 1) := by decide +kernel
theorem dX7_make_61 : decode cX7_make 61 = .ok (.istore 4, 2) := by decide +kernel
theorem dX7_make_63 : decode cX7_make 63 = .ok (.iload 4, 2) := by decide +kernel
theorem dX7_make_65 : decode cX7_make 65 = .ok (.iload_n 2, 1) := by decide +kernel
theorem dX7_make_66 : decode cX7_make 66 = .ok (.if_icmp .ge 20, 3) := by decide +kernel
theorem dX7_make_69 : decode cX7_make 69 = .ok (.aload_n 0, 1) := by decide +kernel
theorem dX7_make_70 : decode cX7_make 70 = .ok (.iload_n 3, 1) := by decide +kernel
theorem dX7_make_71 : decode cX7_make 71 = .ok (.bipush 8, 2) := by decide +kernel
theorem dX7_make_73 : decode cX7_make 73 = .ok (.iload 4, 2) := by decide +kernel
theorem dX7_make_75 : decode cX7_make 75 = .ok (.iadd, 1) := by decide +kernel
theorem dX7_make_76 : decode cX7_make 76 = .ok (.iload_n 1, 1) := by decide +kernel
theorem dX7_make_77 : decode cX7_make 77 = .ok (.invokevirtual 89, 3) := by decide +kernel
theorem dX7_make_80 : decode cX7_make 80 = .ok (.iinc 4 1, 3) := by decide +kernel
theorem dX7_make_83 : decode cX7_make 83 = .ok (.goto (-20), 3) := by decide +kernel
theorem dX7_make_86 : decode cX7_make 86 = .ok (.aload_n 0, 1) := by decide +kernel
theorem dX7_make_87 : decode cX7_make 87 = .ok (.iload_n 3, 1) := by decide +kernel
theorem dX7_make_88 : decode cX7_make 88 = .ok (.invokevirtual 102, 3) := by decide +kernel
theorem dX7_make_91 : decode cX7_make 91 = .ok (.iload_n 3, 1) := by decide +kernel
theorem dX7_make_92 : decode cX7_make 92 = .ok (.ireturn, 1) := by decide +kernel
theorem dX7_read_0 : decode cX7_read 0 = .ok (.aload_n 0, 1) := by decide +kernel
theorem dX7_read_1 : decode cX7_read 1 = .ok (.invokevirtual 105, 3) := by decide +kernel
theorem dX7_read_4 : decode cX7_read 4 = .ok (.aload_n 0, 1) := by decide +kernel
theorem dX7_read_5 : decode cX7_read 5 = .ok (.getfield 108, 3) := by decide +kernel
theorem dX7_read_8 : decode cX7_read 8 = .ok (.if_icmp .ne 14, 3) := by decide +kernel
theorem dX7_read_11 : decode cX7_read 11 = .ok (.aload_n 0, 1) := by decide +kernel
theorem dX7_read_12 : decode cX7_read 12 = .ok (.invokevirtual 111, 3) := by decide +kernel
theorem dX7_read_15 : decode cX7_read 15 = .ok (.ifCond .eq 7, 3) := by decide +kernel
theorem dX7_read_18 : decode cX7_read 18 = .ok (.iconst 1, 1) := by decide +kernel
theorem dX7_read_19 : decode cX7_read 19 = .ok (.goto 4, 3) := by decide +kernel
theorem dX7_read_22 : decode cX7_read 22 = .ok (.iconst 0, 1) := by decide +kernel
theorem dX7_read_23 : decode cX7_read 23 = .ok (.istore_n 1, 1) := by decide +kernel
theorem dX7_read_24 : decode cX7_read 24 = .ok (.aload_n 0, 1) := by decide +kernel
theorem dX7_read_25 : decode cX7_read 25 = .ok (.iload_n 1, 1) := by decide +kernel
theorem dX7_read_26 : decode cX7_read 26 = .ok (.ifCond .eq 12, 3) := by decide +kernel
theorem dX7_read_29 : decode cX7_read 29 = .ok (.aload_n 0, 1) := by decide +kernel
theorem dX7_read_30 : decode cX7_read 30 = .ok (.invokevirtual 115, 3) := by decide +kernel
theorem dX7_read_33 : decode cX7_read 33 = .ok (.bipush 24, 2) := by decide +kernel
theorem dX7_read_35 : decode cX7_read 35 = .ok (.if_icmp .le 7, 3) := by decide +kernel
theorem dX7_read_38 : decode cX7_read 38 = .ok (.iconst 1, 1) := by decide +kernel
theorem dX7_read_39 : decode cX7_read 39 = .ok (.goto 19, 3) := by decide +kernel
theorem dX7_read_42 : decode cX7_read 42 = .ok (.aload_n 0, 1) := by decide +kernel
theorem dX7_read_43 : decode cX7_read 43 = .ok (.getfield 7, 3) := by decide +kernel
theorem dX7_read_46 : decode cX7_read 46 = .ok (.iconst 2, 1) := by decide +kernel
theorem dX7_read_47 : decode cX7_read 47 = .ok (.iaload, 1) := by decide +kernel
theorem dX7_read_48 : decode cX7_read 48 = .ok (.bipush 8, 2) := by decide +kernel
theorem dX7_read_50 : decode cX7_read 50 = .ok (.if_icmp .ne 7, 3) := by decide +kernel
theorem dX7_read_53 : decode cX7_read 53 = .ok (.iconst 2, 1) := by decide +kernel
theorem dX7_read_54 : decode cX7_read 54 = .ok (.goto 4, 3) := by decide +kernel
theorem dX7_read_57 : decode cX7_read 57 = .ok (.iconst 0, 1) := by decide +kernel
theorem dX7_read_58 : decode cX7_read 58 = .ok (.putfield 25, 3) := by decide +kernel
theorem dX7_read_61 : decode cX7_read 61 = .ok (.aload_n 0, 1) := by decide +kernel
theorem dX7_read_62 : decode cX7_read 62 = .ok (.getfield 25, 3) := by decide +kernel
theorem dX7_read_65 : decode cX7_read 65 = .ok (.ifCond .le 5, 3) := by decide +kernel
theorem dX7_read_68 : decode cX7_read 68 = .ok (.iconst 0, 1) := by decide +kernel
theorem dX7_read_69 : decode cX7_read 69 = .ok (.ireturn, 1) := by decide +kernel
theorem dX7_read_70 : decode cX7_read 70 = .ok (.aload_n 0, 1) := by decide +kernel
theorem dX7_read_71 : decode cX7_read 71 = .ok (.invokevirtual 96, 3) := by decide +kernel
theorem dX7_read_74 : decode cX7_read 74 = .ok (.aload_n 0, 1) := by decide +kernel
theorem dX7_read_75 : decode cX7_read 75 = .ok (.iconst 0, 1) := by decide +kernel
theorem dX7_read_76 : decode cX7_read 76 = .ok (.putfield 108, 3) := by decide +kernel
theorem dX7_read_79 : decode cX7_read 79 = .ok (.aload_n 0, 1) := by decide +kernel
theorem dX7_read_80 : decode cX7_read 80 = .ok (.iconst 0, 1) := by decide +kernel
theorem dX7_read_81 : decode cX7_read 81 = .ok (.invokevirtual 99, 3) := by decide +kernel
theorem dX7_read_84 : decode cX7_read 84 = .ok (.istore_n 2, 1) := by decide +kernel
theorem dX7_read_85 : decode cX7_read 85 = .ok (.iconst 0, 1) := by decide +kernel
theorem dX7_read_86 : decode cX7_read 86 = .ok (.istore_n 3, 1) := by decide +kernel
theorem dX7_read_87 : decode cX7_read 87 = .ok (.iload_n 3, 1) := by decide +kernel
theorem dX7_read_88 : decode cX7_read 88 = .ok (.aload_n 0, 1) := by decide +kernel
theorem dX7_read_89 : decode cX7_read 89 = .ok (.getfield 118, 3) := by decide +kernel
theorem dX7_read_92 : decode cX7_read 92 = .ok (.if_icmp .gt 64, 3) := by decide +kernel
theorem dX7_read_95 : decode cX7_read 95 = .ok (.iconst 0, 1) := by decide +kernel
theorem dX7_read_96 : decode cX7_read 96 = .ok (.istore 4, 2) := by decide +kernel
theorem dX7_read_98 : decode cX7_read 98 = .ok (.iload 4, 2) := by decide +kernel
theorem dX7_read_100 : decode cX7_read 100 = .ok (.aload_n 0, 1) := by decide +kernel
theorem dX7_read_101 : decode cX7_read 101 = .ok (.iload_n 3, 1) := by decide +kernel
theorem dX7_read_102 : decode cX7_read 102 = .ok (.invokevirtual 121, 3) := by decide +kernel
theorem dX7_read_105 : decode cX7_read 105 = .ok (.if_icmp .ge 45, 3) := by decide +kernel
theorem dX7_read_108 : decode cX7_read 108 = .ok (.aload_n 0, 1) := by decide +kernel
theorem dX7_read_109 : decode cX7_read 109 = .ok (.iload_n 2, 1) := by decide +kernel
theorem dX7_read_110 : decode cX7_read 110 = .ok (.bipush 8, 2) := by decide +kernel
theorem dX7_read_112 : decode cX7_read 112 = .ok (.aload_n 0, 1) := by decide +kernel
theorem dX7_read_113 : decode cX7_read 113 = .ok (.iload_n 2, 1) := by decide +kernel
theorem dX7_read_114 : decode cX7_read 114 = .ok (.iconst 0, 1) := by decide +kernel
theorem dX7_read_115 : decode cX7_read 115 = .ok (.invokevirtual 40, 3) := by decide +kernel
theorem dX7_read_118 : decode cX7_read 118 = .ok (.iadd, 1) := by decide +kernel
theorem dX7_read_119 : decode cX7_read 119 = .ok (.aload_n 0, 1) := by decide +kernel
theorem dX7_read_120 : decode cX7_read 120 = .ok (.getfield 22, 3) := by decide +kernel
theorem dX7_read_123 : decode cX7_read 123 = .ok (.iconst 2, 1) := by decide +kernel
theorem dX7_read_124 : decode cX7_read 124 = .ok (.iload_n 3, 1) := by decide +kernel
theorem dX7_read_125 : decode cX7_read 125 = .ok (.imul, 1) := by decide +kernel
theorem dX7_read_126 : decode cX7_read 126 = .ok (.iaload, 1) := by decide +kernel
theorem dX7_read_127 : decode cX7_read 127 = .ok (.invokevirtual 89, 3) := by decide +kernel
theorem dX7_read_130 : decode cX7_read 130 = .ok (.aload_n 0, 1) := by decide +kernel
theorem dX7_read_131 : decode cX7_read 131 = .ok (.iload_n 2, 1) := by decide +kernel
theorem dX7_read_132 : decode cX7_read 132 = .ok (.iconst 0, 1) := by decide +kernel
theorem dX7_read_133 : decode cX7_read 133 = .ok (.aload_n 0, 1) := by decide +kernel
theorem dX7_read_134 : decode cX7_read 134 = .ok (.iload_n 2, 1) := by decide +kernel
theorem dX7_read_135 : decode cX7_read 135 = .ok (.iconst 0, 1) := by decide +kernel
theorem dX7_read_136 : decode cX7_read 136 = .ok (.invokevirtual 40, 3) := by decide +kernel
theorem dX7_read_139 : decode cX7_read 139 = .ok (.iconst 1, 1) := by decide +kernel
theorem dX7_read_140 : decode cX7_read 140 = .ok (.iadd, 1) := by decide +kernel
theorem dX7_read_141 : decode cX7_read 141 = .ok (.invokevirtual 89, 3) := by decide +kernel
theorem dX7_read_144 : decode cX7_read 144 = .ok (.iinc 4 1, 3) := by decide +kernel
theorem dX7_read_147 : decode cX7_read 147 = .ok (.goto (-49), 3) := by decide +kernel
theorem dX7_read_150 : decode cX7_read 150 = .ok (.iinc 3 1, 3) := by decide +kernel
theorem dX7_read_153 : decode cX7_read 153 = .ok (.goto (-66), 3) := by decide +kernel
theorem dX7_read_156 : decode cX7_read 156 = .ok (.aload_n 0, 1) := by decide +kernel
theorem dX7_read_157 : decode cX7_read 157 = .ok (.iload_n 2, 1) := by decide +kernel
theorem dX7_read_158 : decode cX7_read 158 = .ok (.invokevirtual 102, 3) := by decide +kernel
theorem dX7_read_161 : decode cX7_read 161 = .ok (.iload_n 2, 1) := by decide +kernel
theorem dX7_read_162 : decode cX7_read 162 = .ok (.ireturn, 1) := by decide +kernel
theorem dX7_add_0 : decode cX7_add 0 = .ok (.aload_n 0, 1) := by decide +kernel
theorem dX7_add_1 : decode cX7_add 1 = .ok (.aload_n 0, 1) := by decide +kernel
theorem dX7_add_2 : decode cX7_add 2 = .ok (.iload_n 1, 1) := by decide +kernel
theorem dX7_add_3 : decode cX7_add 3 = .ok (.invokevirtual 36, 3) := by decide +kernel
theorem dX7_add_6 : decode cX7_add 6 = .ok (.ifCond .ne 7, 3) := by decide +kernel
theorem dX7_add_9 : decode cX7_add 9 = .ok (.iconst 1, 1) := by decide +kernel
theorem dX7_add_10 : decode cX7_add 10 = .ok (.goto 30, 3) := by decide +kernel
theorem dX7_add_13 : decode cX7_add 13 = .ok (.iload_n 2, 1) := by decide +kernel
theorem dX7_add_14 : decode cX7_add 14 = .ok (.invokestatic 93, 3) := by decide +kernel
theorem dX7_add_17 : decode cX7_add 17 = .ok (.ifCond .ne 7, 3) := by decide +kernel
theorem dX7_add_20 : decode cX7_add 20 = .ok (.iconst 2, 1) := by decide +kernel
theorem dX7_add_21 : decode cX7_add 21 = .ok (.goto 19, 3) := by decide +kernel
theorem dX7_add_24 : decode cX7_add 24 = .ok (.aload_n 0, 1) := by decide +kernel
theorem dX7_add_25 : decode cX7_add 25 = .ok (.iload_n 1, 1) := by decide +kernel
theorem dX7_add_26 : decode cX7_add 26 = .ok (.iconst 0, 1) := by decide +kernel
theorem dX7_add_27 : decode cX7_add 27 = .ok (.invokevirtual 40, 3) := by decide +kernel
theorem dX7_add_30 : decode cX7_add 30 = .ok (.bipush 24, 2) := by decide +kernel
theorem dX7_add_32 : decode cX7_add 32 = .ok (.if_icmp .ne 7, 3) := by decide +kernel
theorem dX7_add_35 : decode cX7_add 35 = .ok (.iconst 3, 1) := by decide +kernel
theorem dX7_add_36 : decode cX7_add 36 = .ok (.goto 4, 3) := by decide +kernel
theorem dX7_add_39 : decode cX7_add 39 = .ok (.iconst 0, 1) := by decide +kernel
theorem dX7_add_40 : decode cX7_add 40 = .ok (.putfield 25, 3) := by decide +kernel
theorem dX7_add_43 : decode cX7_add 43 = .ok (.aload_n 0, 1) := by decide +kernel
theorem dX7_add_44 : decode cX7_add 44 = .ok (.getfield 25, 3) := by decide +kernel
theorem dX7_add_47 : decode cX7_add 47 = .ok (.ifCond .le 5, 3) := by decide +kernel
theorem dX7_add_50 : decode cX7_add 50 = .ok (.iconst 0, 1) := by decide +kernel
theorem dX7_add_51 : decode cX7_add 51 = .ok (.ireturn, 1) := by decide +kernel
theorem dX7_add_52 : decode cX7_add 52 = .ok (.aload_n 0, 1) := by decide +kernel
theorem dX7_add_53 : decode cX7_add 53 = .ok (.invokevirtual 96, 3) := by decide +kernel
theorem dX7_add_56 : decode cX7_add 56 = .ok (.aload_n 0, 1) := by decide +kernel
theorem dX7_add_57 : decode cX7_add 57 = .ok (.iload_n 1, 1) := by decide +kernel
theorem dX7_add_58 : decode cX7_add 58 = .ok (.bipush 8, 2) := by decide +kernel
theorem dX7_add_60 : decode cX7_add 60 = .ok (.aload_n 0, 1) := by decide +kernel
theorem dX7_add_61 : decode cX7_add 61 = .ok (.iload_n 1, 1) := by decide +kernel
theorem dX7_add_62 : decode cX7_add 62 = .ok (.iconst 0, 1) := by decide +kernel
theorem dX7_add_63 : decode cX7_add 63 = .ok (.invokevirtual 40, 3) := by decide +kernel
theorem dX7_add_66 : decode cX7_add 66 = .ok (.iadd, 1) := by decide +kernel
theorem dX7_add_67 : decode cX7_add 67 = .ok (.iload_n 2, 1) := by decide +kernel
theorem dX7_add_68 : decode cX7_add 68 = .ok (.invokevirtual 89, 3) := by decide +kernel
theorem dX7_add_71 : decode cX7_add 71 = .ok (.aload_n 0, 1) := by decide +kernel
theorem dX7_add_72 : decode cX7_add 72 = .ok (.iload_n 1, 1) := by decide +kernel
theorem dX7_add_73 : decode cX7_add 73 = .ok (.iconst 0, 1) := by decide +kernel
theorem dX7_add_74 : decode cX7_add 74 = .ok (.aload_n 0, 1) := by decide +kernel
theorem dX7_add_75 : decode cX7_add 75 = .ok (.iload_n 1, 1) := by decide +kernel
theorem dX7_add_76 : decode cX7_add 76 = .ok (.iconst 0, 1) := by decide +kernel
theorem dX7_add_77 : decode cX7_add 77 = .ok (.invokevirtual 40, 3) := by decide +kernel
theorem dX7_add_80 : decode cX7_add 80 = .ok (.iconst 1, 1) := by decide +kernel
theorem dX7_add_81 : decode cX7_add 81 = .ok (.iadd, 1) := by decide +kernel
theorem dX7_add_82 : decode cX7_add 82 = .ok (.invokevirtual 89, 3) := by decide +kernel
theorem dX7_add_85 : decode cX7_add 85 = .ok (.aload_n 0, 1) := by decide +kernel
theorem dX7_add_86 : decode cX7_add 86 = .ok (.iload_n 1, 1) := by decide +kernel
theorem dX7_add_87 : decode cX7_add 87 = .ok (.iconst 0, 1) := by decide +kernel
theorem dX7_add_88 : decode cX7_add 88 = .ok (.invokevirtual 40, 3) := by decide +kernel
theorem dX7_add_91 : decode cX7_add 91 = .ok (.ireturn, 1) := by decide +kernel
theorem dX7_put_0 : decode cX7_put 0 = .ok (.aload_n 0, 1) := by decide +kernel
theorem dX7_put_1 : decode cX7_put 1 = .ok (.aload_n 0, 1) := by decide +kernel
theorem dX7_put_2 : decode cX7_put 2 = .ok (.iload_n 1, 1) := by decide +kernel
theorem dX7_put_3 : decode cX7_put 3 = .ok (.iload_n 2, 1) := by decide +kernel
theorem dX7_put_4 : decode cX7_put 4 = .ok (.invokevirtual 124, 3) := by decide +kernel
theorem dX7_put_7 : decode cX7_put 7 = .ok (.ifCond .ne 7, 3) := by decide +kernel
theorem dX7_put_10 : decode cX7_put 10 = .ok (.iconst 1, 1) := by decide +kernel
theorem dX7_put_11 : decode cX7_put 11 = .ok (.goto 15, 3) := by decide +kernel
theorem dX7_put_14 : decode cX7_put 14 = .ok (.iload_n 3, 1) := by decide +kernel
theorem dX7_put_15 : decode cX7_put 15 = .ok (.invokestatic 93, 3) := by decide +kernel
theorem dX7_put_18 : decode cX7_put 18 = .ok (.ifCond .eq 7, 3) := by decide +kernel
theorem dX7_put_21 : decode cX7_put 21 = .ok (.iconst 0, 1) := by decide +kernel
theorem dX7_put_22 : decode cX7_put 22 = .ok (.goto 4, 3) := by decide +kernel
theorem dX7_put_25 : decode cX7_put 25 = .ok (.iconst 2, 1) := by decide +kernel
theorem dX7_put_26 : decode cX7_put 26 = .ok (.putfield 25, 3) := by decide +kernel
theorem dX7_put_29 : decode cX7_put 29 = .ok (.aload_n 0, 1) := by decide +kernel
theorem dX7_put_30 : decode cX7_put 30 = .ok (.getfield 25, 3) := by decide +kernel
theorem dX7_put_33 : decode cX7_put 33 = .ok (.ifCond .le 5, 3) := by decide +kernel
theorem dX7_put_36 : decode cX7_put 36 = .ok (.iconst 0, 1) := by decide +kernel
theorem dX7_put_37 : decode cX7_put 37 = .ok (.ireturn, 1) := by decide +kernel
theorem dX7_put_38 : decode cX7_put 38 = .ok (.aload_n 0, 1) := by decide +kernel
theorem dX7_put_39 : decode cX7_put 39 = .ok (.invokevirtual 96, 3) := by decide +kernel
theorem dX7_put_42 : decode cX7_put 42 = .ok (.aload_n 0, 1) := by decide +kernel
theorem dX7_put_43 : decode cX7_put 43 = .ok (.iload_n 1, 1) := by decide +kernel
theorem dX7_put_44 : decode cX7_put 44 = .ok (.bipush 8, 2) := by decide +kernel
theorem dX7_put_46 : decode cX7_put 46 = .ok (.iload_n 2, 1) := by decide +kernel
theorem dX7_put_47 : decode cX7_put 47 = .ok (.iadd, 1) := by decide +kernel
theorem dX7_put_48 : decode cX7_put 48 = .ok (.invokevirtual 40, 3) := by decide +kernel
theorem dX7_put_51 : decode cX7_put 51 = .ok (.istore 4, 2) := by decide +kernel
theorem dX7_put_53 : decode cX7_put 53 = .ok (.aload_n 0, 1) := by decide +kernel
theorem dX7_put_54 : decode cX7_put 54 = .ok (.iload_n 1, 1) := by decide +kernel
theorem dX7_put_55 : decode cX7_put 55 = .ok (.bipush 8, 2) := by decide +kernel
theorem dX7_put_57 : decode cX7_put 57 = .ok (.iload_n 2, 1) := by decide +kernel
theorem dX7_put_58 : decode cX7_put 58 = .ok (.iadd, 1) := by decide +kernel
theorem dX7_put_59 : decode cX7_put 59 = .ok (.iload_n 3, 1) := by decide +kernel
theorem dX7_put_60 : decode cX7_put 60 = .ok (.invokevirtual 89, 3) := by decide +kernel
theorem dX7_put_63 : decode cX7_put 63 = .ok (.iload 4, 2) := by decide +kernel
theorem dX7_put_65 : decode cX7_put 65 = .ok (.ireturn, 1) := by decide +kernel
theorem dX7_take_0 : decode cX7_take 0 = .ok (.aload_n 0, 1) := by decide +kernel
theorem dX7_take_1 : decode cX7_take 1 = .ok (.aload_n 0, 1) := by decide +kernel
theorem dX7_take_2 : decode cX7_take 2 = .ok (.iload_n 1, 1) := by decide +kernel
theorem dX7_take_3 : decode cX7_take 3 = .ok (.iload_n 2, 1) := by decide +kernel
theorem dX7_take_4 : decode cX7_take 4 = .ok (.invokevirtual 124, 3) := by decide +kernel
theorem dX7_take_7 : decode cX7_take 7 = .ok (.ifCond .ne 7, 3) := by decide +kernel
theorem dX7_take_10 : decode cX7_take 10 = .ok (.iconst 1, 1) := by decide +kernel
theorem dX7_take_11 : decode cX7_take 11 = .ok (.goto 18, 3) := by decide +kernel
theorem dX7_take_14 : decode cX7_take 14 = .ok (.aload_n 0, 1) := by decide +kernel
theorem dX7_take_15 : decode cX7_take 15 = .ok (.iload_n 1, 1) := by decide +kernel
theorem dX7_take_16 : decode cX7_take 16 = .ok (.iconst 0, 1) := by decide +kernel
theorem dX7_take_17 : decode cX7_take 17 = .ok (.invokevirtual 40, 3) := by decide +kernel
theorem dX7_take_20 : decode cX7_take 20 = .ok (.iconst 1, 1) := by decide +kernel
theorem dX7_take_21 : decode cX7_take 21 = .ok (.if_icmp .ne 7, 3) := by decide +kernel
theorem dX7_take_24 : decode cX7_take 24 = .ok (.iconst 2, 1) := by decide +kernel
theorem dX7_take_25 : decode cX7_take 25 = .ok (.goto 4, 3) := by decide +kernel
theorem dX7_take_28 : decode cX7_take 28 = .ok (.iconst 0, 1) := by decide +kernel
theorem dX7_take_29 : decode cX7_take 29 = .ok (.putfield 25, 3) := by decide +kernel
theorem dX7_take_32 : decode cX7_take 32 = .ok (.aload_n 0, 1) := by decide +kernel
theorem dX7_take_33 : decode cX7_take 33 = .ok (.getfield 25, 3) := by decide +kernel
theorem dX7_take_36 : decode cX7_take 36 = .ok (.ifCond .le 5, 3) := by decide +kernel
theorem dX7_take_39 : decode cX7_take 39 = .ok (.iconst 0, 1) := by decide +kernel
theorem dX7_take_40 : decode cX7_take 40 = .ok (.ireturn, 1) := by decide +kernel
theorem dX7_take_41 : decode cX7_take 41 = .ok (.aload_n 0, 1) := by decide +kernel
theorem dX7_take_42 : decode cX7_take 42 = .ok (.invokevirtual 96, 3) := by decide +kernel
theorem dX7_take_45 : decode cX7_take 45 = .ok (.aload_n 0, 1) := by decide +kernel
theorem dX7_take_46 : decode cX7_take 46 = .ok (.iload_n 1, 1) := by decide +kernel
theorem dX7_take_47 : decode cX7_take 47 = .ok (.bipush 8, 2) := by decide +kernel
theorem dX7_take_49 : decode cX7_take 49 = .ok (.iload_n 2, 1) := by decide +kernel
theorem dX7_take_50 : decode cX7_take 50 = .ok (.iadd, 1) := by decide +kernel
theorem dX7_take_51 : decode cX7_take 51 = .ok (.invokevirtual 40, 3) := by decide +kernel
theorem dX7_take_54 : decode cX7_take 54 = .ok (.istore_n 3, 1) := by decide +kernel
theorem dX7_take_55 : decode cX7_take 55 = .ok (.iload_n 2, 1) := by decide +kernel
theorem dX7_take_56 : decode cX7_take 56 = .ok (.istore 4, 2) := by decide +kernel
theorem dX7_take_58 : decode cX7_take 58 = .ok (.iload 4, 2) := by decide +kernel
theorem dX7_take_60 : decode cX7_take 60 = .ok (.bipush 23, 2) := by decide +kernel
theorem dX7_take_62 : decode cX7_take 62 = .ok (.if_icmp .ge 31, 3) := by decide +kernel
theorem dX7_take_65 : decode cX7_take 65 = .ok (.aload_n 0, 1) := by decide +kernel
theorem dX7_take_66 : decode cX7_take 66 = .ok (.iload_n 1, 1) := by decide +kernel
theorem dX7_take_67 : decode cX7_take 67 = .ok (.bipush 8, 2) := by decide +kernel
theorem dX7_take_69 : decode cX7_take 69 = .ok (.iload 4, 2) := by decide +kernel
theorem dX7_take_71 : decode cX7_take 71 = .ok (.iadd, 1) := by decide +kernel
theorem dX7_take_72 : decode cX7_take 72 = .ok (.aload_n 0, 1) := by decide +kernel
theorem dX7_take_73 : decode cX7_take 73 = .ok (.iload_n 1, 1) := by decide +kernel
theorem dX7_take_74 : decode cX7_take 74 = .ok (.bipush 8, 2) := by decide +kernel
theorem dX7_take_76 : decode cX7_take 76 = .ok (.iload 4, 2) := by decide +kernel
theorem dX7_take_78 : decode cX7_take 78 = .ok (.iadd, 1) := by decide +kernel
theorem dX7_take_79 : decode cX7_take 79 = .ok (.iconst 1, 1) := by decide +kernel
theorem dX7_take_80 : decode cX7_take 80 = .ok (.iadd, 1) := by decide +kernel
theorem dX7_take_81 : decode cX7_take 81 = .ok (.invokevirtual 40, 3) := by decide +kernel
theorem dX7_take_84 : decode cX7_take 84 = .ok (.invokevirtual 89, 3) := by decide +kernel
theorem dX7_take_87 : decode cX7_take 87 = .ok (.iinc 4 1, 3) := by decide +kernel
theorem dX7_take_90 : decode cX7_take 90 = .ok (.goto (-32), 3) := by decide +kernel
theorem dX7_take_93 : decode cX7_take 93 = .ok (.aload_n 0, 1) := by decide +kernel
theorem dX7_take_94 : decode cX7_take 94 = .ok (.iload_n 1, 1) := by decide +kernel
theorem dX7_take_95 : decode cX7_take 95 = .ok (.iconst 0, 1) := by decide +kernel
theorem dX7_take_96 : decode cX7_take 96 = .ok (.aload_n 0, 1) := by decide +kernel
theorem dX7_take_97 : decode cX7_take 97 = .ok (.iload_n 1, 1) := by decide +kernel
theorem dX7_take_98 : decode cX7_take 98 = .ok (.iconst 0, 1) := by decide +kernel
theorem dX7_take_99 : decode cX7_take 99 = .ok (.invokevirtual 40, 3) := by decide +kernel
theorem dX7_take_102 : decode cX7_take 102 = .ok (.iconst 1, 1) := by decide +kernel
theorem dX7_take_103 : decode cX7_take 103 = .ok (.isub, 1) := by decide +kernel
theorem dX7_take_104 : decode cX7_take 104 = .ok (.invokevirtual 89, 3) := by decide +kernel
theorem dX7_take_107 : decode cX7_take 107 = .ok (.iload_n 3, 1) := by decide +kernel
theorem dX7_take_108 : decode cX7_take 108 = .ok (.ireturn, 1) := by decide +kernel
theorem dX7_turn_0 : decode cX7_turn 0 = .ok (.aload_n 0, 1) := by decide +kernel
theorem dX7_turn_1 : decode cX7_turn 1 = .ok (.aload_n 0, 1) := by decide +kernel
theorem dX7_turn_2 : decode cX7_turn 2 = .ok (.iload_n 1, 1) := by decide +kernel
theorem dX7_turn_3 : decode cX7_turn 3 = .ok (.invokevirtual 36, 3) := by decide +kernel
theorem dX7_turn_6 : decode cX7_turn 6 = .ok (.ifCond .eq 7, 3) := by decide +kernel
theorem dX7_turn_9 : decode cX7_turn 9 = .ok (.iconst 0, 1) := by decide +kernel
theorem dX7_turn_10 : decode cX7_turn 10 = .ok (.goto 4, 3) := by decide +kernel
theorem dX7_turn_13 : decode cX7_turn 13 = .ok (.iconst 1, 1) := by decide +kernel
theorem dX7_turn_14 : decode cX7_turn 14 = .ok (.putfield 25, 3) := by decide +kernel
theorem dX7_turn_17 : decode cX7_turn 17 = .ok (.aload_n 0, 1) := by decide +kernel
theorem dX7_turn_18 : decode cX7_turn 18 = .ok (.getfield 25, 3) := by decide +kernel
theorem dX7_turn_21 : decode cX7_turn 21 = .ok (.ifCond .le 5, 3) := by decide +kernel
theorem dX7_turn_24 : decode cX7_turn 24 = .ok (.iconst 0, 1) := by decide +kernel
theorem dX7_turn_25 : decode cX7_turn 25 = .ok (.ireturn, 1) := by decide +kernel
theorem dX7_turn_26 : decode cX7_turn 26 = .ok (.aload_n 0, 1) := by decide +kernel
theorem dX7_turn_27 : decode cX7_turn 27 = .ok (.invokevirtual 96, 3) := by decide +kernel
theorem dX7_turn_30 : decode cX7_turn 30 = .ok (.aload_n 0, 1) := by decide +kernel
theorem dX7_turn_31 : decode cX7_turn 31 = .ok (.iload_n 1, 1) := by decide +kernel
theorem dX7_turn_32 : decode cX7_turn 32 = .ok (.invokevirtual 47, 3) := by decide +kernel
theorem dX7_turn_35 : decode cX7_turn 35 = .ok (.iconst 0, 1) := by decide +kernel
theorem dX7_turn_36 : decode cX7_turn 36 = .ok (.istore_n 2, 1) := by decide +kernel
theorem dX7_turn_37 : decode cX7_turn 37 = .ok (.iload_n 2, 1) := by decide +kernel
theorem dX7_turn_38 : decode cX7_turn 38 = .ok (.aload_n 0, 1) := by decide +kernel
theorem dX7_turn_39 : decode cX7_turn 39 = .ok (.getfield 44, 3) := by decide +kernel
theorem dX7_turn_42 : decode cX7_turn 42 = .ok (.if_icmp .ge 31, 3) := by decide +kernel
theorem dX7_turn_45 : decode cX7_turn 45 = .ok (.aload_n 0, 1) := by decide +kernel
theorem dX7_turn_46 : decode cX7_turn 46 = .ok (.iload_n 1, 1) := by decide +kernel
theorem dX7_turn_47 : decode cX7_turn 47 = .ok (.bipush 8, 2) := by decide +kernel
theorem dX7_turn_49 : decode cX7_turn 49 = .ok (.iload_n 2, 1) := by decide +kernel
theorem dX7_turn_50 : decode cX7_turn 50 = .ok (.iadd, 1) := by decide +kernel
theorem dX7_turn_51 : decode cX7_turn 51 = .ok (.aload_n 0, 1) := by decide +kernel
theorem dX7_turn_52 : decode cX7_turn 52 = .ok (.getfield 19, 3) := by decide +kernel
theorem dX7_turn_55 : decode cX7_turn 55 = .ok (.aload_n 0, 1) := by decide +kernel
theorem dX7_turn_56 : decode cX7_turn 56 = .ok (.getfield 44, 3) := by decide +kernel
theorem dX7_turn_59 : decode cX7_turn 59 = .ok (.iconst 1, 1) := by decide +kernel
theorem dX7_turn_60 : decode cX7_turn 60 = .ok (.isub, 1) := by decide +kernel
theorem dX7_turn_61 : decode cX7_turn 61 = .ok (.iload_n 2, 1) := by decide +kernel
theorem dX7_turn_62 : decode cX7_turn 62 = .ok (.isub, 1) := by decide +kernel
theorem dX7_turn_63 : decode cX7_turn 63 = .ok (.iaload, 1) := by decide +kernel
theorem dX7_turn_64 : decode cX7_turn 64 = .ok (.invokevirtual 89, 3) := by decide +kernel
theorem dX7_turn_67 : decode cX7_turn 67 = .ok (.iinc 2 1, 3) := by decide +kernel
theorem dX7_turn_70 : decode cX7_turn 70 = .ok (.goto (-33), 3) := by decide +kernel
theorem dX7_turn_73 : decode cX7_turn 73 = .ok (.aload_n 0, 1) := by decide +kernel
theorem dX7_turn_74 : decode cX7_turn 74 = .ok (.getfield 19, 3) := by decide +kernel
theorem dX7_turn_77 : decode cX7_turn 77 = .ok (.aload_n 0, 1) := by decide +kernel
theorem dX7_turn_78 : decode cX7_turn 78 = .ok (.getfield 44, 3) := by decide +kernel
theorem dX7_turn_81 : decode cX7_turn 81 = .ok (.iconst 1, 1) := by decide +kernel
theorem dX7_turn_82 : decode cX7_turn 82 = .ok (.isub, 1) := by decide +kernel
theorem dX7_turn_83 : decode cX7_turn 83 = .ok (.iaload, 1) := by decide +kernel
theorem dX7_turn_84 : decode cX7_turn 84 = .ok (.ireturn, 1) := by decide +kernel
theorem dX7_remove_0 : decode cX7_remove 0 = .ok (.aload_n 0, 1) := by decide +kernel
theorem dX7_remove_1 : decode cX7_remove 1 = .ok (.getfield 7, 3) := by decide +kernel
theorem dX7_remove_4 : decode cX7_remove 4 = .ok (.iconst 2, 1) := by decide +kernel
theorem dX7_remove_5 : decode cX7_remove 5 = .ok (.dup2, 1) := by decide +kernel
theorem dX7_remove_6 : decode cX7_remove 6 = .ok (.iaload, 1) := by decide +kernel
theorem dX7_remove_7 : decode cX7_remove 7 = .ok (.iconst 1, 1) := by decide +kernel
theorem dX7_remove_8 : decode cX7_remove 8 = .ok (.isub, 1) := by decide +kernel
theorem dX7_remove_9 : decode cX7_remove 9 = .ok (.iastore, 1) := by decide +kernel
theorem dX7_remove_10 : decode cX7_remove 10 = .ok (.iconst 4, 1) := by decide +kernel
theorem dX7_remove_11 : decode cX7_remove 11 = .ok (.bipush 32, 2) := by decide +kernel
theorem dX7_remove_13 : decode cX7_remove 13 = .ok (.iload_n 1, 1) := by decide +kernel
theorem dX7_remove_14 : decode cX7_remove 14 = .ok (.imul, 1) := by decide +kernel
theorem dX7_remove_15 : decode cX7_remove 15 = .ok (.iadd, 1) := by decide +kernel
theorem dX7_remove_16 : decode cX7_remove 16 = .ok (.istore_n 2, 1) := by decide +kernel
theorem dX7_remove_17 : decode cX7_remove 17 = .ok (.iload_n 2, 1) := by decide +kernel
theorem dX7_remove_18 : decode cX7_remove 18 = .ok (.iconst 4, 1) := by decide +kernel
theorem dX7_remove_19 : decode cX7_remove 19 = .ok (.bipush 32, 2) := by decide +kernel
theorem dX7_remove_21 : decode cX7_remove 21 = .ok (.aload_n 0, 1) := by decide +kernel
theorem dX7_remove_22 : decode cX7_remove 22 = .ok (.getfield 7, 3) := by decide +kernel
theorem dX7_remove_25 : decode cX7_remove 25 = .ok (.iconst 2, 1) := by decide +kernel
theorem dX7_remove_26 : decode cX7_remove 26 = .ok (.iaload, 1) := by decide +kernel
theorem dX7_remove_27 : decode cX7_remove 27 = .ok (.imul, 1) := by decide +kernel
theorem dX7_remove_28 : decode cX7_remove 28 = .ok (.iadd, 1) := by decide +kernel
theorem dX7_remove_29 : decode cX7_remove 29 = .ok (.if_icmp .ge 24, 3) := by decide +kernel
theorem dX7_remove_32 : decode cX7_remove 32 = .ok (.aload_n 0, 1) := by decide +kernel
theorem dX7_remove_33 : decode cX7_remove 33 = .ok (.getfield 7, 3) := by decide +kernel
theorem dX7_remove_36 : decode cX7_remove 36 = .ok (.iload_n 2, 1) := by decide +kernel
theorem dX7_remove_37 : decode cX7_remove 37 = .ok (.aload_n 0, 1) := by decide +kernel
theorem dX7_remove_38 : decode cX7_remove 38 = .ok (.getfield 7, 3) := by decide +kernel
theorem dX7_remove_41 : decode cX7_remove 41 = .ok (.iload_n 2, 1) := by decide +kernel
theorem dX7_remove_42 : decode cX7_remove 42 = .ok (.bipush 32, 2) := by decide +kernel
theorem dX7_remove_44 : decode cX7_remove 44 = .ok (.iadd, 1) := by decide +kernel
theorem dX7_remove_45 : decode cX7_remove 45 = .ok (.iaload, 1) := by decide +kernel
theorem dX7_remove_46 : decode cX7_remove 46 = .ok (.iastore, 1) := by decide +kernel
theorem dX7_remove_47 : decode cX7_remove 47 = .ok (.iinc 2 1, 3) := by decide +kernel
theorem dX7_remove_50 : decode cX7_remove 50 = .ok (.goto (-33), 3) := by decide +kernel
theorem dX7_remove_53 : decode cX7_remove 53 = .ok (.return_, 1) := by decide +kernel
theorem dX7_canJoin_0 : decode cX7_canJoin 0 = .ok (.iload_n 1, 1) := by decide +kernel
theorem dX7_canJoin_1 : decode cX7_canJoin 1 = .ok (.iload_n 2, 1) := by decide +kernel
theorem dX7_canJoin_2 : decode cX7_canJoin 2 = .ok (.if_icmp .eq 25, 3) := by decide +kernel
theorem dX7_canJoin_5 : decode cX7_canJoin 5 = .ok (.aload_n 0, 1) := by decide +kernel
theorem dX7_canJoin_6 : decode cX7_canJoin 6 = .ok (.iload_n 1, 1) := by decide +kernel
theorem dX7_canJoin_7 : decode cX7_canJoin 7 = .ok (.iconst 0, 1) := by decide +kernel
theorem dX7_canJoin_8 : decode cX7_canJoin 8 = .ok (.invokevirtual 40, 3) := by decide +kernel
theorem dX7_canJoin_11 : decode cX7_canJoin 11 = .ok (.aload_n 0, 1) := by decide +kernel
theorem dX7_canJoin_12 : decode cX7_canJoin 12 = .ok (.iload_n 2, 1) := by decide +kernel
theorem dX7_canJoin_13 : decode cX7_canJoin 13 = .ok (.iconst 0, 1) := by decide +kernel
theorem dX7_canJoin_14 : decode cX7_canJoin 14 = .ok (.invokevirtual 40, 3) := by decide +kernel
theorem dX7_canJoin_17 : decode cX7_canJoin 17 = .ok (.iadd, 1) := by decide +kernel
theorem dX7_canJoin_18 : decode cX7_canJoin 18 = .ok (.bipush 24, 2) := by decide +kernel
theorem dX7_canJoin_20 : decode cX7_canJoin 20 = .ok (.if_icmp .gt 7, 3) := by decide +kernel
theorem dX7_canJoin_23 : decode cX7_canJoin 23 = .ok (.iconst 1, 1) := by decide +kernel
theorem dX7_canJoin_24 : decode cX7_canJoin 24 = .ok (.goto 4, 3) := by decide +kernel
theorem dX7_canJoin_27 : decode cX7_canJoin 27 = .ok (.iconst 0, 1) := by decide +kernel
theorem dX7_canJoin_28 : decode cX7_canJoin 28 = .ok (.ireturn, 1) := by decide +kernel
theorem dX7_join_0 : decode cX7_join 0 = .ok (.aload_n 0, 1) := by decide +kernel
theorem dX7_join_1 : decode cX7_join 1 = .ok (.aload_n 0, 1) := by decide +kernel
theorem dX7_join_2 : decode cX7_join 2 = .ok (.iload_n 1, 1) := by decide +kernel
theorem dX7_join_3 : decode cX7_join 3 = .ok (.invokevirtual 36, 3) := by decide +kernel
theorem dX7_join_6 : decode cX7_join 6 = .ok (.ifCond .eq 11, 3) := by decide +kernel
theorem dX7_join_9 : decode cX7_join 9 = .ok (.aload_n 0, 1) := by decide +kernel
theorem dX7_join_10 : decode cX7_join 10 = .ok (.iload_n 2, 1) := by decide +kernel
theorem dX7_join_11 : decode cX7_join 11 = .ok (.invokevirtual 36, 3) := by decide +kernel
theorem dX7_join_14 : decode cX7_join 14 = .ok (.ifCond .ne 7, 3) := by decide +kernel
theorem dX7_join_17 : decode cX7_join 17 = .ok (.iconst 1, 1) := by decide +kernel
theorem dX7_join_18 : decode cX7_join 18 = .ok (.goto 26, 3) := by decide +kernel
theorem dX7_join_21 : decode cX7_join 21 = .ok (.iload_n 1, 1) := by decide +kernel
theorem dX7_join_22 : decode cX7_join 22 = .ok (.iload_n 2, 1) := by decide +kernel
theorem dX7_join_23 : decode cX7_join 23 = .ok (.if_icmp .ne 7, 3) := by decide +kernel
theorem dX7_join_26 : decode cX7_join 26 = .ok (.iconst 2, 1) := by decide +kernel
theorem dX7_join_27 : decode cX7_join 27 = .ok (.goto 17, 3) := by decide +kernel
theorem dX7_join_30 : decode cX7_join 30 = .ok (.aload_n 0, 1) := by decide +kernel
theorem dX7_join_31 : decode cX7_join 31 = .ok (.iload_n 1, 1) := by decide +kernel
theorem dX7_join_32 : decode cX7_join 32 = .ok (.iload_n 2, 1) := by decide +kernel
theorem dX7_join_33 : decode cX7_join 33 = .ok (.invokevirtual 128, 3) := by decide +kernel
theorem dX7_join_36 : decode cX7_join 36 = .ok (.ifCond .eq 7, 3) := by decide +kernel
theorem dX7_join_39 : decode cX7_join 39 = .ok (.iconst 0, 1) := by decide +kernel
theorem dX7_join_40 : decode cX7_join 40 = .ok (.goto 4, 3) := by decide +kernel
theorem dX7_join_43 : decode cX7_join 43 = .ok (.iconst 3, 1) := by decide +kernel
theorem dX7_join_44 : decode cX7_join 44 = .ok (.putfield 25, 3) := by decide +kernel
theorem dX7_join_47 : decode cX7_join 47 = .ok (.aload_n 0, 1) := by decide +kernel
theorem dX7_join_48 : decode cX7_join 48 = .ok (.getfield 25, 3) := by decide +kernel
theorem dX7_join_51 : decode cX7_join 51 = .ok (.ifCond .le 5, 3) := by decide +kernel
theorem dX7_join_54 : decode cX7_join 54 = .ok (.iconst 0, 1) := by decide +kernel
theorem dX7_join_55 : decode cX7_join 55 = .ok (.ireturn, 1) := by decide +kernel
theorem dX7_join_56 : decode cX7_join 56 = .ok (.aload_n 0, 1) := by decide +kernel
theorem dX7_join_57 : decode cX7_join 57 = .ok (.invokevirtual 96, 3) := by decide +kernel
theorem dX7_join_60 : decode cX7_join 60 = .ok (.aload_n 0, 1) := by decide +kernel
theorem dX7_join_61 : decode cX7_join 61 = .ok (.iload_n 1, 1) := by decide +kernel
theorem dX7_join_62 : decode cX7_join 62 = .ok (.iload_n 2, 1) := by decide +kernel
theorem dX7_join_63 : decode cX7_join 63 = .ok (.invokevirtual 131, 3) := by decide +kernel
theorem dX7_join_66 : decode cX7_join 66 = .ok (.iconst 0, 1) := by decide +kernel
theorem dX7_join_67 : decode cX7_join 67 = .ok (.istore_n 3, 1) := by decide +kernel
theorem dX7_join_68 : decode cX7_join 68 = .ok (.iload_n 3, 1) := by decide +kernel
theorem dX7_join_69 : decode cX7_join 69 = .ok (.aload_n 0, 1) := by decide +kernel
theorem dX7_join_70 : decode cX7_join 70 = .ok (.getfield 44, 3) := by decide +kernel
theorem dX7_join_73 : decode cX7_join 73 = .ok (.if_icmp .ge 24, 3) := by decide +kernel
theorem dX7_join_76 : decode cX7_join 76 = .ok (.aload_n 0, 1) := by decide +kernel
theorem dX7_join_77 : decode cX7_join 77 = .ok (.iload_n 1, 1) := by decide +kernel
theorem dX7_join_78 : decode cX7_join 78 = .ok (.bipush 8, 2) := by decide +kernel
theorem dX7_join_80 : decode cX7_join 80 = .ok (.iload_n 3, 1) := by decide +kernel
theorem dX7_join_81 : decode cX7_join 81 = .ok (.iadd, 1) := by decide +kernel
theorem dX7_join_82 : decode cX7_join 82 = .ok (.aload_n 0, 1) := by decide +kernel
theorem dX7_join_83 : decode cX7_join 83 = .ok (.getfield 19, 3) := by decide +kernel
theorem dX7_join_86 : decode cX7_join 86 = .ok (.iload_n 3, 1) := by decide +kernel
theorem dX7_join_87 : decode cX7_join 87 = .ok (.iaload, 1) := by decide +kernel
theorem dX7_join_88 : decode cX7_join 88 = .ok (.invokevirtual 89, 3) := by decide +kernel
theorem dX7_join_91 : decode cX7_join 91 = .ok (.iinc 3 1, 3) := by decide +kernel
theorem dX7_join_94 : decode cX7_join 94 = .ok (.goto (-26), 3) := by decide +kernel
theorem dX7_join_97 : decode cX7_join 97 = .ok (.aload_n 0, 1) := by decide +kernel
theorem dX7_join_98 : decode cX7_join 98 = .ok (.iload_n 1, 1) := by decide +kernel
theorem dX7_join_99 : decode cX7_join 99 = .ok (.iconst 0, 1) := by decide +kernel
theorem dX7_join_100 : decode cX7_join 100 = .ok (.aload_n 0, 1) := by decide +kernel
theorem dX7_join_101 : decode cX7_join 101 = .ok (.getfield 44, 3) := by decide +kernel
theorem dX7_join_104 : decode cX7_join 104 = .ok (.invokevirtual 89, 3) := by decide +kernel
theorem dX7_join_107 : decode cX7_join 107 = .ok (.aload_n 0, 1) := by decide +kernel
theorem dX7_join_108 : decode cX7_join 108 = .ok (.iload_n 1, 1) := by decide +kernel
theorem dX7_join_109 : decode cX7_join 109 = .ok (.iconst 3, 1) := by decide +kernel
theorem dX7_join_110 : decode cX7_join 110 = .ok (.aload_n 0, 1) := by decide +kernel
theorem dX7_join_111 : decode cX7_join 111 = .ok (.iload_n 1, 1) := by decide +kernel
theorem dX7_join_112 : decode cX7_join 112 = .ok (.iconst 3, 1) := by decide +kernel
theorem dX7_join_113 : decode cX7_join 113 = .ok (.invokevirtual 40, 3) := by decide +kernel
theorem dX7_join_116 : decode cX7_join 116 = .ok (.aload_n 0, 1) := by decide +kernel
theorem dX7_join_117 : decode cX7_join 117 = .ok (.iload_n 2, 1) := by decide +kernel
theorem dX7_join_118 : decode cX7_join 118 = .ok (.iconst 3, 1) := by decide +kernel
theorem dX7_join_119 : decode cX7_join 119 = .ok (.invokevirtual 40, 3) := by decide +kernel
theorem dX7_join_122 : decode cX7_join 122 = .ok (.iadd, 1) := by decide +kernel
theorem dX7_join_123 : decode cX7_join 123 = .ok (.invokevirtual 89, 3) := by decide +kernel
theorem dX7_join_126 : decode cX7_join 126 = .ok (.aload_n 0, 1) := by decide +kernel
theorem dX7_join_127 : decode cX7_join 127 = .ok (.iload_n 1, 1) := by decide +kernel
theorem dX7_join_128 : decode cX7_join 128 = .ok (.iconst 4, 1) := by decide +kernel
theorem dX7_join_129 : decode cX7_join 129 = .ok (.aload_n 0, 1) := by decide +kernel
theorem dX7_join_130 : decode cX7_join 130 = .ok (.iload_n 1, 1) := by decide +kernel
theorem dX7_join_131 : decode cX7_join 131 = .ok (.iconst 4, 1) := by decide +kernel
theorem dX7_join_132 : decode cX7_join 132 = .ok (.invokevirtual 40, 3) := by decide +kernel
theorem dX7_join_135 : decode cX7_join 135 = .ok (.aload_n 0, 1) := by decide +kernel
theorem dX7_join_136 : decode cX7_join 136 = .ok (.iload_n 2, 1) := by decide +kernel
theorem dX7_join_137 : decode cX7_join 137 = .ok (.iconst 4, 1) := by decide +kernel
theorem dX7_join_138 : decode cX7_join 138 = .ok (.invokevirtual 40, 3) := by decide +kernel
theorem dX7_join_141 : decode cX7_join 141 = .ok (.iadd, 1) := by decide +kernel
theorem dX7_join_142 : decode cX7_join 142 = .ok (.invokevirtual 89, 3) := by decide +kernel
theorem dX7_join_145 : decode cX7_join 145 = .ok (.aload_n 0, 1) := by decide +kernel
theorem dX7_join_146 : decode cX7_join 146 = .ok (.iload_n 1, 1) := by decide +kernel
theorem dX7_join_147 : decode cX7_join 147 = .ok (.bipush 6, 2) := by decide +kernel
theorem dX7_join_149 : decode cX7_join 149 = .ok (.aload_n 0, 1) := by decide +kernel
theorem dX7_join_150 : decode cX7_join 150 = .ok (.iload_n 1, 1) := by decide +kernel
theorem dX7_join_151 : decode cX7_join 151 = .ok (.bipush 6, 2) := by decide +kernel
theorem dX7_join_153 : decode cX7_join 153 = .ok (.invokevirtual 40, 3) := by decide +kernel
theorem dX7_join_156 : decode cX7_join 156 = .ok (.aload_n 0, 1) := by decide +kernel
theorem dX7_join_157 : decode cX7_join 157 = .ok (.iload_n 2, 1) := by decide +kernel
theorem dX7_join_158 : decode cX7_join 158 = .ok (.bipush 6, 2) := by decide +kernel
theorem dX7_join_160 : decode cX7_join 160 = .ok (.invokevirtual 40, 3) := by decide +kernel
theorem dX7_join_163 : decode cX7_join 163 = .ok (.iadd, 1) := by decide +kernel
theorem dX7_join_164 : decode cX7_join 164 = .ok (.invokevirtual 89, 3) := by decide +kernel
theorem dX7_join_167 : decode cX7_join 167 = .ok (.aload_n 0, 1) := by decide +kernel
theorem dX7_join_168 : decode cX7_join 168 = .ok (.iload_n 2, 1) := by decide +kernel
theorem dX7_join_169 : decode cX7_join 169 = .ok (.invokevirtual 135, 3) := by decide +kernel
theorem dX7_join_172 : decode cX7_join 172 = .ok (.iload_n 2, 1) := by decide +kernel
theorem dX7_join_173 : decode cX7_join 173 = .ok (.iload_n 1, 1) := by decide +kernel
theorem dX7_join_174 : decode cX7_join 174 = .ok (.if_icmp .ge 9, 3) := by decide +kernel
theorem dX7_join_177 : decode cX7_join 177 = .ok (.iload_n 1, 1) := by decide +kernel
theorem dX7_join_178 : decode cX7_join 178 = .ok (.iconst 1, 1) := by decide +kernel
theorem dX7_join_179 : decode cX7_join 179 = .ok (.isub, 1) := by decide +kernel
theorem dX7_join_180 : decode cX7_join 180 = .ok (.goto 4, 3) := by decide +kernel
theorem dX7_join_183 : decode cX7_join 183 = .ok (.iload_n 1, 1) := by decide +kernel
theorem dX7_join_184 : decode cX7_join 184 = .ok (.ireturn, 1) := by decide +kernel
theorem dX7_cut_0 : decode cX7_cut 0 = .ok (.aload_n 0, 1) := by decide +kernel
theorem dX7_cut_1 : decode cX7_cut 1 = .ok (.aload_n 0, 1) := by decide +kernel
theorem dX7_cut_2 : decode cX7_cut 2 = .ok (.iload_n 1, 1) := by decide +kernel
theorem dX7_cut_3 : decode cX7_cut 3 = .ok (.iload_n 2, 1) := by decide +kernel
theorem dX7_cut_4 : decode cX7_cut 4 = .ok (.invokevirtual 124, 3) := by decide +kernel
theorem dX7_cut_7 : decode cX7_cut 7 = .ok (.ifCond .eq 8, 3) := by decide +kernel
theorem dX7_cut_10 : decode cX7_cut 10 = .ok (.iload_n 2, 1) := by decide +kernel
theorem dX7_cut_11 : decode cX7_cut 11 = .ok (.iconst 1, 1) := by decide +kernel
theorem dX7_cut_12 : decode cX7_cut 12 = .ok (.if_icmp .ge 7, 3) := by decide +kernel
theorem dX7_cut_15 : decode cX7_cut 15 = .ok (.iconst 1, 1) := by decide +kernel
theorem dX7_cut_16 : decode cX7_cut 16 = .ok (.goto 19, 3) := by decide +kernel
theorem dX7_cut_19 : decode cX7_cut 19 = .ok (.aload_n 0, 1) := by decide +kernel
theorem dX7_cut_20 : decode cX7_cut 20 = .ok (.getfield 7, 3) := by decide +kernel
theorem dX7_cut_23 : decode cX7_cut 23 = .ok (.iconst 2, 1) := by decide +kernel
theorem dX7_cut_24 : decode cX7_cut 24 = .ok (.iaload, 1) := by decide +kernel
theorem dX7_cut_25 : decode cX7_cut 25 = .ok (.bipush 8, 2) := by decide +kernel
theorem dX7_cut_27 : decode cX7_cut 27 = .ok (.if_icmp .ne 7, 3) := by decide +kernel
theorem dX7_cut_30 : decode cX7_cut 30 = .ok (.iconst 2, 1) := by decide +kernel
theorem dX7_cut_31 : decode cX7_cut 31 = .ok (.goto 4, 3) := by decide +kernel
theorem dX7_cut_34 : decode cX7_cut 34 = .ok (.iconst 0, 1) := by decide +kernel
theorem dX7_cut_35 : decode cX7_cut 35 = .ok (.putfield 25, 3) := by decide +kernel
theorem dX7_cut_38 : decode cX7_cut 38 = .ok (.aload_n 0, 1) := by decide +kernel
theorem dX7_cut_39 : decode cX7_cut 39 = .ok (.getfield 25, 3) := by decide +kernel
theorem dX7_cut_42 : decode cX7_cut 42 = .ok (.ifCond .le 5, 3) := by decide +kernel
theorem dX7_cut_45 : decode cX7_cut 45 = .ok (.iconst 0, 1) := by decide +kernel
theorem dX7_cut_46 : decode cX7_cut 46 = .ok (.ireturn, 1) := by decide +kernel
theorem dX7_cut_47 : decode cX7_cut 47 = .ok (.aload_n 0, 1) := by decide +kernel
theorem dX7_cut_48 : decode cX7_cut 48 = .ok (.invokevirtual 96, 3) := by decide +kernel
theorem dX7_cut_51 : decode cX7_cut 51 = .ok (.aload_n 0, 1) := by decide +kernel
theorem dX7_cut_52 : decode cX7_cut 52 = .ok (.iload_n 1, 1) := by decide +kernel
theorem dX7_cut_53 : decode cX7_cut 53 = .ok (.invokevirtual 47, 3) := by decide +kernel
theorem dX7_cut_56 : decode cX7_cut 56 = .ok (.aload_n 0, 1) := by decide +kernel
theorem dX7_cut_57 : decode cX7_cut 57 = .ok (.getfield 44, 3) := by decide +kernel
theorem dX7_cut_60 : decode cX7_cut 60 = .ok (.istore_n 3, 1) := by decide +kernel
theorem dX7_cut_61 : decode cX7_cut 61 = .ok (.aload_n 0, 1) := by decide +kernel
theorem dX7_cut_62 : decode cX7_cut 62 = .ok (.iload_n 3, 1) := by decide +kernel
theorem dX7_cut_63 : decode cX7_cut 63 = .ok (.iload_n 2, 1) := by decide +kernel
theorem dX7_cut_64 : decode cX7_cut 64 = .ok (.isub, 1) := by decide +kernel
theorem dX7_cut_65 : decode cX7_cut 65 = .ok (.invokevirtual 99, 3) := by decide +kernel
theorem dX7_cut_68 : decode cX7_cut 68 = .ok (.istore 4, 2) := by decide +kernel
theorem dX7_cut_70 : decode cX7_cut 70 = .ok (.iload_n 2, 1) := by decide +kernel
theorem dX7_cut_71 : decode cX7_cut 71 = .ok (.istore 5, 2) := by decide +kernel
theorem dX7_cut_73 : decode cX7_cut 73 = .ok (.iload 5, 2) := by decide +kernel
theorem dX7_cut_75 : decode cX7_cut 75 = .ok (.iload_n 3, 1) := by decide +kernel
theorem dX7_cut_76 : decode cX7_cut 76 = .ok (.if_icmp .ge 29, 3) := by decide +kernel
theorem dX7_cut_79 : decode cX7_cut 79 = .ok (.aload_n 0, 1) := by decide +kernel
theorem dX7_cut_80 : decode cX7_cut 80 = .ok (.iload 4, 2) := by decide +kernel
theorem dX7_cut_82 : decode cX7_cut 82 = .ok (.bipush 8, 2) := by decide +kernel
theorem dX7_cut_84 : decode cX7_cut 84 = .ok (.iload 5, 2) := by decide +kernel
theorem dX7_cut_86 : decode cX7_cut 86 = .ok (.iadd, 1) := by decide +kernel
theorem dX7_cut_87 : decode cX7_cut 87 = .ok (.iload_n 2, 1) := by decide +kernel
theorem dX7_cut_88 : decode cX7_cut 88 = .ok (.isub, 1) := by decide +kernel
theorem dX7_cut_89 : decode cX7_cut 89 = .ok (.aload_n 0, 1) := by decide +kernel
theorem dX7_cut_90 : decode cX7_cut 90 = .ok (.getfield 19, 3) := by decide +kernel
theorem dX7_cut_93 : decode cX7_cut 93 = .ok (.iload 5, 2) := by decide +kernel
theorem dX7_cut_95 : decode cX7_cut 95 = .ok (.iaload, 1) := by decide +kernel
theorem dX7_cut_96 : decode cX7_cut 96 = .ok (.invokevirtual 89, 3) := by decide +kernel
theorem dX7_cut_99 : decode cX7_cut 99 = .ok (.iinc 5 1, 3) := by decide +kernel
theorem dX7_cut_102 : decode cX7_cut 102 = .ok (.goto (-29), 3) := by decide +kernel
theorem dX7_cut_105 : decode cX7_cut 105 = .ok (.aload_n 0, 1) := by decide +kernel
theorem dX7_cut_106 : decode cX7_cut 106 = .ok (.iload_n 1, 1) := by decide +kernel
theorem dX7_cut_107 : decode cX7_cut 107 = .ok (.iconst 0, 1) := by decide +kernel
theorem dX7_cut_108 : decode cX7_cut 108 = .ok (.iload_n 2, 1) := by decide +kernel
theorem dX7_cut_109 : decode cX7_cut 109 = .ok (.invokevirtual 89, 3) := by decide +kernel
theorem dX7_cut_112 : decode cX7_cut 112 = .ok (.aload_n 0, 1) := by decide +kernel
theorem dX7_cut_113 : decode cX7_cut 113 = .ok (.iload 4, 2) := by decide +kernel
theorem dX7_cut_115 : decode cX7_cut 115 = .ok (.invokevirtual 102, 3) := by decide +kernel
theorem dX7_cut_118 : decode cX7_cut 118 = .ok (.iload 4, 2) := by decide +kernel
theorem dX7_cut_120 : decode cX7_cut 120 = .ok (.ireturn, 1) := by decide +kernel
theorem dX7_regretBy_0 : decode cX7_regretBy 0 = .ok (.aload_n 0, 1) := by decide +kernel
theorem dX7_regretBy_1 : decode cX7_regretBy 1 = .ok (.iload_n 1, 1) := by decide +kernel
theorem dX7_regretBy_2 : decode cX7_regretBy 2 = .ok (.invokevirtual 83, 3) := by decide +kernel
theorem dX7_regretBy_5 : decode cX7_regretBy 5 = .ok (.aload_n 0, 1) := by decide +kernel
theorem dX7_regretBy_6 : decode cX7_regretBy 6 = .ok (.aload_n 0, 1) := by decide +kernel
theorem dX7_regretBy_7 : decode cX7_regretBy 7 = .ok (.invokevirtual 86, 3) := by decide +kernel
theorem dX7_regretBy_10 : decode cX7_regretBy 10 = .ok (.invokevirtual 83, 3) := by decide +kernel
theorem dX7_regretBy_13 : decode cX7_regretBy 13 = .ok (.isub, 1) := by decide +kernel
theorem dX7_regretBy_14 : decode cX7_regretBy 14 = .ok (.ireturn, 1) := by decide +kernel
theorem dX7_dayOf_0 : decode cX7_dayOf 0 = .ok (.aload_n 0, 1) := by decide +kernel
theorem dX7_dayOf_1 : decode cX7_dayOf 1 = .ok (.iload_n 1, 1) := by decide +kernel
theorem dX7_dayOf_2 : decode cX7_dayOf 2 = .ok (.invokevirtual 47, 3) := by decide +kernel
theorem dX7_dayOf_5 : decode cX7_dayOf 5 = .ok (.aload_n 0, 1) := by decide +kernel
theorem dX7_dayOf_6 : decode cX7_dayOf 6 = .ok (.aload_n 0, 1) := by decide +kernel
theorem dX7_dayOf_7 : decode cX7_dayOf 7 = .ok (.iload_n 1, 1) := by decide +kernel
theorem dX7_dayOf_8 : decode cX7_dayOf 8 = .ok (.iconst 1, 1) := by decide +kernel
theorem dX7_dayOf_9 : decode cX7_dayOf 9 = .ok (.invokevirtual 40, 3) := by decide +kernel
theorem dX7_dayOf_12 : decode cX7_dayOf 12 = .ok (.invokevirtual 138, 3) := by decide +kernel
theorem dX7_dayOf_15 : decode cX7_dayOf 15 = .ok (.istore_n 2, 1) := by decide +kernel
theorem dX7_dayOf_16 : decode cX7_dayOf 16 = .ok (.aload_n 0, 1) := by decide +kernel
theorem dX7_dayOf_17 : decode cX7_dayOf 17 = .ok (.iload_n 1, 1) := by decide +kernel
theorem dX7_dayOf_18 : decode cX7_dayOf 18 = .ok (.iconst 3, 1) := by decide +kernel
theorem dX7_dayOf_19 : decode cX7_dayOf 19 = .ok (.aload_n 0, 1) := by decide +kernel
theorem dX7_dayOf_20 : decode cX7_dayOf 20 = .ok (.iload_n 1, 1) := by decide +kernel
theorem dX7_dayOf_21 : decode cX7_dayOf 21 = .ok (.iconst 3, 1) := by decide +kernel
theorem dX7_dayOf_22 : decode cX7_dayOf 22 = .ok (.invokevirtual 40, 3) := by decide +kernel
theorem dX7_dayOf_25 : decode cX7_dayOf 25 = .ok (.iload_n 2, 1) := by decide +kernel
theorem dX7_dayOf_26 : decode cX7_dayOf 26 = .ok (.iadd, 1) := by decide +kernel
theorem dX7_dayOf_27 : decode cX7_dayOf 27 = .ok (.invokevirtual 89, 3) := by decide +kernel
theorem dX7_dayOf_30 : decode cX7_dayOf 30 = .ok (.aload_n 0, 1) := by decide +kernel
theorem dX7_dayOf_31 : decode cX7_dayOf 31 = .ok (.getfield 7, 3) := by decide +kernel
theorem dX7_dayOf_34 : decode cX7_dayOf 34 = .ok (.iconst 3, 1) := by decide +kernel
theorem dX7_dayOf_35 : decode cX7_dayOf 35 = .ok (.iaload, 1) := by decide +kernel
theorem dX7_dayOf_36 : decode cX7_dayOf 36 = .ok (.aload_n 0, 1) := by decide +kernel
theorem dX7_dayOf_37 : decode cX7_dayOf 37 = .ok (.iload_n 1, 1) := by decide +kernel
theorem dX7_dayOf_38 : decode cX7_dayOf 38 = .ok (.iconst 2, 1) := by decide +kernel
theorem dX7_dayOf_39 : decode cX7_dayOf 39 = .ok (.invokevirtual 40, 3) := by decide +kernel
theorem dX7_dayOf_42 : decode cX7_dayOf 42 = .ok (.isub, 1) := by decide +kernel
theorem dX7_dayOf_43 : decode cX7_dayOf 43 = .ok (.aload_n 0, 1) := by decide +kernel
theorem dX7_dayOf_44 : decode cX7_dayOf 44 = .ok (.getfield 7, 3) := by decide +kernel
theorem dX7_dayOf_47 : decode cX7_dayOf 47 = .ok (.iconst 0, 1) := by decide +kernel
theorem dX7_dayOf_48 : decode cX7_dayOf 48 = .ok (.iaload, 1) := by decide +kernel
theorem dX7_dayOf_49 : decode cX7_dayOf 49 = .ok (.if_icmp .lt 8, 3) := by decide +kernel
theorem dX7_dayOf_52 : decode cX7_dayOf 52 = .ok (.aload_n 0, 1) := by decide +kernel
theorem dX7_dayOf_53 : decode cX7_dayOf 53 = .ok (.iload_n 1, 1) := by decide +kernel
theorem dX7_dayOf_54 : decode cX7_dayOf 54 = .ok (.invokevirtual 102, 3) := by decide +kernel
theorem dX7_dayOf_57 : decode cX7_dayOf 57 = .ok (.iload_n 2, 1) := by decide +kernel
theorem dX7_dayOf_58 : decode cX7_dayOf 58 = .ok (.ireturn, 1) := by decide +kernel
theorem dX7_pass_0 : decode cX7_pass 0 = .ok (.aload_n 0, 1) := by decide +kernel
theorem dX7_pass_1 : decode cX7_pass 1 = .ok (.iload_n 1, 1) := by decide +kernel
theorem dX7_pass_2 : decode cX7_pass 2 = .ok (.iconst 1, 1) := by decide +kernel
theorem dX7_pass_3 : decode cX7_pass 3 = .ok (.bipush 100, 2) := by decide +kernel
theorem dX7_pass_5 : decode cX7_pass 5 = .ok (.invokestatic 32, 3) := by decide +kernel
theorem dX7_pass_8 : decode cX7_pass 8 = .ok (.ifCond .ne 7, 3) := by decide +kernel
theorem dX7_pass_11 : decode cX7_pass 11 = .ok (.iconst 1, 1) := by decide +kernel
theorem dX7_pass_12 : decode cX7_pass 12 = .ok (.goto 22, 3) := by decide +kernel
theorem dX7_pass_15 : decode cX7_pass 15 = .ok (.aload_n 0, 1) := by decide +kernel
theorem dX7_pass_16 : decode cX7_pass 16 = .ok (.getfield 7, 3) := by decide +kernel
theorem dX7_pass_19 : decode cX7_pass 19 = .ok (.iconst 3, 1) := by decide +kernel
theorem dX7_pass_20 : decode cX7_pass 20 = .ok (.iaload, 1) := by decide +kernel
theorem dX7_pass_21 : decode cX7_pass 21 = .ok (.iload_n 1, 1) := by decide +kernel
theorem dX7_pass_22 : decode cX7_pass 22 = .ok (.iadd, 1) := by decide +kernel
theorem dX7_pass_23 : decode cX7_pass 23 = .ok (.sipush 5000, 3) := by decide +kernel
theorem dX7_pass_26 : decode cX7_pass 26 = .ok (.if_icmp .le 7, 3) := by decide +kernel
theorem dX7_pass_29 : decode cX7_pass 29 = .ok (.iconst 2, 1) := by decide +kernel
theorem dX7_pass_30 : decode cX7_pass 30 = .ok (.goto 4, 3) := by decide +kernel
theorem dX7_pass_33 : decode cX7_pass 33 = .ok (.iconst 0, 1) := by decide +kernel
theorem dX7_pass_34 : decode cX7_pass 34 = .ok (.putfield 25, 3) := by decide +kernel
theorem dX7_pass_37 : decode cX7_pass 37 = .ok (.aload_n 0, 1) := by decide +kernel
theorem dX7_pass_38 : decode cX7_pass 38 = .ok (.getfield 25, 3) := by decide +kernel
theorem dX7_pass_41 : decode cX7_pass 41 = .ok (.ifCond .le 5, 3) := by decide +kernel
theorem dX7_pass_44 : decode cX7_pass 44 = .ok (.iconst 0, 1) := by decide +kernel
theorem dX7_pass_45 : decode cX7_pass 45 = .ok (.ireturn, 1) := by decide +kernel
theorem dX7_pass_46 : decode cX7_pass 46 = .ok (.aload_n 0, 1) := by decide +kernel
theorem dX7_pass_47 : decode cX7_pass 47 = .ok (.invokevirtual 96, 3) := by decide +kernel
theorem dX7_pass_50 : decode cX7_pass 50 = .ok (.iconst 0, 1) := by decide +kernel
theorem dX7_pass_51 : decode cX7_pass 51 = .ok (.istore_n 2, 1) := by decide +kernel
theorem dX7_pass_52 : decode cX7_pass 52 = .ok (.iconst 0, 1) := by decide +kernel
theorem dX7_pass_53 : decode cX7_pass 53 = .ok (.istore_n 3, 1) := by decide +kernel
theorem dX7_pass_54 : decode cX7_pass 54 = .ok (.iload_n 3, 1) := by decide +kernel
theorem dX7_pass_55 : decode cX7_pass 55 = .ok (.iload_n 1, 1) := by decide +kernel
theorem dX7_pass_56 : decode cX7_pass 56 = .ok (.if_icmp .ge 52, 3) := by decide +kernel
theorem dX7_pass_59 : decode cX7_pass 59 = .ok (.aload_n 0, 1) := by decide +kernel
theorem dX7_pass_60 : decode cX7_pass 60 = .ok (.getfield 7, 3) := by decide +kernel
theorem dX7_pass_63 : decode cX7_pass 63 = .ok (.iconst 3, 1) := by decide +kernel
theorem dX7_pass_64 : decode cX7_pass 64 = .ok (.dup2, 1) := by decide +kernel
theorem dX7_pass_65 : decode cX7_pass 65 = .ok (.iaload, 1) := by decide +kernel
theorem dX7_pass_66 : decode cX7_pass 66 = .ok (.iconst 1, 1) := by decide +kernel
theorem dX7_pass_67 : decode cX7_pass 67 = .ok (.iadd, 1) := by decide +kernel
theorem dX7_pass_68 : decode cX7_pass 68 = .ok (.iastore, 1) := by decide +kernel
theorem dX7_pass_69 : decode cX7_pass 69 = .ok (.iconst 0, 1) := by decide +kernel
theorem dX7_pass_70 : decode cX7_pass 70 = .ok (.istore 4, 2) := by decide +kernel
theorem dX7_pass_72 : decode cX7_pass 72 = .ok (.iload 4, 2) := by decide +kernel
theorem dX7_pass_74 : decode cX7_pass 74 = .ok (.aload_n 0, 1) := by decide +kernel
theorem dX7_pass_75 : decode cX7_pass 75 = .ok (.getfield 7, 3) := by decide +kernel
theorem dX7_pass_78 : decode cX7_pass 78 = .ok (.iconst 2, 1) := by decide +kernel
theorem dX7_pass_79 : decode cX7_pass 79 = .ok (.iaload, 1) := by decide +kernel
theorem dX7_pass_80 : decode cX7_pass 80 = .ok (.if_icmp .ge 22, 3) := by decide +kernel
theorem dX7_pass_83 : decode cX7_pass 83 = .ok (.aload_n 0, 1) := by decide +kernel
theorem dX7_pass_84 : decode cX7_pass 84 = .ok (.iload 4, 2) := by decide +kernel
theorem dX7_pass_86 : decode cX7_pass 86 = .ok (.invokevirtual 141, 3) := by decide +kernel
theorem dX7_pass_89 : decode cX7_pass 89 = .ok (.istore 5, 2) := by decide +kernel
theorem dX7_pass_91 : decode cX7_pass 91 = .ok (.iload_n 2, 1) := by decide +kernel
theorem dX7_pass_92 : decode cX7_pass 92 = .ok (.iload 5, 2) := by decide +kernel
theorem dX7_pass_94 : decode cX7_pass 94 = .ok (.iadd, 1) := by decide +kernel
theorem dX7_pass_95 : decode cX7_pass 95 = .ok (.istore_n 2, 1) := by decide +kernel
theorem dX7_pass_96 : decode cX7_pass 96 = .ok (.iinc 4 1, 3) := by decide +kernel
theorem dX7_pass_99 : decode cX7_pass 99 = .ok (.goto (-27), 3) := by decide +kernel
theorem dX7_pass_102 : decode cX7_pass 102 = .ok (.iinc 3 1, 3) := by decide +kernel
theorem dX7_pass_105 : decode cX7_pass 105 = .ok (.goto (-51), 3) := by decide +kernel
theorem dX7_pass_108 : decode cX7_pass 108 = .ok (.iload_n 2, 1) := by decide +kernel
theorem dX7_pass_109 : decode cX7_pass 109 = .ok (.ireturn, 1) := by decide +kernel
theorem dX7_daysLeft_0 : decode cX7_daysLeft 0 = .ok (.aload_n 0, 1) := by decide +kernel
theorem dX7_daysLeft_1 : decode cX7_daysLeft 1 = .ok (.getfield 7, 3) := by decide +kernel
theorem dX7_daysLeft_4 : decode cX7_daysLeft 4 = .ok (.iconst 0, 1) := by decide +kernel
theorem dX7_daysLeft_5 : decode cX7_daysLeft 5 = .ok (.iaload, 1) := by decide +kernel
theorem dX7_daysLeft_6 : decode cX7_daysLeft 6 = .ok (.aload_n 0, 1) := by decide +kernel
theorem dX7_daysLeft_7 : decode cX7_daysLeft 7 = .ok (.getfield 7, 3) := by decide +kernel
theorem dX7_daysLeft_10 : decode cX7_daysLeft 10 = .ok (.iconst 3, 1) := by decide +kernel
theorem dX7_daysLeft_11 : decode cX7_daysLeft 11 = .ok (.iaload, 1) := by decide +kernel
theorem dX7_daysLeft_12 : decode cX7_daysLeft 12 = .ok (.aload_n 0, 1) := by decide +kernel
theorem dX7_daysLeft_13 : decode cX7_daysLeft 13 = .ok (.iload_n 1, 1) := by decide +kernel
theorem dX7_daysLeft_14 : decode cX7_daysLeft 14 = .ok (.iconst 2, 1) := by decide +kernel
theorem dX7_daysLeft_15 : decode cX7_daysLeft 15 = .ok (.invokevirtual 40, 3) := by decide +kernel
theorem dX7_daysLeft_18 : decode cX7_daysLeft 18 = .ok (.isub, 1) := by decide +kernel
theorem dX7_daysLeft_19 : decode cX7_daysLeft 19 = .ok (.isub, 1) := by decide +kernel
theorem dX7_daysLeft_20 : decode cX7_daysLeft 20 = .ok (.istore_n 2, 1) := by decide +kernel
theorem dX7_daysLeft_21 : decode cX7_daysLeft 21 = .ok (.iload_n 2, 1) := by decide +kernel
theorem dX7_daysLeft_22 : decode cX7_daysLeft 22 = .ok (.ifCond .ge 7, 3) := by decide +kernel
theorem dX7_daysLeft_25 : decode cX7_daysLeft 25 = .ok (.iconst 0, 1) := by decide +kernel
theorem dX7_daysLeft_26 : decode cX7_daysLeft 26 = .ok (.goto 4, 3) := by decide +kernel
theorem dX7_daysLeft_29 : decode cX7_daysLeft 29 = .ok (.iload_n 2, 1) := by decide +kernel
theorem dX7_daysLeft_30 : decode cX7_daysLeft 30 = .ok (.ireturn, 1) := by decide +kernel
theorem dX7_fineOf_0 : decode cX7_fineOf 0 = .ok (.aload_n 0, 1) := by decide +kernel
theorem dX7_fineOf_1 : decode cX7_fineOf 1 = .ok (.getfield 7, 3) := by decide +kernel
theorem dX7_fineOf_4 : decode cX7_fineOf 4 = .ok (.iconst 1, 1) := by decide +kernel
theorem dX7_fineOf_5 : decode cX7_fineOf 5 = .ok (.iaload, 1) := by decide +kernel
theorem dX7_fineOf_6 : decode cX7_fineOf 6 = .ok (.aload_n 0, 1) := by decide +kernel
theorem dX7_fineOf_7 : decode cX7_fineOf 7 = .ok (.iload_n 1, 1) := by decide +kernel
theorem dX7_fineOf_8 : decode cX7_fineOf 8 = .ok (.invokevirtual 144, 3) := by decide +kernel
theorem dX7_fineOf_11 : decode cX7_fineOf 11 = .ok (.imul, 1) := by decide +kernel
theorem dX7_fineOf_12 : decode cX7_fineOf 12 = .ok (.ireturn, 1) := by decide +kernel
theorem dX7_breakVow_0 : decode cX7_breakVow 0 = .ok (.aload_n 0, 1) := by decide +kernel
theorem dX7_breakVow_1 : decode cX7_breakVow 1 = .ok (.aload_n 0, 1) := by decide +kernel
theorem dX7_breakVow_2 : decode cX7_breakVow 2 = .ok (.iload_n 1, 1) := by decide +kernel
theorem dX7_breakVow_3 : decode cX7_breakVow 3 = .ok (.invokevirtual 36, 3) := by decide +kernel
theorem dX7_breakVow_6 : decode cX7_breakVow 6 = .ok (.ifCond .eq 7, 3) := by decide +kernel
theorem dX7_breakVow_9 : decode cX7_breakVow 9 = .ok (.iconst 0, 1) := by decide +kernel
theorem dX7_breakVow_10 : decode cX7_breakVow 10 = .ok (.goto 4, 3) := by decide +kernel
theorem dX7_breakVow_13 : decode cX7_breakVow 13 = .ok (.iconst 1, 1) := by decide +kernel
theorem dX7_breakVow_14 : decode cX7_breakVow 14 = .ok (.putfield 25, 3) := by decide +kernel
theorem dX7_breakVow_17 : decode cX7_breakVow 17 = .ok (.aload_n 0, 1) := by decide +kernel
theorem dX7_breakVow_18 : decode cX7_breakVow 18 = .ok (.getfield 25, 3) := by decide +kernel
theorem dX7_breakVow_21 : decode cX7_breakVow 21 = .ok (.ifCond .le 5, 3) := by decide +kernel
theorem dX7_breakVow_24 : decode cX7_breakVow 24 = .ok (.iconst 0, 1) := by decide +kernel
theorem dX7_breakVow_25 : decode cX7_breakVow 25 = .ok (.ireturn, 1) := by decide +kernel
theorem dX7_breakVow_26 : decode cX7_breakVow 26 = .ok (.aload_n 0, 1) := by decide +kernel
theorem dX7_breakVow_27 : decode cX7_breakVow 27 = .ok (.invokevirtual 96, 3) := by decide +kernel
theorem dX7_breakVow_30 : decode cX7_breakVow 30 = .ok (.aload_n 0, 1) := by decide +kernel
theorem dX7_breakVow_31 : decode cX7_breakVow 31 = .ok (.iload_n 1, 1) := by decide +kernel
theorem dX7_breakVow_32 : decode cX7_breakVow 32 = .ok (.invokevirtual 147, 3) := by decide +kernel
theorem dX7_breakVow_35 : decode cX7_breakVow 35 = .ok (.istore_n 2, 1) := by decide +kernel
theorem dX7_breakVow_36 : decode cX7_breakVow 36 = .ok (.aload_n 0, 1) := by decide +kernel
theorem dX7_breakVow_37 : decode cX7_breakVow 37 = .ok (.iload_n 1, 1) := by decide +kernel
theorem dX7_breakVow_38 : decode cX7_breakVow 38 = .ok (.bipush 6, 2) := by decide +kernel
theorem dX7_breakVow_40 : decode cX7_breakVow 40 = .ok (.aload_n 0, 1) := by decide +kernel
theorem dX7_breakVow_41 : decode cX7_breakVow 41 = .ok (.iload_n 1, 1) := by decide +kernel
theorem dX7_breakVow_42 : decode cX7_breakVow 42 = .ok (.bipush 6, 2) := by decide +kernel
theorem dX7_breakVow_44 : decode cX7_breakVow 44 = .ok (.invokevirtual 40, 3) := by decide +kernel
theorem dX7_breakVow_47 : decode cX7_breakVow 47 = .ok (.iload_n 2, 1) := by decide +kernel
theorem dX7_breakVow_48 : decode cX7_breakVow 48 = .ok (.iadd, 1) := by decide +kernel
theorem dX7_breakVow_49 : decode cX7_breakVow 49 = .ok (.invokevirtual 89, 3) := by decide +kernel
theorem dX7_breakVow_52 : decode cX7_breakVow 52 = .ok (.aload_n 0, 1) := by decide +kernel
theorem dX7_breakVow_53 : decode cX7_breakVow 53 = .ok (.iload_n 1, 1) := by decide +kernel
theorem dX7_breakVow_54 : decode cX7_breakVow 54 = .ok (.invokevirtual 102, 3) := by decide +kernel
theorem dX7_breakVow_57 : decode cX7_breakVow 57 = .ok (.iload_n 2, 1) := by decide +kernel
theorem dX7_breakVow_58 : decode cX7_breakVow 58 = .ok (.ireturn, 1) := by decide +kernel
theorem dX7_isQuestion_0 : decode cX7_isQuestion 0 = .ok (.iload_n 0, 1) := by decide +kernel
theorem dX7_isQuestion_1 : decode cX7_isQuestion 1 = .ok (.iconst 0, 1) := by decide +kernel
theorem dX7_isQuestion_2 : decode cX7_isQuestion 2 = .ok (.iconst 2, 1) := by decide +kernel
theorem dX7_isQuestion_3 : decode cX7_isQuestion 3 = .ok (.invokestatic 32, 3) := by decide +kernel
theorem dX7_isQuestion_6 : decode cX7_isQuestion 6 = .ok (.ireturn, 1) := by decide +kernel
theorem dX7_answer_0 : decode cX7_answer 0 = .ok (.iload_n 1, 1) := by decide +kernel
theorem dX7_answer_1 : decode cX7_answer 1 = .ok (.ifCond .ne 9, 3) := by decide +kernel
theorem dX7_answer_4 : decode cX7_answer 4 = .ok (.aload_n 0, 1) := by decide +kernel
theorem dX7_answer_5 : decode cX7_answer 5 = .ok (.iload_n 2, 1) := by decide +kernel
theorem dX7_answer_6 : decode cX7_answer 6 = .ok (.invokevirtual 55, 3) := by decide +kernel
theorem dX7_answer_9 : decode cX7_answer 9 = .ok (.ireturn, 1) := by decide +kernel
theorem dX7_answer_10 : decode cX7_answer 10 = .ok (.iload_n 1, 1) := by decide +kernel
theorem dX7_answer_11 : decode cX7_answer 11 = .ok (.iconst 2, 1) := by decide +kernel
theorem dX7_answer_12 : decode cX7_answer 12 = .ok (.if_icmp .ne 25, 3) := by decide +kernel
theorem dX7_answer_15 : decode cX7_answer 15 = .ok (.aload_n 0, 1) := by decide +kernel
theorem dX7_answer_16 : decode cX7_answer 16 = .ok (.iload_n 2, 1) := by decide +kernel
theorem dX7_answer_17 : decode cX7_answer 17 = .ok (.invokevirtual 51, 3) := by decide +kernel
theorem dX7_answer_20 : decode cX7_answer 20 = .ok (.aload_n 0, 1) := by decide +kernel
theorem dX7_answer_21 : decode cX7_answer 21 = .ok (.getfield 44, 3) := by decide +kernel
theorem dX7_answer_24 : decode cX7_answer 24 = .ok (.if_icmp .ge 11, 3) := by decide +kernel
theorem dX7_answer_27 : decode cX7_answer 27 = .ok (.aload_n 0, 1) := by decide +kernel
theorem dX7_answer_28 : decode cX7_answer 28 = .ok (.iload_n 2, 1) := by decide +kernel
theorem dX7_answer_29 : decode cX7_answer 29 = .ok (.invokevirtual 51, 3) := by decide +kernel
theorem dX7_answer_32 : decode cX7_answer 32 = .ok (.goto 4, 3) := by decide +kernel
theorem dX7_answer_35 : decode cX7_answer 35 = .ok (.iconst (-1), 1) := by decide +kernel
theorem dX7_answer_36 : decode cX7_answer 36 = .ok (.ireturn, 1) := by decide +kernel
theorem dX7_answer_37 : decode cX7_answer 37 = .ok (.iconst 0, 1) := by decide +kernel
theorem dX7_answer_38 : decode cX7_answer 38 = .ok (.istore_n 3, 1) := by decide +kernel
theorem dX7_answer_39 : decode cX7_answer 39 = .ok (.iconst 0, 1) := by decide +kernel
theorem dX7_answer_40 : decode cX7_answer 40 = .ok (.istore 4, 2) := by decide +kernel
theorem dX7_answer_42 : decode cX7_answer 42 = .ok (.iload 4, 2) := by decide +kernel
theorem dX7_answer_44 : decode cX7_answer 44 = .ok (.aload_n 0, 1) := by decide +kernel
theorem dX7_answer_45 : decode cX7_answer 45 = .ok (.getfield 44, 3) := by decide +kernel
theorem dX7_answer_48 : decode cX7_answer 48 = .ok (.if_icmp .ge 19, 3) := by decide +kernel
theorem dX7_answer_51 : decode cX7_answer 51 = .ok (.iload_n 3, 1) := by decide +kernel
theorem dX7_answer_52 : decode cX7_answer 52 = .ok (.aload_n 0, 1) := by decide +kernel
theorem dX7_answer_53 : decode cX7_answer 53 = .ok (.getfield 19, 3) := by decide +kernel
theorem dX7_answer_56 : decode cX7_answer 56 = .ok (.iload 4, 2) := by decide +kernel
theorem dX7_answer_58 : decode cX7_answer 58 = .ok (.iaload, 1) := by decide +kernel
theorem dX7_answer_59 : decode cX7_answer 59 = .ok (.iadd, 1) := by decide +kernel
theorem dX7_answer_60 : decode cX7_answer 60 = .ok (.istore_n 3, 1) := by decide +kernel
theorem dX7_answer_61 : decode cX7_answer 61 = .ok (.iinc 4 1, 3) := by decide +kernel
theorem dX7_answer_64 : decode cX7_answer 64 = .ok (.goto (-22), 3) := by decide +kernel
theorem dX7_answer_67 : decode cX7_answer 67 = .ok (.iload_n 3, 1) := by decide +kernel
theorem dX7_answer_68 : decode cX7_answer 68 = .ok (.ireturn, 1) := by decide +kernel
theorem dX7_ask_0 : decode cX7_ask 0 = .ok (.aload_n 0, 1) := by decide +kernel
theorem dX7_ask_1 : decode cX7_ask 1 = .ok (.aload_n 0, 1) := by decide +kernel
theorem dX7_ask_2 : decode cX7_ask 2 = .ok (.iload_n 1, 1) := by decide +kernel
theorem dX7_ask_3 : decode cX7_ask 3 = .ok (.invokevirtual 36, 3) := by decide +kernel
theorem dX7_ask_6 : decode cX7_ask 6 = .ok (.ifCond .ne 7, 3) := by decide +kernel
theorem dX7_ask_9 : decode cX7_ask 9 = .ok (.iconst 1, 1) := by decide +kernel
theorem dX7_ask_10 : decode cX7_ask 10 = .ok (.goto 22, 3) := by decide +kernel
theorem dX7_ask_13 : decode cX7_ask 13 = .ok (.iload_n 2, 1) := by decide +kernel
theorem dX7_ask_14 : decode cX7_ask 14 = .ok (.invokestatic 150, 3) := by decide +kernel
theorem dX7_ask_17 : decode cX7_ask 17 = .ok (.ifCond .eq 14, 3) := by decide +kernel
theorem dX7_ask_20 : decode cX7_ask 20 = .ok (.iload_n 3, 1) := by decide +kernel
theorem dX7_ask_21 : decode cX7_ask 21 = .ok (.invokestatic 93, 3) := by decide +kernel
theorem dX7_ask_24 : decode cX7_ask 24 = .ok (.ifCond .eq 7, 3) := by decide +kernel
theorem dX7_ask_27 : decode cX7_ask 27 = .ok (.iconst 0, 1) := by decide +kernel
theorem dX7_ask_28 : decode cX7_ask 28 = .ok (.goto 4, 3) := by decide +kernel
theorem dX7_ask_31 : decode cX7_ask 31 = .ok (.iconst 2, 1) := by decide +kernel
theorem dX7_ask_32 : decode cX7_ask 32 = .ok (.putfield 25, 3) := by decide +kernel
theorem dX7_ask_35 : decode cX7_ask 35 = .ok (.aload_n 0, 1) := by decide +kernel
theorem dX7_ask_36 : decode cX7_ask 36 = .ok (.getfield 25, 3) := by decide +kernel
theorem dX7_ask_39 : decode cX7_ask 39 = .ok (.ifCond .le 5, 3) := by decide +kernel
theorem dX7_ask_42 : decode cX7_ask 42 = .ok (.iconst 0, 1) := by decide +kernel
theorem dX7_ask_43 : decode cX7_ask 43 = .ok (.ireturn, 1) := by decide +kernel
theorem dX7_ask_44 : decode cX7_ask 44 = .ok (.aload_n 0, 1) := by decide +kernel
theorem dX7_ask_45 : decode cX7_ask 45 = .ok (.invokevirtual 96, 3) := by decide +kernel
theorem dX7_ask_48 : decode cX7_ask 48 = .ok (.aload_n 0, 1) := by decide +kernel
theorem dX7_ask_49 : decode cX7_ask 49 = .ok (.iload_n 1, 1) := by decide +kernel
theorem dX7_ask_50 : decode cX7_ask 50 = .ok (.invokevirtual 47, 3) := by decide +kernel
theorem dX7_ask_53 : decode cX7_ask 53 = .ok (.aload_n 0, 1) := by decide +kernel
theorem dX7_ask_54 : decode cX7_ask 54 = .ok (.iload_n 1, 1) := by decide +kernel
theorem dX7_ask_55 : decode cX7_ask 55 = .ok (.iconst 4, 1) := by decide +kernel
theorem dX7_ask_56 : decode cX7_ask 56 = .ok (.aload_n 0, 1) := by decide +kernel
theorem dX7_ask_57 : decode cX7_ask 57 = .ok (.iload_n 1, 1) := by decide +kernel
theorem dX7_ask_58 : decode cX7_ask 58 = .ok (.iconst 4, 1) := by decide +kernel
theorem dX7_ask_59 : decode cX7_ask 59 = .ok (.invokevirtual 40, 3) := by decide +kernel
theorem dX7_ask_62 : decode cX7_ask 62 = .ok (.aload_n 0, 1) := by decide +kernel
theorem dX7_ask_63 : decode cX7_ask 63 = .ok (.aload_n 0, 1) := by decide +kernel
theorem dX7_ask_64 : decode cX7_ask 64 = .ok (.iload_n 1, 1) := by decide +kernel
theorem dX7_ask_65 : decode cX7_ask 65 = .ok (.iconst 1, 1) := by decide +kernel
theorem dX7_ask_66 : decode cX7_ask 66 = .ok (.invokevirtual 40, 3) := by decide +kernel
theorem dX7_ask_69 : decode cX7_ask 69 = .ok (.iload_n 2, 1) := by decide +kernel
theorem dX7_ask_70 : decode cX7_ask 70 = .ok (.iload_n 3, 1) := by decide +kernel
theorem dX7_ask_71 : decode cX7_ask 71 = .ok (.invokevirtual 153, 3) := by decide +kernel
theorem dX7_ask_74 : decode cX7_ask 74 = .ok (.iadd, 1) := by decide +kernel
theorem dX7_ask_75 : decode cX7_ask 75 = .ok (.invokevirtual 89, 3) := by decide +kernel
theorem dX7_ask_78 : decode cX7_ask 78 = .ok (.aload_n 0, 1) := by decide +kernel
theorem dX7_ask_79 : decode cX7_ask 79 = .ok (.iload_n 1, 1) := by decide +kernel
theorem dX7_ask_80 : decode cX7_ask 80 = .ok (.iconst 5, 1) := by decide +kernel
theorem dX7_ask_81 : decode cX7_ask 81 = .ok (.aload_n 0, 1) := by decide +kernel
theorem dX7_ask_82 : decode cX7_ask 82 = .ok (.iload_n 1, 1) := by decide +kernel
theorem dX7_ask_83 : decode cX7_ask 83 = .ok (.iconst 5, 1) := by decide +kernel
theorem dX7_ask_84 : decode cX7_ask 84 = .ok (.invokevirtual 40, 3) := by decide +kernel
theorem dX7_ask_87 : decode cX7_ask 87 = .ok (.iconst 1, 1) := by decide +kernel
theorem dX7_ask_88 : decode cX7_ask 88 = .ok (.iadd, 1) := by decide +kernel
theorem dX7_ask_89 : decode cX7_ask 89 = .ok (.invokevirtual 89, 3) := by decide +kernel
theorem dX7_ask_92 : decode cX7_ask 92 = .ok (.aload_n 0, 1) := by decide +kernel
theorem dX7_ask_93 : decode cX7_ask 93 = .ok (.iload_n 2, 1) := by decide +kernel
theorem dX7_ask_94 : decode cX7_ask 94 = .ok (.iload_n 3, 1) := by decide +kernel
theorem dX7_ask_95 : decode cX7_ask 95 = .ok (.invokevirtual 157, 3) := by decide +kernel
theorem dX7_ask_98 : decode cX7_ask 98 = .ok (.ireturn, 1) := by decide +kernel
theorem dX7_isSetting_0 : decode cX7_isSetting 0 = .ok (.iload_n 0, 1) := by decide +kernel
theorem dX7_isSetting_1 : decode cX7_isSetting 1 = .ok (.iconst 0, 1) := by decide +kernel
theorem dX7_isSetting_2 : decode cX7_isSetting 2 = .ok (.iconst 1, 1) := by decide +kernel
theorem dX7_isSetting_3 : decode cX7_isSetting 3 = .ok (.invokestatic 32, 3) := by decide +kernel
theorem dX7_isSetting_6 : decode cX7_isSetting 6 = .ok (.ireturn, 1) := by decide +kernel
theorem dX7_set_0 : decode cX7_set 0 = .ok (.aload_n 0, 1) := by decide +kernel
theorem dX7_set_1 : decode cX7_set 1 = .ok (.iload_n 1, 1) := by decide +kernel
theorem dX7_set_2 : decode cX7_set 2 = .ok (.invokestatic 160, 3) := by decide +kernel
theorem dX7_set_5 : decode cX7_set 5 = .ok (.ifCond .ne 7, 3) := by decide +kernel
theorem dX7_set_8 : decode cX7_set 8 = .ok (.iconst 1, 1) := by decide +kernel
theorem dX7_set_9 : decode cX7_set 9 = .ok (.goto 38, 3) := by decide +kernel
theorem dX7_set_12 : decode cX7_set 12 = .ok (.iload_n 1, 1) := by decide +kernel
theorem dX7_set_13 : decode cX7_set 13 = .ok (.ifCond .ne 14, 3) := by decide +kernel
theorem dX7_set_16 : decode cX7_set 16 = .ok (.iload_n 2, 1) := by decide +kernel
theorem dX7_set_17 : decode cX7_set 17 = .ok (.iconst 1, 1) := by decide +kernel
theorem dX7_set_18 : decode cX7_set 18 = .ok (.sipush 400, 3) := by decide +kernel
theorem dX7_set_21 : decode cX7_set 21 = .ok (.invokestatic 32, 3) := by decide +kernel
theorem dX7_set_24 : decode cX7_set 24 = .ok (.ifCond .ne 18, 3) := by decide +kernel
theorem dX7_set_27 : decode cX7_set 27 = .ok (.iload_n 1, 1) := by decide +kernel
theorem dX7_set_28 : decode cX7_set 28 = .ok (.iconst 1, 1) := by decide +kernel
theorem dX7_set_29 : decode cX7_set 29 = .ok (.if_icmp .ne 17, 3) := by decide +kernel
theorem dX7_set_32 : decode cX7_set 32 = .ok (.iload_n 2, 1) := by decide +kernel
theorem dX7_set_33 : decode cX7_set 33 = .ok (.iconst 0, 1) := by decide +kernel
theorem dX7_set_34 : decode cX7_set 34 = .ok (.bipush 100, 2) := by decide +kernel
theorem dX7_set_36 : decode cX7_set 36 = .ok (.invokestatic 32, 3) := by decide +kernel
theorem dX7_set_39 : decode cX7_set 39 = .ok (.ifCond .eq 7, 3) := by decide +kernel
theorem dX7_set_42 : decode cX7_set 42 = .ok (.iconst 0, 1) := by decide +kernel
theorem dX7_set_43 : decode cX7_set 43 = .ok (.goto 4, 3) := by decide +kernel
theorem dX7_set_46 : decode cX7_set 46 = .ok (.iconst 2, 1) := by decide +kernel
theorem dX7_set_47 : decode cX7_set 47 = .ok (.putfield 25, 3) := by decide +kernel
theorem dX7_set_50 : decode cX7_set 50 = .ok (.aload_n 0, 1) := by decide +kernel
theorem dX7_set_51 : decode cX7_set 51 = .ok (.getfield 25, 3) := by decide +kernel
theorem dX7_set_54 : decode cX7_set 54 = .ok (.ifCond .le 5, 3) := by decide +kernel
theorem dX7_set_57 : decode cX7_set 57 = .ok (.iconst 0, 1) := by decide +kernel
theorem dX7_set_58 : decode cX7_set 58 = .ok (.ireturn, 1) := by decide +kernel
theorem dX7_set_59 : decode cX7_set 59 = .ok (.aload_n 0, 1) := by decide +kernel
theorem dX7_set_60 : decode cX7_set 60 = .ok (.invokevirtual 96, 3) := by decide +kernel
theorem dX7_set_63 : decode cX7_set 63 = .ok (.aload_n 0, 1) := by decide +kernel
theorem dX7_set_64 : decode cX7_set 64 = .ok (.getfield 7, 3) := by decide +kernel
theorem dX7_set_67 : decode cX7_set 67 = .ok (.iload_n 1, 1) := by decide +kernel
theorem dX7_set_68 : decode cX7_set 68 = .ok (.iaload, 1) := by decide +kernel
theorem dX7_set_69 : decode cX7_set 69 = .ok (.istore_n 3, 1) := by decide +kernel
theorem dX7_set_70 : decode cX7_set 70 = .ok (.aload_n 0, 1) := by decide +kernel
theorem dX7_set_71 : decode cX7_set 71 = .ok (.getfield 7, 3) := by decide +kernel
theorem dX7_set_74 : decode cX7_set 74 = .ok (.iload_n 1, 1) := by decide +kernel
theorem dX7_set_75 : decode cX7_set 75 = .ok (.iload_n 2, 1) := by decide +kernel
theorem dX7_set_76 : decode cX7_set 76 = .ok (.iastore, 1) := by decide +kernel
theorem dX7_set_77 : decode cX7_set 77 = .ok (.iload_n 3, 1) := by decide +kernel
theorem dX7_set_78 : decode cX7_set 78 = .ok (.ireturn, 1) := by decide +kernel
theorem dX7_append_0 : decode cX7_append 0 = .ok (.aload_n 0, 1) := by decide +kernel
theorem dX7_append_1 : decode cX7_append 1 = .ok (.iload_n 1, 1) := by decide +kernel
theorem dX7_append_2 : decode cX7_append 2 = .ok (.bipush 33, 2) := by decide +kernel
theorem dX7_append_4 : decode cX7_append 4 = .ok (.bipush 126, 2) := by decide +kernel
theorem dX7_append_6 : decode cX7_append 6 = .ok (.invokestatic 32, 3) := by decide +kernel
theorem dX7_append_9 : decode cX7_append 9 = .ok (.ifCond .ne 7, 3) := by decide +kernel
theorem dX7_append_12 : decode cX7_append 12 = .ok (.iconst 1, 1) := by decide +kernel
theorem dX7_append_13 : decode cX7_append 13 = .ok (.goto 17, 3) := by decide +kernel
theorem dX7_append_16 : decode cX7_append 16 = .ok (.aload_n 0, 1) := by decide +kernel
theorem dX7_append_17 : decode cX7_append 17 = .ok (.getfield 108, 3) := by decide +kernel
theorem dX7_append_20 : decode cX7_append 20 = .ok (.bipush 60, 2) := by decide +kernel
theorem dX7_append_22 : decode cX7_append 22 = .ok (.if_icmp .ne 7, 3) := by decide +kernel
theorem dX7_append_25 : decode cX7_append 25 = .ok (.iconst 2, 1) := by decide +kernel
theorem dX7_append_26 : decode cX7_append 26 = .ok (.goto 4, 3) := by decide +kernel
theorem dX7_append_29 : decode cX7_append 29 = .ok (.iconst 0, 1) := by decide +kernel
theorem dX7_append_30 : decode cX7_append 30 = .ok (.putfield 25, 3) := by decide +kernel
theorem dX7_append_33 : decode cX7_append 33 = .ok (.aload_n 0, 1) := by decide +kernel
theorem dX7_append_34 : decode cX7_append 34 = .ok (.getfield 25, 3) := by decide +kernel
theorem dX7_append_37 : decode cX7_append 37 = .ok (.ifCond .le 5, 3) := by decide +kernel
theorem dX7_append_40 : decode cX7_append 40 = .ok (.iconst 0, 1) := by decide +kernel
theorem dX7_append_41 : decode cX7_append 41 = .ok (.ireturn, 1) := by decide +kernel
theorem dX7_append_42 : decode cX7_append 42 = .ok (.aload_n 0, 1) := by decide +kernel
theorem dX7_append_43 : decode cX7_append 43 = .ok (.getfield 16, 3) := by decide +kernel
theorem dX7_append_46 : decode cX7_append 46 = .ok (.aload_n 0, 1) := by decide +kernel
theorem dX7_append_47 : decode cX7_append 47 = .ok (.getfield 108, 3) := by decide +kernel
theorem dX7_append_50 : decode cX7_append 50 = .ok (.iload_n 1, 1) := by decide +kernel
theorem dX7_append_51 : decode cX7_append 51 = .ok (.iastore, 1) := by decide +kernel
theorem dX7_append_52 : decode cX7_append 52 = .ok (.aload_n 0, 1) := by decide +kernel
theorem dX7_append_53 : decode cX7_append 53 = .ok (.dup, 1) := by decide +kernel
theorem dX7_append_54 : decode cX7_append 54 = .ok (.getfield 108, 3) := by decide +kernel
theorem dX7_append_57 : decode cX7_append 57 = .ok (.iconst 1, 1) := by decide +kernel
theorem dX7_append_58 : decode cX7_append 58 = .ok (.iadd, 1) := by decide +kernel
theorem dX7_append_59 : decode cX7_append 59 = .ok (.putfield 108, 3) := by decide +kernel
theorem dX7_append_62 : decode cX7_append 62 = .ok (.aload_n 0, 1) := by decide +kernel
theorem dX7_append_63 : decode cX7_append 63 = .ok (.getfield 108, 3) := by decide +kernel
theorem dX7_append_66 : decode cX7_append 66 = .ok (.ireturn, 1) := by decide +kernel
theorem dX7_clearBuffer_0 : decode cX7_clearBuffer 0 = .ok (.aload_n 0, 1) := by decide +kernel
theorem dX7_clearBuffer_1 : decode cX7_clearBuffer 1 = .ok (.iconst 0, 1) := by decide +kernel
theorem dX7_clearBuffer_2 : decode cX7_clearBuffer 2 = .ok (.putfield 25, 3) := by decide +kernel
theorem dX7_clearBuffer_5 : decode cX7_clearBuffer 5 = .ok (.aload_n 0, 1) := by decide +kernel
theorem dX7_clearBuffer_6 : decode cX7_clearBuffer 6 = .ok (.getfield 108, 3) := by decide +kernel
theorem dX7_clearBuffer_9 : decode cX7_clearBuffer 9 = .ok (.istore_n 1, 1) := by decide +kernel
theorem dX7_clearBuffer_10 : decode cX7_clearBuffer 10 = .ok (.aload_n 0, 1) := by decide +kernel
theorem dX7_clearBuffer_11 : decode cX7_clearBuffer 11 = .ok (.iconst 0, 1) := by decide +kernel
theorem dX7_clearBuffer_12 : decode cX7_clearBuffer 12 = .ok (.putfield 108, 3) := by decide +kernel
theorem dX7_clearBuffer_15 : decode cX7_clearBuffer 15 = .ok (.iload_n 1, 1) := by decide +kernel
theorem dX7_clearBuffer_16 : decode cX7_clearBuffer 16 = .ok (.ireturn, 1) := by decide +kernel
theorem dX7_takesDigit_0 : decode cX7_takesDigit 0 = .ok (.aload_n 0, 1) := by decide +kernel
theorem dX7_takesDigit_1 : decode cX7_takesDigit 1 = .ok (.getfield 163, 3) := by decide +kernel
theorem dX7_takesDigit_4 : decode cX7_takesDigit 4 = .ok (.iconst (-1), 1) := by decide +kernel
theorem dX7_takesDigit_5 : decode cX7_takesDigit 5 = .ok (.if_icmp .ne 7, 3) := by decide +kernel
theorem dX7_takesDigit_8 : decode cX7_takesDigit 8 = .ok (.iload_n 1, 1) := by decide +kernel
theorem dX7_takesDigit_9 : decode cX7_takesDigit 9 = .ok (.goto 12, 3) := by decide +kernel
theorem dX7_takesDigit_12 : decode cX7_takesDigit 12 = .ok (.bipush 10, 2) := by decide +kernel
theorem dX7_takesDigit_14 : decode cX7_takesDigit 14 = .ok (.aload_n 0, 1) := by decide +kernel
theorem dX7_takesDigit_15 : decode cX7_takesDigit 15 = .ok (.getfield 163, 3) := by decide +kernel
theorem dX7_takesDigit_18 : decode cX7_takesDigit 18 = .ok (.imul, 1) := by decide +kernel
theorem dX7_takesDigit_19 : decode cX7_takesDigit 19 = .ok (.iload_n 1, 1) := by decide +kernel
theorem dX7_takesDigit_20 : decode cX7_takesDigit 20 = .ok (.iadd, 1) := by decide +kernel
theorem dX7_takesDigit_21 : decode cX7_takesDigit 21 = .ok (.istore_n 2, 1) := by decide +kernel
theorem dX7_takesDigit_22 : decode cX7_takesDigit 22 = .ok (.iload_n 1, 1) := by decide +kernel
theorem dX7_takesDigit_23 : decode cX7_takesDigit 23 = .ok (.iconst 0, 1) := by decide +kernel
theorem dX7_takesDigit_24 : decode cX7_takesDigit 24 = .ok (.bipush 9, 2) := by decide +kernel
theorem dX7_takesDigit_26 : decode cX7_takesDigit 26 = .ok (.invokestatic 32, 3) := by decide +kernel
theorem dX7_takesDigit_29 : decode cX7_takesDigit 29 = .ok (.ifCond .eq 48, 3) := by decide +kernel
theorem dX7_takesDigit_32 : decode cX7_takesDigit 32 = .ok (.aload_n 0, 1) := by decide +kernel
theorem dX7_takesDigit_33 : decode cX7_takesDigit 33 = .ok (.getfield 163, 3) := by decide +kernel
theorem dX7_takesDigit_36 : decode cX7_takesDigit 36 = .ok (.ifCond .eq 41, 3) := by decide +kernel
theorem dX7_takesDigit_39 : decode cX7_takesDigit 39 = .ok (.iload_n 2, 1) := by decide +kernel
theorem dX7_takesDigit_40 : decode cX7_takesDigit 40 = .ok (.aload_n 0, 1) := by decide +kernel
theorem dX7_takesDigit_41 : decode cX7_takesDigit 41 = .ok (.getfield 166, 3) := by decide +kernel
theorem dX7_takesDigit_44 : decode cX7_takesDigit 44 = .ok (.ifCond .eq 7, 3) := by decide +kernel
theorem dX7_takesDigit_47 : decode cX7_takesDigit 47 = .ok (.iconst 1, 1) := by decide +kernel
theorem dX7_takesDigit_48 : decode cX7_takesDigit 48 = .ok (.goto 4, 3) := by decide +kernel
theorem dX7_takesDigit_51 : decode cX7_takesDigit 51 = .ok (.iconst 0, 1) := by decide +kernel
theorem dX7_takesDigit_52 : decode cX7_takesDigit 52 = .ok (.aload_n 0, 1) := by decide +kernel
theorem dX7_takesDigit_53 : decode cX7_takesDigit 53 = .ok (.getfield 166, 3) := by decide +kernel
theorem dX7_takesDigit_56 : decode cX7_takesDigit 56 = .ok (.ifCond .eq 8, 3) := by decide +kernel
theorem dX7_takesDigit_59 : decode cX7_takesDigit 59 = .ok (.bipush 24, 2) := by decide +kernel
theorem dX7_takesDigit_61 : decode cX7_takesDigit 61 = .ok (.goto 6, 3) := by decide +kernel
theorem dX7_takesDigit_64 : decode cX7_takesDigit 64 = .ok (.sipush 255, 3) := by decide +kernel
theorem dX7_takesDigit_67 : decode cX7_takesDigit 67 = .ok (.invokestatic 32, 3) := by decide +kernel
theorem dX7_takesDigit_70 : decode cX7_takesDigit 70 = .ok (.ifCond .eq 7, 3) := by decide +kernel
theorem dX7_takesDigit_73 : decode cX7_takesDigit 73 = .ok (.iconst 1, 1) := by decide +kernel
theorem dX7_takesDigit_74 : decode cX7_takesDigit 74 = .ok (.goto 4, 3) := by decide +kernel
theorem dX7_takesDigit_77 : decode cX7_takesDigit 77 = .ok (.iconst 0, 1) := by decide +kernel
theorem dX7_takesDigit_78 : decode cX7_takesDigit 78 = .ok (.istore_n 3, 1) := by decide +kernel
theorem dX7_takesDigit_79 : decode cX7_takesDigit 79 = .ok (.aload_n 0, 1) := by decide +kernel
theorem dX7_takesDigit_80 : decode cX7_takesDigit 80 = .ok (.iload_n 3, 1) := by decide +kernel
theorem dX7_takesDigit_81 : decode cX7_takesDigit 81 = .ok (.ifCond .eq 7, 3) := by decide +kernel
theorem dX7_takesDigit_84 : decode cX7_takesDigit 84 = .ok (.iload_n 2, 1) := by decide +kernel
theorem dX7_takesDigit_85 : decode cX7_takesDigit 85 = .ok (.goto 7, 3) := by decide +kernel
theorem dX7_takesDigit_88 : decode cX7_takesDigit 88 = .ok (.aload_n 0, 1) := by decide +kernel
theorem dX7_takesDigit_89 : decode cX7_takesDigit 89 = .ok (.getfield 163, 3) := by decide +kernel
theorem dX7_takesDigit_92 : decode cX7_takesDigit 92 = .ok (.putfield 163, 3) := by decide +kernel
theorem dX7_takesDigit_95 : decode cX7_takesDigit 95 = .ok (.aload_n 0, 1) := by decide +kernel
theorem dX7_takesDigit_96 : decode cX7_takesDigit 96 = .ok (.getfield 22, 3) := by decide +kernel
theorem dX7_takesDigit_99 : decode cX7_takesDigit 99 = .ok (.iconst 2, 1) := by decide +kernel
theorem dX7_takesDigit_100 : decode cX7_takesDigit 100 = .ok (.aload_n 0, 1) := by decide +kernel
theorem dX7_takesDigit_101 : decode cX7_takesDigit 101 = .ok (.getfield 118, 3) := by decide +kernel
theorem dX7_takesDigit_104 : decode cX7_takesDigit 104 = .ok (.imul, 1) := by decide +kernel
theorem dX7_takesDigit_105 : decode cX7_takesDigit 105 = .ok (.aload_n 0, 1) := by decide +kernel
theorem dX7_takesDigit_106 : decode cX7_takesDigit 106 = .ok (.getfield 166, 3) := by decide +kernel
theorem dX7_takesDigit_109 : decode cX7_takesDigit 109 = .ok (.ifCond .eq 7, 3) := by decide +kernel
theorem dX7_takesDigit_112 : decode cX7_takesDigit 112 = .ok (.iconst 1, 1) := by decide +kernel
theorem dX7_takesDigit_113 : decode cX7_takesDigit 113 = .ok (.goto 4, 3) := by decide +kernel
theorem dX7_takesDigit_116 : decode cX7_takesDigit 116 = .ok (.iconst 0, 1) := by decide +kernel
theorem dX7_takesDigit_117 : decode cX7_takesDigit 117 = .ok (.iadd, 1) := by decide +kernel
theorem dX7_takesDigit_118 : decode cX7_takesDigit 118 = .ok (.aload_n 0, 1) := by decide +kernel
theorem dX7_takesDigit_119 : decode cX7_takesDigit 119 = .ok (.getfield 163, 3) := by decide +kernel
theorem dX7_takesDigit_122 : decode cX7_takesDigit 122 = .ok (.iastore, 1) := by decide +kernel
theorem dX7_takesDigit_123 : decode cX7_takesDigit 123 = .ok (.iload_n 3, 1) := by decide +kernel
theorem dX7_takesDigit_124 : decode cX7_takesDigit 124 = .ok (.ireturn, 1) := by decide +kernel
theorem dX7_isEnded_0 : decode cX7_isEnded 0 = .ok (.aload_n 0, 1) := by decide +kernel
theorem dX7_isEnded_1 : decode cX7_isEnded 1 = .ok (.getfield 163, 3) := by decide +kernel
theorem dX7_isEnded_4 : decode cX7_isEnded 4 = .ok (.iconst (-1), 1) := by decide +kernel
theorem dX7_isEnded_5 : decode cX7_isEnded 5 = .ok (.if_icmp .eq 7, 3) := by decide +kernel
theorem dX7_isEnded_8 : decode cX7_isEnded 8 = .ok (.iconst 1, 1) := by decide +kernel
theorem dX7_isEnded_9 : decode cX7_isEnded 9 = .ok (.goto 4, 3) := by decide +kernel
theorem dX7_isEnded_12 : decode cX7_isEnded 12 = .ok (.iconst 0, 1) := by decide +kernel
theorem dX7_isEnded_13 : decode cX7_isEnded 13 = .ok (.ireturn, 1) := by decide +kernel
theorem dX7_times_0 : decode cX7_times 0 = .ok (.aload_n 0, 1) := by decide +kernel
theorem dX7_times_1 : decode cX7_times 1 = .ok (.getfield 22, 3) := by decide +kernel
theorem dX7_times_4 : decode cX7_times 4 = .ok (.iconst 2, 1) := by decide +kernel
theorem dX7_times_5 : decode cX7_times 5 = .ok (.iload_n 1, 1) := by decide +kernel
theorem dX7_times_6 : decode cX7_times 6 = .ok (.imul, 1) := by decide +kernel
theorem dX7_times_7 : decode cX7_times 7 = .ok (.iconst 1, 1) := by decide +kernel
theorem dX7_times_8 : decode cX7_times 8 = .ok (.iadd, 1) := by decide +kernel
theorem dX7_times_9 : decode cX7_times 9 = .ok (.iaload, 1) := by decide +kernel
theorem dX7_times_10 : decode cX7_times 10 = .ok (.ireturn, 1) := by decide +kernel
theorem dX7_takes_0 : decode cX7_takes 0 = .ok (.iload_n 1, 1) := by decide +kernel
theorem dX7_takes_1 : decode cX7_takes 1 = .ok (.bipush 44, 2) := by decide +kernel
theorem dX7_takes_3 : decode cX7_takes 3 = .ok (.if_icmp .ne 46, 3) := by decide +kernel
theorem dX7_takes_6 : decode cX7_takes 6 = .ok (.aload_n 0, 1) := by decide +kernel
theorem dX7_takes_7 : decode cX7_takes 7 = .ok (.invokevirtual 111, 3) := by decide +kernel
theorem dX7_takes_10 : decode cX7_takes 10 = .ok (.ifCond .eq 39, 3) := by decide +kernel
theorem dX7_takes_13 : decode cX7_takes 13 = .ok (.aload_n 0, 1) := by decide +kernel
theorem dX7_takes_14 : decode cX7_takes 14 = .ok (.dup, 1) := by decide +kernel
theorem dX7_takes_15 : decode cX7_takes 15 = .ok (.getfield 118, 3) := by decide +kernel
theorem dX7_takes_18 : decode cX7_takes 18 = .ok (.iconst 1, 1) := by decide +kernel
theorem dX7_takes_19 : decode cX7_takes 19 = .ok (.iadd, 1) := by decide +kernel
theorem dX7_takes_20 : decode cX7_takes 20 = .ok (.putfield 118, 3) := by decide +kernel
theorem dX7_takes_23 : decode cX7_takes 23 = .ok (.aload_n 0, 1) := by decide +kernel
theorem dX7_takes_24 : decode cX7_takes 24 = .ok (.getfield 22, 3) := by decide +kernel
theorem dX7_takes_27 : decode cX7_takes 27 = .ok (.iconst 2, 1) := by decide +kernel
theorem dX7_takes_28 : decode cX7_takes 28 = .ok (.aload_n 0, 1) := by decide +kernel
theorem dX7_takes_29 : decode cX7_takes 29 = .ok (.getfield 118, 3) := by decide +kernel
theorem dX7_takes_32 : decode cX7_takes 32 = .ok (.imul, 1) := by decide +kernel
theorem dX7_takes_33 : decode cX7_takes 33 = .ok (.iconst 1, 1) := by decide +kernel
theorem dX7_takes_34 : decode cX7_takes 34 = .ok (.iadd, 1) := by decide +kernel
theorem dX7_takes_35 : decode cX7_takes 35 = .ok (.iconst 1, 1) := by decide +kernel
theorem dX7_takes_36 : decode cX7_takes 36 = .ok (.iastore, 1) := by decide +kernel
theorem dX7_takes_37 : decode cX7_takes 37 = .ok (.aload_n 0, 1) := by decide +kernel
theorem dX7_takes_38 : decode cX7_takes 38 = .ok (.iconst 0, 1) := by decide +kernel
theorem dX7_takes_39 : decode cX7_takes 39 = .ok (.putfield 166, 3) := by decide +kernel
theorem dX7_takes_42 : decode cX7_takes 42 = .ok (.aload_n 0, 1) := by decide +kernel
theorem dX7_takes_43 : decode cX7_takes 43 = .ok (.iconst (-1), 1) := by decide +kernel
theorem dX7_takes_44 : decode cX7_takes 44 = .ok (.putfield 163, 3) := by decide +kernel
theorem dX7_takes_47 : decode cX7_takes 47 = .ok (.iconst 1, 1) := by decide +kernel
theorem dX7_takes_48 : decode cX7_takes 48 = .ok (.ireturn, 1) := by decide +kernel
theorem dX7_takes_49 : decode cX7_takes 49 = .ok (.iload_n 1, 1) := by decide +kernel
theorem dX7_takes_50 : decode cX7_takes 50 = .ok (.bipush 42, 2) := by decide +kernel
theorem dX7_takes_52 : decode cX7_takes 52 = .ok (.if_icmp .ne 29, 3) := by decide +kernel
theorem dX7_takes_55 : decode cX7_takes 55 = .ok (.aload_n 0, 1) := by decide +kernel
theorem dX7_takes_56 : decode cX7_takes 56 = .ok (.invokevirtual 111, 3) := by decide +kernel
theorem dX7_takes_59 : decode cX7_takes 59 = .ok (.ifCond .eq 22, 3) := by decide +kernel
theorem dX7_takes_62 : decode cX7_takes 62 = .ok (.aload_n 0, 1) := by decide +kernel
theorem dX7_takes_63 : decode cX7_takes 63 = .ok (.getfield 166, 3) := by decide +kernel
theorem dX7_takes_66 : decode cX7_takes 66 = .ok (.ifCond .ne 15, 3) := by decide +kernel
theorem dX7_takes_69 : decode cX7_takes 69 = .ok (.aload_n 0, 1) := by decide +kernel
theorem dX7_takes_70 : decode cX7_takes 70 = .ok (.iconst 1, 1) := by decide +kernel
theorem dX7_takes_71 : decode cX7_takes 71 = .ok (.putfield 166, 3) := by decide +kernel
theorem dX7_takes_74 : decode cX7_takes 74 = .ok (.aload_n 0, 1) := by decide +kernel
theorem dX7_takes_75 : decode cX7_takes 75 = .ok (.iconst (-1), 1) := by decide +kernel
theorem dX7_takes_76 : decode cX7_takes 76 = .ok (.putfield 163, 3) := by decide +kernel
theorem dX7_takes_79 : decode cX7_takes 79 = .ok (.iconst 1, 1) := by decide +kernel
theorem dX7_takes_80 : decode cX7_takes 80 = .ok (.ireturn, 1) := by decide +kernel
theorem dX7_takes_81 : decode cX7_takes 81 = .ok (.aload_n 0, 1) := by decide +kernel
theorem dX7_takes_82 : decode cX7_takes 82 = .ok (.iload_n 1, 1) := by decide +kernel
theorem dX7_takes_83 : decode cX7_takes 83 = .ok (.bipush 48, 2) := by decide +kernel
theorem dX7_takes_85 : decode cX7_takes 85 = .ok (.isub, 1) := by decide +kernel
theorem dX7_takes_86 : decode cX7_takes 86 = .ok (.invokevirtual 170, 3) := by decide +kernel
theorem dX7_takes_89 : decode cX7_takes 89 = .ok (.ireturn, 1) := by decide +kernel
theorem dX7_rightUpTo_0 : decode cX7_rightUpTo 0 = .ok (.aload_n 0, 1) := by decide +kernel
theorem dX7_rightUpTo_1 : decode cX7_rightUpTo 1 = .ok (.iconst 0, 1) := by decide +kernel
theorem dX7_rightUpTo_2 : decode cX7_rightUpTo 2 = .ok (.putfield 118, 3) := by decide +kernel
theorem dX7_rightUpTo_5 : decode cX7_rightUpTo 5 = .ok (.aload_n 0, 1) := by decide +kernel
theorem dX7_rightUpTo_6 : decode cX7_rightUpTo 6 = .ok (.iconst 0, 1) := by decide +kernel
theorem dX7_rightUpTo_7 : decode cX7_rightUpTo 7 = .ok (.putfield 166, 3) := by decide +kernel
theorem dX7_rightUpTo_10 : decode cX7_rightUpTo 10 = .ok (.aload_n 0, 1) := by decide +kernel
theorem dX7_rightUpTo_11 : decode cX7_rightUpTo 11 = .ok (.iconst (-1), 1) := by decide +kernel
theorem dX7_rightUpTo_12 : decode cX7_rightUpTo 12 = .ok (.putfield 163, 3) := by decide +kernel
theorem dX7_rightUpTo_15 : decode cX7_rightUpTo 15 = .ok (.aload_n 0, 1) := by decide +kernel
theorem dX7_rightUpTo_16 : decode cX7_rightUpTo 16 = .ok (.getfield 22, 3) := by decide +kernel
theorem dX7_rightUpTo_19 : decode cX7_rightUpTo 19 = .ok (.iconst 1, 1) := by decide +kernel
theorem dX7_rightUpTo_20 : decode cX7_rightUpTo 20 = .ok (.iconst 1, 1) := by decide +kernel
theorem dX7_rightUpTo_21 : decode cX7_rightUpTo 21 = .ok (.iastore, 1) := by decide +kernel
theorem dX7_rightUpTo_22 : decode cX7_rightUpTo 22 = .ok (.iconst 0, 1) := by decide +kernel
theorem dX7_rightUpTo_23 : decode cX7_rightUpTo 23 = .ok (.istore_n 1, 1) := by decide +kernel
theorem dX7_rightUpTo_24 : decode cX7_rightUpTo 24 = .ok (.iload_n 1, 1) := by decide +kernel
theorem dX7_rightUpTo_25 : decode cX7_rightUpTo 25 = .ok (.aload_n 0, 1) := by decide +kernel
theorem dX7_rightUpTo_26 : decode cX7_rightUpTo 26 = .ok (.getfield 108, 3) := by decide +kernel
theorem dX7_rightUpTo_29 : decode cX7_rightUpTo 29 = .ok (.if_icmp .ge 22, 3) := by decide +kernel
theorem dX7_rightUpTo_32 : decode cX7_rightUpTo 32 = .ok (.aload_n 0, 1) := by decide +kernel
theorem dX7_rightUpTo_33 : decode cX7_rightUpTo 33 = .ok (.aload_n 0, 1) := by decide +kernel
theorem dX7_rightUpTo_34 : decode cX7_rightUpTo 34 = .ok (.getfield 16, 3) := by decide +kernel
theorem dX7_rightUpTo_37 : decode cX7_rightUpTo 37 = .ok (.iload_n 1, 1) := by decide +kernel
theorem dX7_rightUpTo_38 : decode cX7_rightUpTo 38 = .ok (.iaload, 1) := by decide +kernel
theorem dX7_rightUpTo_39 : decode cX7_rightUpTo 39 = .ok (.invokevirtual 173, 3) := by decide +kernel
theorem dX7_rightUpTo_42 : decode cX7_rightUpTo 42 = .ok (.ifCond .eq 9, 3) := by decide +kernel
theorem dX7_rightUpTo_45 : decode cX7_rightUpTo 45 = .ok (.iinc 1 1, 3) := by decide +kernel
theorem dX7_rightUpTo_48 : decode cX7_rightUpTo 48 = .ok (.goto (-24), 3) := by decide +kernel
theorem dX7_rightUpTo_51 : decode cX7_rightUpTo 51 = .ok (.iload_n 1, 1) := by decide +kernel
theorem dX7_rightUpTo_52 : decode cX7_rightUpTo 52 = .ok (.ireturn, 1) := by decide +kernel
theorem dX7_valuesRead_0 : decode cX7_valuesRead 0 = .ok (.iconst 0, 1) := by decide +kernel
theorem dX7_valuesRead_1 : decode cX7_valuesRead 1 = .ok (.istore_n 1, 1) := by decide +kernel
theorem dX7_valuesRead_2 : decode cX7_valuesRead 2 = .ok (.iconst 0, 1) := by decide +kernel
theorem dX7_valuesRead_3 : decode cX7_valuesRead 3 = .ok (.istore_n 2, 1) := by decide +kernel
theorem dX7_valuesRead_4 : decode cX7_valuesRead 4 = .ok (.iload_n 2, 1) := by decide +kernel
theorem dX7_valuesRead_5 : decode cX7_valuesRead 5 = .ok (.aload_n 0, 1) := by decide +kernel
theorem dX7_valuesRead_6 : decode cX7_valuesRead 6 = .ok (.getfield 118, 3) := by decide +kernel
theorem dX7_valuesRead_9 : decode cX7_valuesRead 9 = .ok (.if_icmp .gt 17, 3) := by decide +kernel
theorem dX7_valuesRead_12 : decode cX7_valuesRead 12 = .ok (.iload_n 1, 1) := by decide +kernel
theorem dX7_valuesRead_13 : decode cX7_valuesRead 13 = .ok (.aload_n 0, 1) := by decide +kernel
theorem dX7_valuesRead_14 : decode cX7_valuesRead 14 = .ok (.iload_n 2, 1) := by decide +kernel
theorem dX7_valuesRead_15 : decode cX7_valuesRead 15 = .ok (.invokevirtual 121, 3) := by decide +kernel
theorem dX7_valuesRead_18 : decode cX7_valuesRead 18 = .ok (.iadd, 1) := by decide +kernel
theorem dX7_valuesRead_19 : decode cX7_valuesRead 19 = .ok (.istore_n 1, 1) := by decide +kernel
theorem dX7_valuesRead_20 : decode cX7_valuesRead 20 = .ok (.iinc 2 1, 3) := by decide +kernel
theorem dX7_valuesRead_23 : decode cX7_valuesRead 23 = .ok (.goto (-19), 3) := by decide +kernel
theorem dX7_valuesRead_26 : decode cX7_valuesRead 26 = .ok (.iload_n 1, 1) := by decide +kernel
theorem dX7_valuesRead_27 : decode cX7_valuesRead 27 = .ok (.ireturn, 1) := by decide +kernel
theorem dX7_firstError_0 : decode cX7_firstError 0 = .ok (.aload_n 0, 1) := by decide +kernel
theorem dX7_firstError_1 : decode cX7_firstError 1 = .ok (.iconst 0, 1) := by decide +kernel
theorem dX7_firstError_2 : decode cX7_firstError 2 = .ok (.putfield 25, 3) := by decide +kernel
theorem dX7_firstError_5 : decode cX7_firstError 5 = .ok (.aload_n 0, 1) := by decide +kernel
theorem dX7_firstError_6 : decode cX7_firstError 6 = .ok (.invokevirtual 105, 3) := by decide +kernel
theorem dX7_firstError_9 : decode cX7_firstError 9 = .ok (.ireturn, 1) := by decide +kernel
theorem dX7_undo_0 : decode cX7_undo 0 = .ok (.aload_n 0, 1) := by decide +kernel
theorem dX7_undo_1 : decode cX7_undo 1 = .ok (.aload_n 0, 1) := by decide +kernel
theorem dX7_undo_2 : decode cX7_undo 2 = .ok (.getfield 29, 3) := by decide +kernel
theorem dX7_undo_5 : decode cX7_undo 5 = .ok (.ifCond .le 7, 3) := by decide +kernel
theorem dX7_undo_8 : decode cX7_undo 8 = .ok (.iconst 0, 1) := by decide +kernel
theorem dX7_undo_9 : decode cX7_undo 9 = .ok (.goto 4, 3) := by decide +kernel
theorem dX7_undo_12 : decode cX7_undo 12 = .ok (.iconst 1, 1) := by decide +kernel
theorem dX7_undo_13 : decode cX7_undo 13 = .ok (.putfield 25, 3) := by decide +kernel
theorem dX7_undo_16 : decode cX7_undo 16 = .ok (.aload_n 0, 1) := by decide +kernel
theorem dX7_undo_17 : decode cX7_undo 17 = .ok (.getfield 25, 3) := by decide +kernel
theorem dX7_undo_20 : decode cX7_undo 20 = .ok (.ifCond .le 5, 3) := by decide +kernel
theorem dX7_undo_23 : decode cX7_undo 23 = .ok (.iconst 0, 1) := by decide +kernel
theorem dX7_undo_24 : decode cX7_undo 24 = .ok (.ireturn, 1) := by decide +kernel
theorem dX7_undo_25 : decode cX7_undo 25 = .ok (.aload_n 0, 1) := by decide +kernel
theorem dX7_undo_26 : decode cX7_undo 26 = .ok (.dup, 1) := by decide +kernel
theorem dX7_undo_27 : decode cX7_undo 27 = .ok (.getfield 29, 3) := by decide +kernel
theorem dX7_undo_30 : decode cX7_undo 30 = .ok (.iconst 1, 1) := by decide +kernel
theorem dX7_undo_31 : decode cX7_undo 31 = .ok (.isub, 1) := by decide +kernel
theorem dX7_undo_32 : decode cX7_undo 32 = .ok (.putfield 29, 3) := by decide +kernel
theorem dX7_undo_35 : decode cX7_undo 35 = .ok (.iconst 0, 1) := by decide +kernel
theorem dX7_undo_36 : decode cX7_undo 36 = .ok (.istore_n 1, 1) := by decide +kernel
theorem dX7_undo_37 : decode cX7_undo 37 = .ok (.iload_n 1, 1) := by decide +kernel
theorem dX7_undo_38 : decode cX7_undo 38 = .ok (.sipush 260, 3) := by decide +kernel
theorem dX7_undo_41 : decode cX7_undo 41 = .ok (.if_icmp .ge 30, 3) := by decide +kernel
theorem dX7_undo_44 : decode cX7_undo 44 = .ok (.aload_n 0, 1) := by decide +kernel
theorem dX7_undo_45 : decode cX7_undo 45 = .ok (.getfield 7, 3) := by decide +kernel
theorem dX7_undo_48 : decode cX7_undo 48 = .ok (.iload_n 1, 1) := by decide +kernel
theorem dX7_undo_49 : decode cX7_undo 49 = .ok (.aload_n 0, 1) := by decide +kernel
theorem dX7_undo_50 : decode cX7_undo 50 = .ok (.getfield 13, 3) := by decide +kernel
theorem dX7_undo_53 : decode cX7_undo 53 = .ok (.sipush 260, 3) := by decide +kernel
theorem dX7_undo_56 : decode cX7_undo 56 = .ok (.aload_n 0, 1) := by decide +kernel
theorem dX7_undo_57 : decode cX7_undo 57 = .ok (.getfield 29, 3) := by decide +kernel
theorem dX7_undo_60 : decode cX7_undo 60 = .ok (.imul, 1) := by decide +kernel
theorem dX7_undo_61 : decode cX7_undo 61 = .ok (.iload_n 1, 1) := by decide +kernel
theorem dX7_undo_62 : decode cX7_undo 62 = .ok (.iadd, 1) := by decide +kernel
theorem dX7_undo_63 : decode cX7_undo 63 = .ok (.iaload, 1) := by decide +kernel
theorem dX7_undo_64 : decode cX7_undo 64 = .ok (.iastore, 1) := by decide +kernel
theorem dX7_undo_65 : decode cX7_undo 65 = .ok (.iinc 1 1, 3) := by decide +kernel
theorem dX7_undo_68 : decode cX7_undo 68 = .ok (.goto (-31), 3) := by decide +kernel
theorem dX7_undo_71 : decode cX7_undo 71 = .ok (.aload_n 0, 1) := by decide +kernel
theorem dX7_undo_72 : decode cX7_undo 72 = .ok (.getfield 29, 3) := by decide +kernel
theorem dX7_undo_75 : decode cX7_undo 75 = .ok (.ireturn, 1) := by decide +kernel
theorem dX7_areAlike_0 : decode cX7_areAlike 0 = .ok (.aload_n 0, 1) := by decide +kernel
theorem dX7_areAlike_1 : decode cX7_areAlike 1 = .ok (.iload_n 1, 1) := by decide +kernel
theorem dX7_areAlike_2 : decode cX7_areAlike 2 = .ok (.iconst 0, 1) := by decide +kernel
theorem dX7_areAlike_3 : decode cX7_areAlike 3 = .ok (.invokevirtual 40, 3) := by decide +kernel
theorem dX7_areAlike_6 : decode cX7_areAlike 6 = .ok (.aload_n 0, 1) := by decide +kernel
theorem dX7_areAlike_7 : decode cX7_areAlike 7 = .ok (.iload_n 2, 1) := by decide +kernel
theorem dX7_areAlike_8 : decode cX7_areAlike 8 = .ok (.iconst 0, 1) := by decide +kernel
theorem dX7_areAlike_9 : decode cX7_areAlike 9 = .ok (.invokevirtual 40, 3) := by decide +kernel
theorem dX7_areAlike_12 : decode cX7_areAlike 12 = .ok (.if_icmp .ne 7, 3) := by decide +kernel
theorem dX7_areAlike_15 : decode cX7_areAlike 15 = .ok (.iconst 1, 1) := by decide +kernel
theorem dX7_areAlike_16 : decode cX7_areAlike 16 = .ok (.goto 4, 3) := by decide +kernel
theorem dX7_areAlike_19 : decode cX7_areAlike 19 = .ok (.iconst 0, 1) := by decide +kernel
theorem dX7_areAlike_20 : decode cX7_areAlike 20 = .ok (.istore_n 3, 1) := by decide +kernel
theorem dX7_areAlike_21 : decode cX7_areAlike 21 = .ok (.iconst 0, 1) := by decide +kernel
theorem dX7_areAlike_22 : decode cX7_areAlike 22 = .ok (.istore 4, 2) := by decide +kernel
theorem dX7_areAlike_24 : decode cX7_areAlike 24 = .ok (.iload 4, 2) := by decide +kernel
theorem dX7_areAlike_26 : decode cX7_areAlike 26 = .ok (.aload_n 0, 1) := by decide +kernel
theorem dX7_areAlike_27 : decode cX7_areAlike 27 = .ok (.iload_n 1, 1) := by decide +kernel
theorem dX7_areAlike_28 : decode cX7_areAlike 28 = .ok (.iconst 0, 1) := by decide +kernel
theorem dX7_areAlike_29 : decode cX7_areAlike 29 = .ok (.invokevirtual 40, 3) := by decide +kernel
theorem dX7_areAlike_32 : decode cX7_areAlike 32 = .ok (.if_icmp .ge 42, 3) := by decide +kernel
theorem dX7_areAlike_35 : decode cX7_areAlike 35 = .ok (.iload_n 3, 1) := by decide +kernel
theorem dX7_areAlike_36 : decode cX7_areAlike 36 = .ok (.ifCond .eq 30, 3) := by decide +kernel
theorem dX7_areAlike_39 : decode cX7_areAlike 39 = .ok (.aload_n 0, 1) := by decide +kernel
theorem dX7_areAlike_40 : decode cX7_areAlike 40 = .ok (.iload_n 1, 1) := by decide +kernel
theorem dX7_areAlike_41 : decode cX7_areAlike 41 = .ok (.bipush 8, 2) := by decide +kernel
theorem dX7_areAlike_43 : decode cX7_areAlike 43 = .ok (.iload 4, 2) := by decide +kernel
theorem dX7_areAlike_45 : decode cX7_areAlike 45 = .ok (.iadd, 1) := by decide +kernel
theorem dX7_areAlike_46 : decode cX7_areAlike 46 = .ok (.invokevirtual 40, 3) := by decide +kernel
theorem dX7_areAlike_49 : decode cX7_areAlike 49 = .ok (.aload_n 0, 1) := by decide +kernel
theorem dX7_areAlike_50 : decode cX7_areAlike 50 = .ok (.iload_n 2, 1) := by decide +kernel
theorem dX7_areAlike_51 : decode cX7_areAlike 51 = .ok (.bipush 8, 2) := by decide +kernel
theorem dX7_areAlike_53 : decode cX7_areAlike 53 = .ok (.iload 4, 2) := by decide +kernel
theorem dX7_areAlike_55 : decode cX7_areAlike 55 = .ok (.iadd, 1) := by decide +kernel
theorem dX7_areAlike_56 : decode cX7_areAlike 56 = .ok (.invokevirtual 40, 3) := by decide +kernel
theorem dX7_areAlike_59 : decode cX7_areAlike 59 = .ok (.if_icmp .ne 7, 3) := by decide +kernel
theorem dX7_areAlike_62 : decode cX7_areAlike 62 = .ok (.iconst 1, 1) := by decide +kernel
theorem dX7_areAlike_63 : decode cX7_areAlike 63 = .ok (.goto 4, 3) := by decide +kernel
theorem dX7_areAlike_66 : decode cX7_areAlike 66 = .ok (.iconst 0, 1) := by decide +kernel
theorem dX7_areAlike_67 : decode cX7_areAlike 67 = .ok (.istore_n 3, 1) := by decide +kernel
theorem dX7_areAlike_68 : decode cX7_areAlike 68 = .ok (.iinc 4 1, 3) := by decide +kernel
theorem dX7_areAlike_71 : decode cX7_areAlike 71 = .ok (.goto (-47), 3) := by decide +kernel
theorem dX7_areAlike_74 : decode cX7_areAlike 74 = .ok (.iload_n 3, 1) := by decide +kernel
theorem dX7_areAlike_75 : decode cX7_areAlike 75 = .ok (.ireturn, 1) := by decide +kernel
theorem dX7_firstAlike_0 : decode cX7_firstAlike 0 = .ok (.iconst 0, 1) := by decide +kernel
theorem dX7_firstAlike_1 : decode cX7_firstAlike 1 = .ok (.istore_n 2, 1) := by decide +kernel
theorem dX7_firstAlike_2 : decode cX7_firstAlike 2 = .ok (.aload_n 0, 1) := by decide +kernel
theorem dX7_firstAlike_3 : decode cX7_firstAlike 3 = .ok (.iload_n 2, 1) := by decide +kernel
theorem dX7_firstAlike_4 : decode cX7_firstAlike 4 = .ok (.iload_n 1, 1) := by decide +kernel
theorem dX7_firstAlike_5 : decode cX7_firstAlike 5 = .ok (.invokevirtual 176, 3) := by decide +kernel
theorem dX7_firstAlike_8 : decode cX7_firstAlike 8 = .ok (.ifCond .ne 9, 3) := by decide +kernel
theorem dX7_firstAlike_11 : decode cX7_firstAlike 11 = .ok (.iinc 2 1, 3) := by decide +kernel
theorem dX7_firstAlike_14 : decode cX7_firstAlike 14 = .ok (.goto (-12), 3) := by decide +kernel
theorem dX7_firstAlike_17 : decode cX7_firstAlike 17 = .ok (.iload_n 2, 1) := by decide +kernel
theorem dX7_firstAlike_18 : decode cX7_firstAlike 18 = .ok (.ireturn, 1) := by decide +kernel
theorem dX7_blockNow_0 : decode cX7_blockNow 0 = .ok (.aload_n 0, 1) := by decide +kernel
theorem dX7_blockNow_1 : decode cX7_blockNow 1 = .ok (.iload_n 1, 1) := by decide +kernel
theorem dX7_blockNow_2 : decode cX7_blockNow 2 = .ok (.invokevirtual 47, 3) := by decide +kernel
theorem dX7_blockNow_5 : decode cX7_blockNow 5 = .ok (.iload_n 2, 1) := by decide +kernel
theorem dX7_blockNow_6 : decode cX7_blockNow 6 = .ok (.tableswitch 132 0 10 #[58, 58, 65, 76, 83, 90, 97, 104, 112, 117, 126], 58) := by decide +kernel
theorem dX7_blockNow_64 : decode cX7_blockNow 64 = .ok (.aload_n 0, 1) := by decide +kernel
theorem dX7_blockNow_65 : decode cX7_blockNow 65 = .ok (.iload_n 1, 1) := by decide +kernel
theorem dX7_blockNow_66 : decode cX7_blockNow 66 = .ok (.iload_n 2, 1) := by decide +kernel
theorem dX7_blockNow_67 : decode cX7_blockNow 67 = .ok (.invokevirtual 40, 3) := by decide +kernel
theorem dX7_blockNow_70 : decode cX7_blockNow 70 = .ok (.ireturn, 1) := by decide +kernel
theorem dX7_blockNow_71 : decode cX7_blockNow 71 = .ok (.aload_n 0, 1) := by decide +kernel
theorem dX7_blockNow_72 : decode cX7_blockNow 72 = .ok (.aload_n 0, 1) := by decide +kernel
theorem dX7_blockNow_73 : decode cX7_blockNow 73 = .ok (.iload_n 1, 1) := by decide +kernel
theorem dX7_blockNow_74 : decode cX7_blockNow 74 = .ok (.iconst 1, 1) := by decide +kernel
theorem dX7_blockNow_75 : decode cX7_blockNow 75 = .ok (.invokevirtual 40, 3) := by decide +kernel
theorem dX7_blockNow_78 : decode cX7_blockNow 78 = .ok (.invokevirtual 83, 3) := by decide +kernel
theorem dX7_blockNow_81 : decode cX7_blockNow 81 = .ok (.ireturn, 1) := by decide +kernel
theorem dX7_blockNow_82 : decode cX7_blockNow 82 = .ok (.aload_n 0, 1) := by decide +kernel
theorem dX7_blockNow_83 : decode cX7_blockNow 83 = .ok (.iload_n 1, 1) := by decide +kernel
theorem dX7_blockNow_84 : decode cX7_blockNow 84 = .ok (.iconst 2, 1) := by decide +kernel
theorem dX7_blockNow_85 : decode cX7_blockNow 85 = .ok (.invokevirtual 40, 3) := by decide +kernel
theorem dX7_blockNow_88 : decode cX7_blockNow 88 = .ok (.ireturn, 1) := by decide +kernel
theorem dX7_blockNow_89 : decode cX7_blockNow 89 = .ok (.aload_n 0, 1) := by decide +kernel
theorem dX7_blockNow_90 : decode cX7_blockNow 90 = .ok (.iload_n 1, 1) := by decide +kernel
theorem dX7_blockNow_91 : decode cX7_blockNow 91 = .ok (.iconst 3, 1) := by decide +kernel
theorem dX7_blockNow_92 : decode cX7_blockNow 92 = .ok (.invokevirtual 40, 3) := by decide +kernel
theorem dX7_blockNow_95 : decode cX7_blockNow 95 = .ok (.ireturn, 1) := by decide +kernel
theorem dX7_blockNow_96 : decode cX7_blockNow 96 = .ok (.aload_n 0, 1) := by decide +kernel
theorem dX7_blockNow_97 : decode cX7_blockNow 97 = .ok (.iload_n 1, 1) := by decide +kernel
theorem dX7_blockNow_98 : decode cX7_blockNow 98 = .ok (.iconst 4, 1) := by decide +kernel
theorem dX7_blockNow_99 : decode cX7_blockNow 99 = .ok (.invokevirtual 40, 3) := by decide +kernel
theorem dX7_blockNow_102 : decode cX7_blockNow 102 = .ok (.ireturn, 1) := by decide +kernel
theorem dX7_blockNow_103 : decode cX7_blockNow 103 = .ok (.aload_n 0, 1) := by decide +kernel
theorem dX7_blockNow_104 : decode cX7_blockNow 104 = .ok (.iload_n 1, 1) := by decide +kernel
theorem dX7_blockNow_105 : decode cX7_blockNow 105 = .ok (.iconst 5, 1) := by decide +kernel
theorem dX7_blockNow_106 : decode cX7_blockNow 106 = .ok (.invokevirtual 40, 3) := by decide +kernel
theorem dX7_blockNow_109 : decode cX7_blockNow 109 = .ok (.ireturn, 1) := by decide +kernel
theorem dX7_blockNow_110 : decode cX7_blockNow 110 = .ok (.aload_n 0, 1) := by decide +kernel
theorem dX7_blockNow_111 : decode cX7_blockNow 111 = .ok (.iload_n 1, 1) := by decide +kernel
theorem dX7_blockNow_112 : decode cX7_blockNow 112 = .ok (.bipush 6, 2) := by decide +kernel
theorem dX7_blockNow_114 : decode cX7_blockNow 114 = .ok (.invokevirtual 40, 3) := by decide +kernel
theorem dX7_blockNow_117 : decode cX7_blockNow 117 = .ok (.ireturn, 1) := by decide +kernel
theorem dX7_blockNow_118 : decode cX7_blockNow 118 = .ok (.aload_n 0, 1) := by decide +kernel
theorem dX7_blockNow_119 : decode cX7_blockNow 119 = .ok (.invokevirtual 86, 3) := by decide +kernel
theorem dX7_blockNow_122 : decode cX7_blockNow 122 = .ok (.ireturn, 1) := by decide +kernel
theorem dX7_blockNow_123 : decode cX7_blockNow 123 = .ok (.aload_n 0, 1) := by decide +kernel
theorem dX7_blockNow_124 : decode cX7_blockNow 124 = .ok (.aload_n 0, 1) := by decide +kernel
theorem dX7_blockNow_125 : decode cX7_blockNow 125 = .ok (.invokevirtual 86, 3) := by decide +kernel
theorem dX7_blockNow_128 : decode cX7_blockNow 128 = .ok (.invokevirtual 83, 3) := by decide +kernel
theorem dX7_blockNow_131 : decode cX7_blockNow 131 = .ok (.ireturn, 1) := by decide +kernel
theorem dX7_blockNow_132 : decode cX7_blockNow 132 = .ok (.aload_n 0, 1) := by decide +kernel
theorem dX7_blockNow_133 : decode cX7_blockNow 133 = .ok (.iload_n 1, 1) := by decide +kernel
theorem dX7_blockNow_134 : decode cX7_blockNow 134 = .ok (.invokevirtual 179, 3) := by decide +kernel
theorem dX7_blockNow_137 : decode cX7_blockNow 137 = .ok (.ireturn, 1) := by decide +kernel
theorem dX7_blockNow_138 : decode cX7_blockNow 138 = .ok (.aload_n 0, 1) := by decide +kernel
theorem dX7_blockNow_139 : decode cX7_blockNow 139 = .ok (.iload_n 1, 1) := by decide +kernel
theorem dX7_blockNow_140 : decode cX7_blockNow 140 = .ok (.bipush 7, 2) := by decide +kernel
theorem dX7_blockNow_142 : decode cX7_blockNow 142 = .ok (.invokevirtual 40, 3) := by decide +kernel
theorem dX7_blockNow_145 : decode cX7_blockNow 145 = .ok (.ireturn, 1) := by decide +kernel
theorem dX7_block_0 : decode cX7_block 0 = .ok (.aload_n 0, 1) := by decide +kernel
theorem dX7_block_1 : decode cX7_block 1 = .ok (.aload_n 0, 1) := by decide +kernel
theorem dX7_block_2 : decode cX7_block 2 = .ok (.iload_n 1, 1) := by decide +kernel
theorem dX7_block_3 : decode cX7_block 3 = .ok (.invokevirtual 36, 3) := by decide +kernel
theorem dX7_block_6 : decode cX7_block 6 = .ok (.ifCond .ne 7, 3) := by decide +kernel
theorem dX7_block_9 : decode cX7_block 9 = .ok (.iconst 1, 1) := by decide +kernel
theorem dX7_block_10 : decode cX7_block 10 = .ok (.goto 18, 3) := by decide +kernel
theorem dX7_block_13 : decode cX7_block 13 = .ok (.iload_n 2, 1) := by decide +kernel
theorem dX7_block_14 : decode cX7_block 14 = .ok (.iconst 0, 1) := by decide +kernel
theorem dX7_block_15 : decode cX7_block 15 = .ok (.bipush 11, 2) := by decide +kernel
theorem dX7_block_17 : decode cX7_block 17 = .ok (.invokestatic 32, 3) := by decide +kernel
theorem dX7_block_20 : decode cX7_block 20 = .ok (.ifCond .eq 7, 3) := by decide +kernel
theorem dX7_block_23 : decode cX7_block 23 = .ok (.iconst 0, 1) := by decide +kernel
theorem dX7_block_24 : decode cX7_block 24 = .ok (.goto 4, 3) := by decide +kernel
theorem dX7_block_27 : decode cX7_block 27 = .ok (.iconst 2, 1) := by decide +kernel
theorem dX7_block_28 : decode cX7_block 28 = .ok (.putfield 25, 3) := by decide +kernel
theorem dX7_block_31 : decode cX7_block 31 = .ok (.aload_n 0, 1) := by decide +kernel
theorem dX7_block_32 : decode cX7_block 32 = .ok (.getfield 25, 3) := by decide +kernel
theorem dX7_block_35 : decode cX7_block 35 = .ok (.ifCond .le 7, 3) := by decide +kernel
theorem dX7_block_38 : decode cX7_block 38 = .ok (.iconst 0, 1) := by decide +kernel
theorem dX7_block_39 : decode cX7_block 39 = .ok (.goto 9, 3) := by decide +kernel
theorem dX7_block_42 : decode cX7_block 42 = .ok (.aload_n 0, 1) := by decide +kernel
theorem dX7_block_43 : decode cX7_block 43 = .ok (.iload_n 1, 1) := by decide +kernel
theorem dX7_block_44 : decode cX7_block 44 = .ok (.iload_n 2, 1) := by decide +kernel
theorem dX7_block_45 : decode cX7_block 45 = .ok (.invokevirtual 182, 3) := by decide +kernel
theorem dX7_block_48 : decode cX7_block 48 = .ok (.ireturn, 1) := by decide +kernel
theorem dX7_value_0 : decode cX7_value 0 = .ok (.aload_n 0, 1) := by decide +kernel
theorem dX7_value_1 : decode cX7_value 1 = .ok (.aload_n 0, 1) := by decide +kernel
theorem dX7_value_2 : decode cX7_value 2 = .ok (.iload_n 1, 1) := by decide +kernel
theorem dX7_value_3 : decode cX7_value 3 = .ok (.iload_n 2, 1) := by decide +kernel
theorem dX7_value_4 : decode cX7_value 4 = .ok (.invokevirtual 124, 3) := by decide +kernel
theorem dX7_value_7 : decode cX7_value 7 = .ok (.ifCond .eq 7, 3) := by decide +kernel
theorem dX7_value_10 : decode cX7_value 10 = .ok (.iconst 0, 1) := by decide +kernel
theorem dX7_value_11 : decode cX7_value 11 = .ok (.goto 4, 3) := by decide +kernel
theorem dX7_value_14 : decode cX7_value 14 = .ok (.iconst 1, 1) := by decide +kernel
theorem dX7_value_15 : decode cX7_value 15 = .ok (.putfield 25, 3) := by decide +kernel
theorem dX7_value_18 : decode cX7_value 18 = .ok (.aload_n 0, 1) := by decide +kernel
theorem dX7_value_19 : decode cX7_value 19 = .ok (.getfield 25, 3) := by decide +kernel
theorem dX7_value_22 : decode cX7_value 22 = .ok (.ifCond .le 7, 3) := by decide +kernel
theorem dX7_value_25 : decode cX7_value 25 = .ok (.iconst 0, 1) := by decide +kernel
theorem dX7_value_26 : decode cX7_value 26 = .ok (.goto 12, 3) := by decide +kernel
theorem dX7_value_29 : decode cX7_value 29 = .ok (.aload_n 0, 1) := by decide +kernel
theorem dX7_value_30 : decode cX7_value 30 = .ok (.iload_n 1, 1) := by decide +kernel
theorem dX7_value_31 : decode cX7_value 31 = .ok (.bipush 8, 2) := by decide +kernel
theorem dX7_value_33 : decode cX7_value 33 = .ok (.iload_n 2, 1) := by decide +kernel
theorem dX7_value_34 : decode cX7_value 34 = .ok (.iadd, 1) := by decide +kernel
theorem dX7_value_35 : decode cX7_value 35 = .ok (.invokevirtual 40, 3) := by decide +kernel
theorem dX7_value_38 : decode cX7_value 38 = .ok (.ireturn, 1) := by decide +kernel
theorem dX7_sumOf_0 : decode cX7_sumOf 0 = .ok (.iconst 0, 1) := by decide +kernel
theorem dX7_sumOf_1 : decode cX7_sumOf 1 = .ok (.istore_n 2, 1) := by decide +kernel
theorem dX7_sumOf_2 : decode cX7_sumOf 2 = .ok (.iconst 0, 1) := by decide +kernel
theorem dX7_sumOf_3 : decode cX7_sumOf 3 = .ok (.istore_n 3, 1) := by decide +kernel
theorem dX7_sumOf_4 : decode cX7_sumOf 4 = .ok (.iload_n 3, 1) := by decide +kernel
theorem dX7_sumOf_5 : decode cX7_sumOf 5 = .ok (.aload_n 0, 1) := by decide +kernel
theorem dX7_sumOf_6 : decode cX7_sumOf 6 = .ok (.getfield 7, 3) := by decide +kernel
theorem dX7_sumOf_9 : decode cX7_sumOf 9 = .ok (.iconst 2, 1) := by decide +kernel
theorem dX7_sumOf_10 : decode cX7_sumOf 10 = .ok (.iaload, 1) := by decide +kernel
theorem dX7_sumOf_11 : decode cX7_sumOf 11 = .ok (.if_icmp .ge 22, 3) := by decide +kernel
theorem dX7_sumOf_14 : decode cX7_sumOf 14 = .ok (.aload_n 0, 1) := by decide +kernel
theorem dX7_sumOf_15 : decode cX7_sumOf 15 = .ok (.iload_n 3, 1) := by decide +kernel
theorem dX7_sumOf_16 : decode cX7_sumOf 16 = .ok (.iload_n 1, 1) := by decide +kernel
theorem dX7_sumOf_17 : decode cX7_sumOf 17 = .ok (.invokevirtual 182, 3) := by decide +kernel
theorem dX7_sumOf_20 : decode cX7_sumOf 20 = .ok (.istore 4, 2) := by decide +kernel
theorem dX7_sumOf_22 : decode cX7_sumOf 22 = .ok (.iload_n 2, 1) := by decide +kernel
theorem dX7_sumOf_23 : decode cX7_sumOf 23 = .ok (.iload 4, 2) := by decide +kernel
theorem dX7_sumOf_25 : decode cX7_sumOf 25 = .ok (.iadd, 1) := by decide +kernel
theorem dX7_sumOf_26 : decode cX7_sumOf 26 = .ok (.istore_n 2, 1) := by decide +kernel
theorem dX7_sumOf_27 : decode cX7_sumOf 27 = .ok (.iinc 3 1, 3) := by decide +kernel
theorem dX7_sumOf_30 : decode cX7_sumOf 30 = .ok (.goto (-26), 3) := by decide +kernel
theorem dX7_sumOf_33 : decode cX7_sumOf 33 = .ok (.iload_n 2, 1) := by decide +kernel
theorem dX7_sumOf_34 : decode cX7_sumOf 34 = .ok (.ireturn, 1) := by decide +kernel
theorem dX7_blocksWith_0 : decode cX7_blocksWith 0 = .ok (.iconst 0, 1) := by decide +kernel
theorem dX7_blocksWith_1 : decode cX7_blocksWith 1 = .ok (.istore_n 2, 1) := by decide +kernel
theorem dX7_blocksWith_2 : decode cX7_blocksWith 2 = .ok (.iconst 0, 1) := by decide +kernel
theorem dX7_blocksWith_3 : decode cX7_blocksWith 3 = .ok (.istore_n 3, 1) := by decide +kernel
theorem dX7_blocksWith_4 : decode cX7_blocksWith 4 = .ok (.iload_n 3, 1) := by decide +kernel
theorem dX7_blocksWith_5 : decode cX7_blocksWith 5 = .ok (.aload_n 0, 1) := by decide +kernel
theorem dX7_blocksWith_6 : decode cX7_blocksWith 6 = .ok (.getfield 7, 3) := by decide +kernel
theorem dX7_blocksWith_9 : decode cX7_blocksWith 9 = .ok (.iconst 2, 1) := by decide +kernel
theorem dX7_blocksWith_10 : decode cX7_blocksWith 10 = .ok (.iaload, 1) := by decide +kernel
theorem dX7_blocksWith_11 : decode cX7_blocksWith 11 = .ok (.if_icmp .ge 49, 3) := by decide +kernel
theorem dX7_blocksWith_14 : decode cX7_blocksWith 14 = .ok (.iload_n 2, 1) := by decide +kernel
theorem dX7_blocksWith_15 : decode cX7_blocksWith 15 = .ok (.iload_n 1, 1) := by decide +kernel
theorem dX7_blocksWith_16 : decode cX7_blocksWith 16 = .ok (.iconst (-1), 1) := by decide +kernel
theorem dX7_blocksWith_17 : decode cX7_blocksWith 17 = .ok (.if_icmp .ne 20, 3) := by decide +kernel
theorem dX7_blocksWith_20 : decode cX7_blocksWith 20 = .ok (.aload_n 0, 1) := by decide +kernel
theorem dX7_blocksWith_21 : decode cX7_blocksWith 21 = .ok (.iload_n 3, 1) := by decide +kernel
theorem dX7_blocksWith_22 : decode cX7_blocksWith 22 = .ok (.invokevirtual 179, 3) := by decide +kernel
theorem dX7_blocksWith_25 : decode cX7_blocksWith 25 = .ok (.iload_n 3, 1) := by decide +kernel
theorem dX7_blocksWith_26 : decode cX7_blocksWith 26 = .ok (.if_icmp .ne 7, 3) := by decide +kernel
theorem dX7_blocksWith_29 : decode cX7_blocksWith 29 = .ok (.iconst 1, 1) := by decide +kernel
theorem dX7_blocksWith_30 : decode cX7_blocksWith 30 = .ok (.goto 22, 3) := by decide +kernel
theorem dX7_blocksWith_33 : decode cX7_blocksWith 33 = .ok (.iconst 0, 1) := by decide +kernel
theorem dX7_blocksWith_34 : decode cX7_blocksWith 34 = .ok (.goto 18, 3) := by decide +kernel
theorem dX7_blocksWith_37 : decode cX7_blocksWith 37 = .ok (.aload_n 0, 1) := by decide +kernel
theorem dX7_blocksWith_38 : decode cX7_blocksWith 38 = .ok (.iload_n 3, 1) := by decide +kernel
theorem dX7_blocksWith_39 : decode cX7_blocksWith 39 = .ok (.iconst 1, 1) := by decide +kernel
theorem dX7_blocksWith_40 : decode cX7_blocksWith 40 = .ok (.invokevirtual 40, 3) := by decide +kernel
theorem dX7_blocksWith_43 : decode cX7_blocksWith 43 = .ok (.iload_n 1, 1) := by decide +kernel
theorem dX7_blocksWith_44 : decode cX7_blocksWith 44 = .ok (.if_icmp .ne 7, 3) := by decide +kernel
theorem dX7_blocksWith_47 : decode cX7_blocksWith 47 = .ok (.iconst 1, 1) := by decide +kernel
theorem dX7_blocksWith_48 : decode cX7_blocksWith 48 = .ok (.goto 4, 3) := by decide +kernel
theorem dX7_blocksWith_51 : decode cX7_blocksWith 51 = .ok (.iconst 0, 1) := by decide +kernel
theorem dX7_blocksWith_52 : decode cX7_blocksWith 52 = .ok (.iadd, 1) := by decide +kernel
theorem dX7_blocksWith_53 : decode cX7_blocksWith 53 = .ok (.istore_n 2, 1) := by decide +kernel
theorem dX7_blocksWith_54 : decode cX7_blocksWith 54 = .ok (.iinc 3 1, 3) := by decide +kernel
theorem dX7_blocksWith_57 : decode cX7_blocksWith 57 = .ok (.goto (-53), 3) := by decide +kernel
theorem dX7_blocksWith_60 : decode cX7_blocksWith 60 = .ok (.iload_n 2, 1) := by decide +kernel
theorem dX7_blocksWith_61 : decode cX7_blocksWith 61 = .ok (.ireturn, 1) := by decide +kernel
theorem dX7_counted_0 : decode cX7_counted 0 = .ok (.iload_n 1, 1) := by decide +kernel
theorem dX7_counted_1 : decode cX7_counted 1 = .ok (.tableswitch 118 0 9 #[55, 62, 69, 75, 81, 88, 94, 100, 107, 113], 55) := by decide +kernel
theorem dX7_counted_56 : decode cX7_counted 56 = .ok (.aload_n 0, 1) := by decide +kernel
theorem dX7_counted_57 : decode cX7_counted 57 = .ok (.getfield 7, 3) := by decide +kernel
theorem dX7_counted_60 : decode cX7_counted 60 = .ok (.iconst 2, 1) := by decide +kernel
theorem dX7_counted_61 : decode cX7_counted 61 = .ok (.iaload, 1) := by decide +kernel
theorem dX7_counted_62 : decode cX7_counted 62 = .ok (.ireturn, 1) := by decide +kernel
theorem dX7_counted_63 : decode cX7_counted 63 = .ok (.aload_n 0, 1) := by decide +kernel
theorem dX7_counted_64 : decode cX7_counted 64 = .ok (.getfield 7, 3) := by decide +kernel
theorem dX7_counted_67 : decode cX7_counted 67 = .ok (.iconst 3, 1) := by decide +kernel
theorem dX7_counted_68 : decode cX7_counted 68 = .ok (.iaload, 1) := by decide +kernel
theorem dX7_counted_69 : decode cX7_counted 69 = .ok (.ireturn, 1) := by decide +kernel
theorem dX7_counted_70 : decode cX7_counted 70 = .ok (.aload_n 0, 1) := by decide +kernel
theorem dX7_counted_71 : decode cX7_counted 71 = .ok (.iconst 0, 1) := by decide +kernel
theorem dX7_counted_72 : decode cX7_counted 72 = .ok (.invokevirtual 185, 3) := by decide +kernel
theorem dX7_counted_75 : decode cX7_counted 75 = .ok (.ireturn, 1) := by decide +kernel
theorem dX7_counted_76 : decode cX7_counted 76 = .ok (.aload_n 0, 1) := by decide +kernel
theorem dX7_counted_77 : decode cX7_counted 77 = .ok (.iconst 2, 1) := by decide +kernel
theorem dX7_counted_78 : decode cX7_counted 78 = .ok (.invokevirtual 185, 3) := by decide +kernel
theorem dX7_counted_81 : decode cX7_counted 81 = .ok (.ireturn, 1) := by decide +kernel
theorem dX7_counted_82 : decode cX7_counted 82 = .ok (.aload_n 0, 1) := by decide +kernel
theorem dX7_counted_83 : decode cX7_counted 83 = .ok (.bipush 9, 2) := by decide +kernel
theorem dX7_counted_85 : decode cX7_counted 85 = .ok (.invokevirtual 185, 3) := by decide +kernel
theorem dX7_counted_88 : decode cX7_counted 88 = .ok (.ireturn, 1) := by decide +kernel
theorem dX7_counted_89 : decode cX7_counted 89 = .ok (.aload_n 0, 1) := by decide +kernel
theorem dX7_counted_90 : decode cX7_counted 90 = .ok (.iconst 4, 1) := by decide +kernel
theorem dX7_counted_91 : decode cX7_counted 91 = .ok (.invokevirtual 185, 3) := by decide +kernel
theorem dX7_counted_94 : decode cX7_counted 94 = .ok (.ireturn, 1) := by decide +kernel
theorem dX7_counted_95 : decode cX7_counted 95 = .ok (.aload_n 0, 1) := by decide +kernel
theorem dX7_counted_96 : decode cX7_counted 96 = .ok (.iconst 5, 1) := by decide +kernel
theorem dX7_counted_97 : decode cX7_counted 97 = .ok (.invokevirtual 185, 3) := by decide +kernel
theorem dX7_counted_100 : decode cX7_counted 100 = .ok (.ireturn, 1) := by decide +kernel
theorem dX7_counted_101 : decode cX7_counted 101 = .ok (.aload_n 0, 1) := by decide +kernel
theorem dX7_counted_102 : decode cX7_counted 102 = .ok (.bipush 7, 2) := by decide +kernel
theorem dX7_counted_104 : decode cX7_counted 104 = .ok (.invokevirtual 185, 3) := by decide +kernel
theorem dX7_counted_107 : decode cX7_counted 107 = .ok (.ireturn, 1) := by decide +kernel
theorem dX7_counted_108 : decode cX7_counted 108 = .ok (.aload_n 0, 1) := by decide +kernel
theorem dX7_counted_109 : decode cX7_counted 109 = .ok (.iconst (-1), 1) := by decide +kernel
theorem dX7_counted_110 : decode cX7_counted 110 = .ok (.invokevirtual 188, 3) := by decide +kernel
theorem dX7_counted_113 : decode cX7_counted 113 = .ok (.ireturn, 1) := by decide +kernel
theorem dX7_counted_114 : decode cX7_counted 114 = .ok (.aload_n 0, 1) := by decide +kernel
theorem dX7_counted_115 : decode cX7_counted 115 = .ok (.getfield 29, 3) := by decide +kernel
theorem dX7_counted_118 : decode cX7_counted 118 = .ok (.ireturn, 1) := by decide +kernel
theorem dX7_counted_119 : decode cX7_counted 119 = .ok (.aload_n 0, 1) := by decide +kernel
theorem dX7_counted_120 : decode cX7_counted 120 = .ok (.iload_n 1, 1) := by decide +kernel
theorem dX7_counted_121 : decode cX7_counted 121 = .ok (.bipush 10, 2) := by decide +kernel
theorem dX7_counted_123 : decode cX7_counted 123 = .ok (.isub, 1) := by decide +kernel
theorem dX7_counted_124 : decode cX7_counted 124 = .ok (.invokevirtual 188, 3) := by decide +kernel
theorem dX7_counted_127 : decode cX7_counted 127 = .ok (.ireturn, 1) := by decide +kernel
theorem dX7_count_0 : decode cX7_count 0 = .ok (.aload_n 0, 1) := by decide +kernel
theorem dX7_count_1 : decode cX7_count 1 = .ok (.iload_n 1, 1) := by decide +kernel
theorem dX7_count_2 : decode cX7_count 2 = .ok (.iconst 0, 1) := by decide +kernel
theorem dX7_count_3 : decode cX7_count 3 = .ok (.bipush 15, 2) := by decide +kernel
theorem dX7_count_5 : decode cX7_count 5 = .ok (.invokestatic 32, 3) := by decide +kernel
theorem dX7_count_8 : decode cX7_count 8 = .ok (.ifCond .eq 7, 3) := by decide +kernel
theorem dX7_count_11 : decode cX7_count 11 = .ok (.iconst 0, 1) := by decide +kernel
theorem dX7_count_12 : decode cX7_count 12 = .ok (.goto 4, 3) := by decide +kernel
theorem dX7_count_15 : decode cX7_count 15 = .ok (.iconst 1, 1) := by decide +kernel
theorem dX7_count_16 : decode cX7_count 16 = .ok (.putfield 25, 3) := by decide +kernel
theorem dX7_count_19 : decode cX7_count 19 = .ok (.aload_n 0, 1) := by decide +kernel
theorem dX7_count_20 : decode cX7_count 20 = .ok (.getfield 25, 3) := by decide +kernel
theorem dX7_count_23 : decode cX7_count 23 = .ok (.ifCond .le 7, 3) := by decide +kernel
theorem dX7_count_26 : decode cX7_count 26 = .ok (.iconst 0, 1) := by decide +kernel
theorem dX7_count_27 : decode cX7_count 27 = .ok (.goto 8, 3) := by decide +kernel
theorem dX7_count_30 : decode cX7_count 30 = .ok (.aload_n 0, 1) := by decide +kernel
theorem dX7_count_31 : decode cX7_count 31 = .ok (.iload_n 1, 1) := by decide +kernel
theorem dX7_count_32 : decode cX7_count 32 = .ok (.invokevirtual 191, 3) := by decide +kernel
theorem dX7_count_35 : decode cX7_count 35 = .ok (.ireturn, 1) := by decide +kernel
theorem dX7_setting_0 : decode cX7_setting 0 = .ok (.aload_n 0, 1) := by decide +kernel
theorem dX7_setting_1 : decode cX7_setting 1 = .ok (.iload_n 1, 1) := by decide +kernel
theorem dX7_setting_2 : decode cX7_setting 2 = .ok (.invokestatic 160, 3) := by decide +kernel
theorem dX7_setting_5 : decode cX7_setting 5 = .ok (.ifCond .eq 7, 3) := by decide +kernel
theorem dX7_setting_8 : decode cX7_setting 8 = .ok (.iconst 0, 1) := by decide +kernel
theorem dX7_setting_9 : decode cX7_setting 9 = .ok (.goto 4, 3) := by decide +kernel
theorem dX7_setting_12 : decode cX7_setting 12 = .ok (.iconst 1, 1) := by decide +kernel
theorem dX7_setting_13 : decode cX7_setting 13 = .ok (.putfield 25, 3) := by decide +kernel
theorem dX7_setting_16 : decode cX7_setting 16 = .ok (.aload_n 0, 1) := by decide +kernel
theorem dX7_setting_17 : decode cX7_setting 17 = .ok (.getfield 25, 3) := by decide +kernel
theorem dX7_setting_20 : decode cX7_setting 20 = .ok (.ifCond .le 7, 3) := by decide +kernel
theorem dX7_setting_23 : decode cX7_setting 23 = .ok (.iconst 0, 1) := by decide +kernel
theorem dX7_setting_24 : decode cX7_setting 24 = .ok (.goto 9, 3) := by decide +kernel
theorem dX7_setting_27 : decode cX7_setting 27 = .ok (.aload_n 0, 1) := by decide +kernel
theorem dX7_setting_28 : decode cX7_setting 28 = .ok (.getfield 7, 3) := by decide +kernel
theorem dX7_setting_31 : decode cX7_setting 31 = .ok (.iload_n 1, 1) := by decide +kernel
theorem dX7_setting_32 : decode cX7_setting 32 = .ok (.iaload, 1) := by decide +kernel
theorem dX7_setting_33 : decode cX7_setting 33 = .ok (.ireturn, 1) := by decide +kernel
theorem dX7_isCode_0 : decode cX7_isCode 0 = .ok (.iload_n 0, 1) := by decide +kernel
theorem dX7_isCode_1 : decode cX7_isCode 1 = .ok (.iconst 0, 1) := by decide +kernel
theorem dX7_isCode_2 : decode cX7_isCode 2 = .ok (.iconst 5, 1) := by decide +kernel
theorem dX7_isCode_3 : decode cX7_isCode 3 = .ok (.invokestatic 32, 3) := by decide +kernel
theorem dX7_isCode_6 : decode cX7_isCode 6 = .ok (.ireturn, 1) := by decide +kernel
theorem dX7_costNow_0 : decode cX7_costNow 0 = .ok (.aload_n 0, 1) := by decide +kernel
theorem dX7_costNow_1 : decode cX7_costNow 1 = .ok (.iload_n 1, 1) := by decide +kernel
theorem dX7_costNow_2 : decode cX7_costNow 2 = .ok (.invokevirtual 47, 3) := by decide +kernel
theorem dX7_costNow_5 : decode cX7_costNow 5 = .ok (.aload_n 0, 1) := by decide +kernel
theorem dX7_costNow_6 : decode cX7_costNow 6 = .ok (.iload_n 2, 1) := by decide +kernel
theorem dX7_costNow_7 : decode cX7_costNow 7 = .ok (.invokevirtual 83, 3) := by decide +kernel
theorem dX7_costNow_10 : decode cX7_costNow 10 = .ok (.ireturn, 1) := by decide +kernel
theorem dX7_cost_0 : decode cX7_cost 0 = .ok (.aload_n 0, 1) := by decide +kernel
theorem dX7_cost_1 : decode cX7_cost 1 = .ok (.aload_n 0, 1) := by decide +kernel
theorem dX7_cost_2 : decode cX7_cost 2 = .ok (.iload_n 1, 1) := by decide +kernel
theorem dX7_cost_3 : decode cX7_cost 3 = .ok (.invokevirtual 36, 3) := by decide +kernel
theorem dX7_cost_6 : decode cX7_cost 6 = .ok (.ifCond .ne 7, 3) := by decide +kernel
theorem dX7_cost_9 : decode cX7_cost 9 = .ok (.iconst 1, 1) := by decide +kernel
theorem dX7_cost_10 : decode cX7_cost 10 = .ok (.goto 15, 3) := by decide +kernel
theorem dX7_cost_13 : decode cX7_cost 13 = .ok (.iload_n 2, 1) := by decide +kernel
theorem dX7_cost_14 : decode cX7_cost 14 = .ok (.invokestatic 194, 3) := by decide +kernel
theorem dX7_cost_17 : decode cX7_cost 17 = .ok (.ifCond .eq 7, 3) := by decide +kernel
theorem dX7_cost_20 : decode cX7_cost 20 = .ok (.iconst 0, 1) := by decide +kernel
theorem dX7_cost_21 : decode cX7_cost 21 = .ok (.goto 4, 3) := by decide +kernel
theorem dX7_cost_24 : decode cX7_cost 24 = .ok (.iconst 2, 1) := by decide +kernel
theorem dX7_cost_25 : decode cX7_cost 25 = .ok (.putfield 25, 3) := by decide +kernel
theorem dX7_cost_28 : decode cX7_cost 28 = .ok (.aload_n 0, 1) := by decide +kernel
theorem dX7_cost_29 : decode cX7_cost 29 = .ok (.getfield 25, 3) := by decide +kernel
theorem dX7_cost_32 : decode cX7_cost 32 = .ok (.ifCond .le 7, 3) := by decide +kernel
theorem dX7_cost_35 : decode cX7_cost 35 = .ok (.iconst 0, 1) := by decide +kernel
theorem dX7_cost_36 : decode cX7_cost 36 = .ok (.goto 9, 3) := by decide +kernel
theorem dX7_cost_39 : decode cX7_cost 39 = .ok (.aload_n 0, 1) := by decide +kernel
theorem dX7_cost_40 : decode cX7_cost 40 = .ok (.iload_n 1, 1) := by decide +kernel
theorem dX7_cost_41 : decode cX7_cost 41 = .ok (.iload_n 2, 1) := by decide +kernel
theorem dX7_cost_42 : decode cX7_cost 42 = .ok (.invokevirtual 197, 3) := by decide +kernel
theorem dX7_cost_45 : decode cX7_cost 45 = .ok (.ireturn, 1) := by decide +kernel
theorem dX7_workNow_0 : decode cX7_workNow 0 = .ok (.aload_n 0, 1) := by decide +kernel
theorem dX7_workNow_1 : decode cX7_workNow 1 = .ok (.iload_n 1, 1) := by decide +kernel
theorem dX7_workNow_2 : decode cX7_workNow 2 = .ok (.invokevirtual 47, 3) := by decide +kernel
theorem dX7_workNow_5 : decode cX7_workNow 5 = .ok (.aload_n 0, 1) := by decide +kernel
theorem dX7_workNow_6 : decode cX7_workNow 6 = .ok (.iload_n 2, 1) := by decide +kernel
theorem dX7_workNow_7 : decode cX7_workNow 7 = .ok (.iload_n 3, 1) := by decide +kernel
theorem dX7_workNow_8 : decode cX7_workNow 8 = .ok (.iload 4, 2) := by decide +kernel
theorem dX7_workNow_10 : decode cX7_workNow 10 = .ok (.invokevirtual 153, 3) := by decide +kernel
theorem dX7_workNow_13 : decode cX7_workNow 13 = .ok (.ireturn, 1) := by decide +kernel
theorem dX7_work_0 : decode cX7_work 0 = .ok (.aload_n 0, 1) := by decide +kernel
theorem dX7_work_1 : decode cX7_work 1 = .ok (.aload_n 0, 1) := by decide +kernel
theorem dX7_work_2 : decode cX7_work 2 = .ok (.iload_n 1, 1) := by decide +kernel
theorem dX7_work_3 : decode cX7_work 3 = .ok (.invokevirtual 36, 3) := by decide +kernel
theorem dX7_work_6 : decode cX7_work 6 = .ok (.ifCond .ne 7, 3) := by decide +kernel
theorem dX7_work_9 : decode cX7_work 9 = .ok (.iconst 1, 1) := by decide +kernel
theorem dX7_work_10 : decode cX7_work 10 = .ok (.goto 30, 3) := by decide +kernel
theorem dX7_work_13 : decode cX7_work 13 = .ok (.iload_n 2, 1) := by decide +kernel
theorem dX7_work_14 : decode cX7_work 14 = .ok (.invokestatic 194, 3) := by decide +kernel
theorem dX7_work_17 : decode cX7_work 17 = .ok (.ifCond .eq 22, 3) := by decide +kernel
theorem dX7_work_20 : decode cX7_work 20 = .ok (.iload_n 3, 1) := by decide +kernel
theorem dX7_work_21 : decode cX7_work 21 = .ok (.invokestatic 150, 3) := by decide +kernel
theorem dX7_work_24 : decode cX7_work 24 = .ok (.ifCond .eq 15, 3) := by decide +kernel
theorem dX7_work_27 : decode cX7_work 27 = .ok (.iload 4, 2) := by decide +kernel
theorem dX7_work_29 : decode cX7_work 29 = .ok (.invokestatic 93, 3) := by decide +kernel
theorem dX7_work_32 : decode cX7_work 32 = .ok (.ifCond .eq 7, 3) := by decide +kernel
theorem dX7_work_35 : decode cX7_work 35 = .ok (.iconst 0, 1) := by decide +kernel
theorem dX7_work_36 : decode cX7_work 36 = .ok (.goto 4, 3) := by decide +kernel
theorem dX7_work_39 : decode cX7_work 39 = .ok (.iconst 2, 1) := by decide +kernel
theorem dX7_work_40 : decode cX7_work 40 = .ok (.putfield 25, 3) := by decide +kernel
theorem dX7_work_43 : decode cX7_work 43 = .ok (.aload_n 0, 1) := by decide +kernel
theorem dX7_work_44 : decode cX7_work 44 = .ok (.getfield 25, 3) := by decide +kernel
theorem dX7_work_47 : decode cX7_work 47 = .ok (.ifCond .le 7, 3) := by decide +kernel
theorem dX7_work_50 : decode cX7_work 50 = .ok (.iconst 0, 1) := by decide +kernel
theorem dX7_work_51 : decode cX7_work 51 = .ok (.goto 12, 3) := by decide +kernel
theorem dX7_work_54 : decode cX7_work 54 = .ok (.aload_n 0, 1) := by decide +kernel
theorem dX7_work_55 : decode cX7_work 55 = .ok (.iload_n 1, 1) := by decide +kernel
theorem dX7_work_56 : decode cX7_work 56 = .ok (.iload_n 2, 1) := by decide +kernel
theorem dX7_work_57 : decode cX7_work 57 = .ok (.iload_n 3, 1) := by decide +kernel
theorem dX7_work_58 : decode cX7_work 58 = .ok (.iload 4, 2) := by decide +kernel
theorem dX7_work_60 : decode cX7_work 60 = .ok (.invokevirtual 200, 3) := by decide +kernel
theorem dX7_work_63 : decode cX7_work 63 = .ok (.ireturn, 1) := by decide +kernel
theorem dX7_regretThen_0 : decode cX7_regretThen 0 = .ok (.aload_n 0, 1) := by decide +kernel
theorem dX7_regretThen_1 : decode cX7_regretThen 1 = .ok (.iload_n 1, 1) := by decide +kernel
theorem dX7_regretThen_2 : decode cX7_regretThen 2 = .ok (.invokevirtual 47, 3) := by decide +kernel
theorem dX7_regretThen_5 : decode cX7_regretThen 5 = .ok (.aload_n 0, 1) := by decide +kernel
theorem dX7_regretThen_6 : decode cX7_regretThen 6 = .ok (.iload_n 1, 1) := by decide +kernel
theorem dX7_regretThen_7 : decode cX7_regretThen 7 = .ok (.invokevirtual 144, 3) := by decide +kernel
theorem dX7_regretThen_10 : decode cX7_regretThen 10 = .ok (.istore_n 3, 1) := by decide +kernel
theorem dX7_regretThen_11 : decode cX7_regretThen 11 = .ok (.iload_n 3, 1) := by decide +kernel
theorem dX7_regretThen_12 : decode cX7_regretThen 12 = .ok (.iconst 1, 1) := by decide +kernel
theorem dX7_regretThen_13 : decode cX7_regretThen 13 = .ok (.if_icmp .ge 7, 3) := by decide +kernel
theorem dX7_regretThen_16 : decode cX7_regretThen 16 = .ok (.iconst 1, 1) := by decide +kernel
theorem dX7_regretThen_17 : decode cX7_regretThen 17 = .ok (.goto 4, 3) := by decide +kernel
theorem dX7_regretThen_20 : decode cX7_regretThen 20 = .ok (.iload_n 3, 1) := by decide +kernel
theorem dX7_regretThen_21 : decode cX7_regretThen 21 = .ok (.istore 4, 2) := by decide +kernel
theorem dX7_regretThen_23 : decode cX7_regretThen 23 = .ok (.aload_n 0, 1) := by decide +kernel
theorem dX7_regretThen_24 : decode cX7_regretThen 24 = .ok (.aload_n 0, 1) := by decide +kernel
theorem dX7_regretThen_25 : decode cX7_regretThen 25 = .ok (.iload_n 1, 1) := by decide +kernel
theorem dX7_regretThen_26 : decode cX7_regretThen 26 = .ok (.iconst 1, 1) := by decide +kernel
theorem dX7_regretThen_27 : decode cX7_regretThen 27 = .ok (.invokevirtual 40, 3) := by decide +kernel
theorem dX7_regretThen_30 : decode cX7_regretThen 30 = .ok (.invokevirtual 138, 3) := by decide +kernel
theorem dX7_regretThen_33 : decode cX7_regretThen 33 = .ok (.iload_n 2, 1) := by decide +kernel
theorem dX7_regretThen_34 : decode cX7_regretThen 34 = .ok (.iload 4, 2) := by decide +kernel
theorem dX7_regretThen_36 : decode cX7_regretThen 36 = .ok (.if_icmp .ge 7, 3) := by decide +kernel
theorem dX7_regretThen_39 : decode cX7_regretThen 39 = .ok (.iload_n 2, 1) := by decide +kernel
theorem dX7_regretThen_40 : decode cX7_regretThen 40 = .ok (.goto 5, 3) := by decide +kernel
theorem dX7_regretThen_43 : decode cX7_regretThen 43 = .ok (.iload 4, 2) := by decide +kernel
theorem dX7_regretThen_45 : decode cX7_regretThen 45 = .ok (.imul, 1) := by decide +kernel
theorem dX7_regretThen_46 : decode cX7_regretThen 46 = .ok (.ireturn, 1) := by decide +kernel
theorem dX7_regretIn_0 : decode cX7_regretIn 0 = .ok (.aload_n 0, 1) := by decide +kernel
theorem dX7_regretIn_1 : decode cX7_regretIn 1 = .ok (.aload_n 0, 1) := by decide +kernel
theorem dX7_regretIn_2 : decode cX7_regretIn 2 = .ok (.iload_n 1, 1) := by decide +kernel
theorem dX7_regretIn_3 : decode cX7_regretIn 3 = .ok (.invokevirtual 36, 3) := by decide +kernel
theorem dX7_regretIn_6 : decode cX7_regretIn 6 = .ok (.ifCond .ne 7, 3) := by decide +kernel
theorem dX7_regretIn_9 : decode cX7_regretIn 9 = .ok (.iconst 1, 1) := by decide +kernel
theorem dX7_regretIn_10 : decode cX7_regretIn 10 = .ok (.goto 19, 3) := by decide +kernel
theorem dX7_regretIn_13 : decode cX7_regretIn 13 = .ok (.iload_n 2, 1) := by decide +kernel
theorem dX7_regretIn_14 : decode cX7_regretIn 14 = .ok (.iconst 0, 1) := by decide +kernel
theorem dX7_regretIn_15 : decode cX7_regretIn 15 = .ok (.sipush 200, 3) := by decide +kernel
theorem dX7_regretIn_18 : decode cX7_regretIn 18 = .ok (.invokestatic 32, 3) := by decide +kernel
theorem dX7_regretIn_21 : decode cX7_regretIn 21 = .ok (.ifCond .eq 7, 3) := by decide +kernel
theorem dX7_regretIn_24 : decode cX7_regretIn 24 = .ok (.iconst 0, 1) := by decide +kernel
theorem dX7_regretIn_25 : decode cX7_regretIn 25 = .ok (.goto 4, 3) := by decide +kernel
theorem dX7_regretIn_28 : decode cX7_regretIn 28 = .ok (.iconst 2, 1) := by decide +kernel
theorem dX7_regretIn_29 : decode cX7_regretIn 29 = .ok (.putfield 25, 3) := by decide +kernel
theorem dX7_regretIn_32 : decode cX7_regretIn 32 = .ok (.aload_n 0, 1) := by decide +kernel
theorem dX7_regretIn_33 : decode cX7_regretIn 33 = .ok (.getfield 25, 3) := by decide +kernel
theorem dX7_regretIn_36 : decode cX7_regretIn 36 = .ok (.ifCond .le 7, 3) := by decide +kernel
theorem dX7_regretIn_39 : decode cX7_regretIn 39 = .ok (.iconst 0, 1) := by decide +kernel
theorem dX7_regretIn_40 : decode cX7_regretIn 40 = .ok (.goto 9, 3) := by decide +kernel
theorem dX7_regretIn_43 : decode cX7_regretIn 43 = .ok (.aload_n 0, 1) := by decide +kernel
theorem dX7_regretIn_44 : decode cX7_regretIn 44 = .ok (.iload_n 1, 1) := by decide +kernel
theorem dX7_regretIn_45 : decode cX7_regretIn 45 = .ok (.iload_n 2, 1) := by decide +kernel
theorem dX7_regretIn_46 : decode cX7_regretIn 46 = .ok (.invokevirtual 204, 3) := by decide +kernel
theorem dX7_regretIn_49 : decode cX7_regretIn 49 = .ok (.ireturn, 1) := by decide +kernel
theorem dX7_gainNow_0 : decode cX7_gainNow 0 = .ok (.aload_n 0, 1) := by decide +kernel
theorem dX7_gainNow_1 : decode cX7_gainNow 1 = .ok (.iload_n 1, 1) := by decide +kernel
theorem dX7_gainNow_2 : decode cX7_gainNow 2 = .ok (.invokevirtual 144, 3) := by decide +kernel
theorem dX7_gainNow_5 : decode cX7_gainNow 5 = .ok (.istore_n 2, 1) := by decide +kernel
theorem dX7_gainNow_6 : decode cX7_gainNow 6 = .ok (.aload_n 0, 1) := by decide +kernel
theorem dX7_gainNow_7 : decode cX7_gainNow 7 = .ok (.iload_n 1, 1) := by decide +kernel
theorem dX7_gainNow_8 : decode cX7_gainNow 8 = .ok (.iload_n 2, 1) := by decide +kernel
theorem dX7_gainNow_9 : decode cX7_gainNow 9 = .ok (.sipush 200, 3) := by decide +kernel
theorem dX7_gainNow_12 : decode cX7_gainNow 12 = .ok (.if_icmp .le 9, 3) := by decide +kernel
theorem dX7_gainNow_15 : decode cX7_gainNow 15 = .ok (.sipush 200, 3) := by decide +kernel
theorem dX7_gainNow_18 : decode cX7_gainNow 18 = .ok (.goto 4, 3) := by decide +kernel
theorem dX7_gainNow_21 : decode cX7_gainNow 21 = .ok (.iload_n 2, 1) := by decide +kernel
theorem dX7_gainNow_22 : decode cX7_gainNow 22 = .ok (.invokevirtual 204, 3) := by decide +kernel
theorem dX7_gainNow_25 : decode cX7_gainNow 25 = .ok (.aload_n 0, 1) := by decide +kernel
theorem dX7_gainNow_26 : decode cX7_gainNow 26 = .ok (.iload_n 1, 1) := by decide +kernel
theorem dX7_gainNow_27 : decode cX7_gainNow 27 = .ok (.invokevirtual 147, 3) := by decide +kernel
theorem dX7_gainNow_30 : decode cX7_gainNow 30 = .ok (.isub, 1) := by decide +kernel
theorem dX7_gainNow_31 : decode cX7_gainNow 31 = .ok (.ireturn, 1) := by decide +kernel
theorem dX7_gain_0 : decode cX7_gain 0 = .ok (.aload_n 0, 1) := by decide +kernel
theorem dX7_gain_1 : decode cX7_gain 1 = .ok (.aload_n 0, 1) := by decide +kernel
theorem dX7_gain_2 : decode cX7_gain 2 = .ok (.iload_n 1, 1) := by decide +kernel
theorem dX7_gain_3 : decode cX7_gain 3 = .ok (.invokevirtual 36, 3) := by decide +kernel
theorem dX7_gain_6 : decode cX7_gain 6 = .ok (.ifCond .eq 7, 3) := by decide +kernel
theorem dX7_gain_9 : decode cX7_gain 9 = .ok (.iconst 0, 1) := by decide +kernel
theorem dX7_gain_10 : decode cX7_gain 10 = .ok (.goto 4, 3) := by decide +kernel
theorem dX7_gain_13 : decode cX7_gain 13 = .ok (.iconst 1, 1) := by decide +kernel
theorem dX7_gain_14 : decode cX7_gain 14 = .ok (.putfield 25, 3) := by decide +kernel
theorem dX7_gain_17 : decode cX7_gain 17 = .ok (.aload_n 0, 1) := by decide +kernel
theorem dX7_gain_18 : decode cX7_gain 18 = .ok (.getfield 25, 3) := by decide +kernel
theorem dX7_gain_21 : decode cX7_gain 21 = .ok (.ifCond .le 7, 3) := by decide +kernel
theorem dX7_gain_24 : decode cX7_gain 24 = .ok (.iconst 0, 1) := by decide +kernel
theorem dX7_gain_25 : decode cX7_gain 25 = .ok (.goto 8, 3) := by decide +kernel
theorem dX7_gain_28 : decode cX7_gain 28 = .ok (.aload_n 0, 1) := by decide +kernel
theorem dX7_gain_29 : decode cX7_gain 29 = .ok (.iload_n 1, 1) := by decide +kernel
theorem dX7_gain_30 : decode cX7_gain 30 = .ok (.invokevirtual 207, 3) := by decide +kernel
theorem dX7_gain_33 : decode cX7_gain 33 = .ok (.ireturn, 1) := by decide +kernel
theorem dX7_cheapestNow_0 : decode cX7_cheapestNow 0 = .ok (.aload_n 0, 1) := by decide +kernel
theorem dX7_cheapestNow_1 : decode cX7_cheapestNow 1 = .ok (.iload_n 1, 1) := by decide +kernel
theorem dX7_cheapestNow_2 : decode cX7_cheapestNow 2 = .ok (.invokevirtual 47, 3) := by decide +kernel
theorem dX7_cheapestNow_5 : decode cX7_cheapestNow 5 = .ok (.iconst (-1), 1) := by decide +kernel
theorem dX7_cheapestNow_6 : decode cX7_cheapestNow 6 = .ok (.istore_n 3, 1) := by decide +kernel
theorem dX7_cheapestNow_7 : decode cX7_cheapestNow 7 = .ok (.iconst 0, 1) := by decide +kernel
theorem dX7_cheapestNow_8 : decode cX7_cheapestNow 8 = .ok (.istore 4, 2) := by decide +kernel
theorem dX7_cheapestNow_10 : decode cX7_cheapestNow 10 = .ok (.iconst 0, 1) := by decide +kernel
theorem dX7_cheapestNow_11 : decode cX7_cheapestNow 11 = .ok (.istore 5, 2) := by decide +kernel
theorem dX7_cheapestNow_13 : decode cX7_cheapestNow 13 = .ok (.iload 5, 2) := by decide +kernel
theorem dX7_cheapestNow_15 : decode cX7_cheapestNow 15 = .ok (.sipush 256, 3) := by decide +kernel
theorem dX7_cheapestNow_18 : decode cX7_cheapestNow 18 = .ok (.if_icmp .ge 74, 3) := by decide +kernel
theorem dX7_cheapestNow_21 : decode cX7_cheapestNow 21 = .ok (.aload_n 0, 1) := by decide +kernel
theorem dX7_cheapestNow_22 : decode cX7_cheapestNow 22 = .ok (.getfield 19, 3) := by decide +kernel
theorem dX7_cheapestNow_25 : decode cX7_cheapestNow 25 = .ok (.iload_n 2, 1) := by decide +kernel
theorem dX7_cheapestNow_26 : decode cX7_cheapestNow 26 = .ok (.iload 5, 2) := by decide +kernel
theorem dX7_cheapestNow_28 : decode cX7_cheapestNow 28 = .ok (.iastore, 1) := by decide +kernel
theorem dX7_cheapestNow_29 : decode cX7_cheapestNow 29 = .ok (.aload_n 0, 1) := by decide +kernel
theorem dX7_cheapestNow_30 : decode cX7_cheapestNow 30 = .ok (.aload_n 0, 1) := by decide +kernel
theorem dX7_cheapestNow_31 : decode cX7_cheapestNow 31 = .ok (.iload_n 1, 1) := by decide +kernel
theorem dX7_cheapestNow_32 : decode cX7_cheapestNow 32 = .ok (.iconst 1, 1) := by decide +kernel
theorem dX7_cheapestNow_33 : decode cX7_cheapestNow 33 = .ok (.invokevirtual 40, 3) := by decide +kernel
theorem dX7_cheapestNow_36 : decode cX7_cheapestNow 36 = .ok (.invokevirtual 83, 3) := by decide +kernel
theorem dX7_cheapestNow_39 : decode cX7_cheapestNow 39 = .ok (.istore 6, 2) := by decide +kernel
theorem dX7_cheapestNow_41 : decode cX7_cheapestNow 41 = .ok (.iload_n 3, 1) := by decide +kernel
theorem dX7_cheapestNow_42 : decode cX7_cheapestNow 42 = .ok (.iconst (-1), 1) := by decide +kernel
theorem dX7_cheapestNow_43 : decode cX7_cheapestNow 43 = .ok (.if_icmp .eq 10, 3) := by decide +kernel
theorem dX7_cheapestNow_46 : decode cX7_cheapestNow 46 = .ok (.iload 6, 2) := by decide +kernel
theorem dX7_cheapestNow_48 : decode cX7_cheapestNow 48 = .ok (.iload 4, 2) := by decide +kernel
theorem dX7_cheapestNow_50 : decode cX7_cheapestNow 50 = .ok (.if_icmp .ge 7, 3) := by decide +kernel
theorem dX7_cheapestNow_53 : decode cX7_cheapestNow 53 = .ok (.iconst 1, 1) := by decide +kernel
theorem dX7_cheapestNow_54 : decode cX7_cheapestNow 54 = .ok (.goto 4, 3) := by decide +kernel
theorem dX7_cheapestNow_57 : decode cX7_cheapestNow 57 = .ok (.iconst 0, 1) := by decide +kernel
theorem dX7_cheapestNow_58 : decode cX7_cheapestNow 58 = .ok (.istore 7, 2) := by decide +kernel
theorem dX7_cheapestNow_60 : decode cX7_cheapestNow 60 = .ok (.iload 7, 2) := by decide +kernel
theorem dX7_cheapestNow_62 : decode cX7_cheapestNow 62 = .ok (.ifCond .eq 8, 3) := by decide +kernel
theorem dX7_cheapestNow_65 : decode cX7_cheapestNow 65 = .ok (.iload 5, 2) := by decide +kernel
theorem dX7_cheapestNow_67 : decode cX7_cheapestNow 67 = .ok (.goto 4, 3) := by decide +kernel
theorem dX7_cheapestNow_70 : decode cX7_cheapestNow 70 = .ok (.iload_n 3, 1) := by decide +kernel
theorem dX7_cheapestNow_71 : decode cX7_cheapestNow 71 = .ok (.istore_n 3, 1) := by decide +kernel
theorem dX7_cheapestNow_72 : decode cX7_cheapestNow 72 = .ok (.iload 7, 2) := by decide +kernel
theorem dX7_cheapestNow_74 : decode cX7_cheapestNow 74 = .ok (.ifCond .eq 8, 3) := by decide +kernel
theorem dX7_cheapestNow_77 : decode cX7_cheapestNow 77 = .ok (.iload 6, 2) := by decide +kernel
theorem dX7_cheapestNow_79 : decode cX7_cheapestNow 79 = .ok (.goto 5, 3) := by decide +kernel
theorem dX7_cheapestNow_82 : decode cX7_cheapestNow 82 = .ok (.iload 4, 2) := by decide +kernel
theorem dX7_cheapestNow_84 : decode cX7_cheapestNow 84 = .ok (.istore 4, 2) := by decide +kernel
theorem dX7_cheapestNow_86 : decode cX7_cheapestNow 86 = .ok (.iinc 5 1, 3) := by decide +kernel
theorem dX7_cheapestNow_89 : decode cX7_cheapestNow 89 = .ok (.goto (-76), 3) := by decide +kernel
theorem dX7_cheapestNow_92 : decode cX7_cheapestNow 92 = .ok (.iload_n 3, 1) := by decide +kernel
theorem dX7_cheapestNow_93 : decode cX7_cheapestNow 93 = .ok (.ireturn, 1) := by decide +kernel
theorem dX7_cheapest_0 : decode cX7_cheapest 0 = .ok (.aload_n 0, 1) := by decide +kernel
theorem dX7_cheapest_1 : decode cX7_cheapest 1 = .ok (.aload_n 0, 1) := by decide +kernel
theorem dX7_cheapest_2 : decode cX7_cheapest 2 = .ok (.iload_n 1, 1) := by decide +kernel
theorem dX7_cheapest_3 : decode cX7_cheapest 3 = .ok (.iload_n 2, 1) := by decide +kernel
theorem dX7_cheapest_4 : decode cX7_cheapest 4 = .ok (.invokevirtual 124, 3) := by decide +kernel
theorem dX7_cheapest_7 : decode cX7_cheapest 7 = .ok (.ifCond .eq 7, 3) := by decide +kernel
theorem dX7_cheapest_10 : decode cX7_cheapest 10 = .ok (.iconst 0, 1) := by decide +kernel
theorem dX7_cheapest_11 : decode cX7_cheapest 11 = .ok (.goto 4, 3) := by decide +kernel
theorem dX7_cheapest_14 : decode cX7_cheapest 14 = .ok (.iconst 1, 1) := by decide +kernel
theorem dX7_cheapest_15 : decode cX7_cheapest 15 = .ok (.putfield 25, 3) := by decide +kernel
theorem dX7_cheapest_18 : decode cX7_cheapest 18 = .ok (.aload_n 0, 1) := by decide +kernel
theorem dX7_cheapest_19 : decode cX7_cheapest 19 = .ok (.getfield 25, 3) := by decide +kernel
theorem dX7_cheapest_22 : decode cX7_cheapest 22 = .ok (.ifCond .le 7, 3) := by decide +kernel
theorem dX7_cheapest_25 : decode cX7_cheapest 25 = .ok (.iconst 0, 1) := by decide +kernel
theorem dX7_cheapest_26 : decode cX7_cheapest 26 = .ok (.goto 9, 3) := by decide +kernel
theorem dX7_cheapest_29 : decode cX7_cheapest 29 = .ok (.aload_n 0, 1) := by decide +kernel
theorem dX7_cheapest_30 : decode cX7_cheapest 30 = .ok (.iload_n 1, 1) := by decide +kernel
theorem dX7_cheapest_31 : decode cX7_cheapest 31 = .ok (.iload_n 2, 1) := by decide +kernel
theorem dX7_cheapest_32 : decode cX7_cheapest 32 = .ok (.invokevirtual 210, 3) := by decide +kernel
theorem dX7_cheapest_35 : decode cX7_cheapest 35 = .ok (.ireturn, 1) := by decide +kernel
theorem dX7_mateFor_0 : decode cX7_mateFor 0 = .ok (.iconst (-1), 1) := by decide +kernel
theorem dX7_mateFor_1 : decode cX7_mateFor 1 = .ok (.istore_n 2, 1) := by decide +kernel
theorem dX7_mateFor_2 : decode cX7_mateFor 2 = .ok (.iconst 0, 1) := by decide +kernel
theorem dX7_mateFor_3 : decode cX7_mateFor 3 = .ok (.istore_n 3, 1) := by decide +kernel
theorem dX7_mateFor_4 : decode cX7_mateFor 4 = .ok (.iconst 0, 1) := by decide +kernel
theorem dX7_mateFor_5 : decode cX7_mateFor 5 = .ok (.istore 4, 2) := by decide +kernel
theorem dX7_mateFor_7 : decode cX7_mateFor 7 = .ok (.iload 4, 2) := by decide +kernel
theorem dX7_mateFor_9 : decode cX7_mateFor 9 = .ok (.aload_n 0, 1) := by decide +kernel
theorem dX7_mateFor_10 : decode cX7_mateFor 10 = .ok (.getfield 7, 3) := by decide +kernel
theorem dX7_mateFor_13 : decode cX7_mateFor 13 = .ok (.iconst 2, 1) := by decide +kernel
theorem dX7_mateFor_14 : decode cX7_mateFor 14 = .ok (.iaload, 1) := by decide +kernel
theorem dX7_mateFor_15 : decode cX7_mateFor 15 = .ok (.if_icmp .ge 80, 3) := by decide +kernel
theorem dX7_mateFor_18 : decode cX7_mateFor 18 = .ok (.aload_n 0, 1) := by decide +kernel
theorem dX7_mateFor_19 : decode cX7_mateFor 19 = .ok (.iload_n 1, 1) := by decide +kernel
theorem dX7_mateFor_20 : decode cX7_mateFor 20 = .ok (.iload 4, 2) := by decide +kernel
theorem dX7_mateFor_22 : decode cX7_mateFor 22 = .ok (.invokevirtual 128, 3) := by decide +kernel
theorem dX7_mateFor_25 : decode cX7_mateFor 25 = .ok (.ifCond .eq 64, 3) := by decide +kernel
theorem dX7_mateFor_28 : decode cX7_mateFor 28 = .ok (.aload_n 0, 1) := by decide +kernel
theorem dX7_mateFor_29 : decode cX7_mateFor 29 = .ok (.iload_n 1, 1) := by decide +kernel
theorem dX7_mateFor_30 : decode cX7_mateFor 30 = .ok (.iload 4, 2) := by decide +kernel
theorem dX7_mateFor_32 : decode cX7_mateFor 32 = .ok (.invokevirtual 131, 3) := by decide +kernel
theorem dX7_mateFor_35 : decode cX7_mateFor 35 = .ok (.aload_n 0, 1) := by decide +kernel
theorem dX7_mateFor_36 : decode cX7_mateFor 36 = .ok (.aload_n 0, 1) := by decide +kernel
theorem dX7_mateFor_37 : decode cX7_mateFor 37 = .ok (.iload_n 1, 1) := by decide +kernel
theorem dX7_mateFor_38 : decode cX7_mateFor 38 = .ok (.iconst 1, 1) := by decide +kernel
theorem dX7_mateFor_39 : decode cX7_mateFor 39 = .ok (.invokevirtual 40, 3) := by decide +kernel
theorem dX7_mateFor_42 : decode cX7_mateFor 42 = .ok (.invokevirtual 83, 3) := by decide +kernel
theorem dX7_mateFor_45 : decode cX7_mateFor 45 = .ok (.istore 5, 2) := by decide +kernel
theorem dX7_mateFor_47 : decode cX7_mateFor 47 = .ok (.iload_n 2, 1) := by decide +kernel
theorem dX7_mateFor_48 : decode cX7_mateFor 48 = .ok (.iconst (-1), 1) := by decide +kernel
theorem dX7_mateFor_49 : decode cX7_mateFor 49 = .ok (.if_icmp .eq 9, 3) := by decide +kernel
theorem dX7_mateFor_52 : decode cX7_mateFor 52 = .ok (.iload 5, 2) := by decide +kernel
theorem dX7_mateFor_54 : decode cX7_mateFor 54 = .ok (.iload_n 3, 1) := by decide +kernel
theorem dX7_mateFor_55 : decode cX7_mateFor 55 = .ok (.if_icmp .ge 7, 3) := by decide +kernel
theorem dX7_mateFor_58 : decode cX7_mateFor 58 = .ok (.iconst 1, 1) := by decide +kernel
theorem dX7_mateFor_59 : decode cX7_mateFor 59 = .ok (.goto 4, 3) := by decide +kernel
theorem dX7_mateFor_62 : decode cX7_mateFor 62 = .ok (.iconst 0, 1) := by decide +kernel
theorem dX7_mateFor_63 : decode cX7_mateFor 63 = .ok (.istore 6, 2) := by decide +kernel
theorem dX7_mateFor_65 : decode cX7_mateFor 65 = .ok (.iload 6, 2) := by decide +kernel
theorem dX7_mateFor_67 : decode cX7_mateFor 67 = .ok (.ifCond .eq 8, 3) := by decide +kernel
theorem dX7_mateFor_70 : decode cX7_mateFor 70 = .ok (.iload 4, 2) := by decide +kernel
theorem dX7_mateFor_72 : decode cX7_mateFor 72 = .ok (.goto 4, 3) := by decide +kernel
theorem dX7_mateFor_75 : decode cX7_mateFor 75 = .ok (.iload_n 2, 1) := by decide +kernel
theorem dX7_mateFor_76 : decode cX7_mateFor 76 = .ok (.istore_n 2, 1) := by decide +kernel
theorem dX7_mateFor_77 : decode cX7_mateFor 77 = .ok (.iload 6, 2) := by decide +kernel
theorem dX7_mateFor_79 : decode cX7_mateFor 79 = .ok (.ifCond .eq 8, 3) := by decide +kernel
theorem dX7_mateFor_82 : decode cX7_mateFor 82 = .ok (.iload 5, 2) := by decide +kernel
theorem dX7_mateFor_84 : decode cX7_mateFor 84 = .ok (.goto 4, 3) := by decide +kernel
theorem dX7_mateFor_87 : decode cX7_mateFor 87 = .ok (.iload_n 3, 1) := by decide +kernel
theorem dX7_mateFor_88 : decode cX7_mateFor 88 = .ok (.istore_n 3, 1) := by decide +kernel
theorem dX7_mateFor_89 : decode cX7_mateFor 89 = .ok (.iinc 4 1, 3) := by decide +kernel
theorem dX7_mateFor_92 : decode cX7_mateFor 92 = .ok (.goto (-85), 3) := by decide +kernel
theorem dX7_mateFor_95 : decode cX7_mateFor 95 = .ok (.iload_n 2, 1) := by decide +kernel
theorem dX7_mateFor_96 : decode cX7_mateFor 96 = .ok (.ireturn, 1) := by decide +kernel
theorem dX7_mate_0 : decode cX7_mate 0 = .ok (.aload_n 0, 1) := by decide +kernel
theorem dX7_mate_1 : decode cX7_mate 1 = .ok (.aload_n 0, 1) := by decide +kernel
theorem dX7_mate_2 : decode cX7_mate 2 = .ok (.iload_n 1, 1) := by decide +kernel
theorem dX7_mate_3 : decode cX7_mate 3 = .ok (.invokevirtual 36, 3) := by decide +kernel
theorem dX7_mate_6 : decode cX7_mate 6 = .ok (.ifCond .eq 7, 3) := by decide +kernel
theorem dX7_mate_9 : decode cX7_mate 9 = .ok (.iconst 0, 1) := by decide +kernel
theorem dX7_mate_10 : decode cX7_mate 10 = .ok (.goto 4, 3) := by decide +kernel
theorem dX7_mate_13 : decode cX7_mate 13 = .ok (.iconst 1, 1) := by decide +kernel
theorem dX7_mate_14 : decode cX7_mate 14 = .ok (.putfield 25, 3) := by decide +kernel
theorem dX7_mate_17 : decode cX7_mate 17 = .ok (.aload_n 0, 1) := by decide +kernel
theorem dX7_mate_18 : decode cX7_mate 18 = .ok (.getfield 25, 3) := by decide +kernel
theorem dX7_mate_21 : decode cX7_mate 21 = .ok (.ifCond .le 7, 3) := by decide +kernel
theorem dX7_mate_24 : decode cX7_mate 24 = .ok (.iconst 0, 1) := by decide +kernel
theorem dX7_mate_25 : decode cX7_mate 25 = .ok (.goto 8, 3) := by decide +kernel
theorem dX7_mate_28 : decode cX7_mate 28 = .ok (.aload_n 0, 1) := by decide +kernel
theorem dX7_mate_29 : decode cX7_mate 29 = .ok (.iload_n 1, 1) := by decide +kernel
theorem dX7_mate_30 : decode cX7_mate 30 = .ok (.invokevirtual 213, 3) := by decide +kernel
theorem dX7_mate_33 : decode cX7_mate 33 = .ok (.ireturn, 1) := by decide +kernel
theorem dX7_mean_0 : decode cX7_mean 0 = .ok (.aload_n 0, 1) := by decide +kernel
theorem dX7_mean_1 : decode cX7_mean 1 = .ok (.iconst 0, 1) := by decide +kernel
theorem dX7_mean_2 : decode cX7_mean 2 = .ok (.invokevirtual 185, 3) := by decide +kernel
theorem dX7_mean_5 : decode cX7_mean 5 = .ok (.istore_n 1, 1) := by decide +kernel
theorem dX7_mean_6 : decode cX7_mean 6 = .ok (.iload_n 1, 1) := by decide +kernel
theorem dX7_mean_7 : decode cX7_mean 7 = .ok (.ifCond .ne 7, 3) := by decide +kernel
theorem dX7_mean_10 : decode cX7_mean 10 = .ok (.dconst 0, 1) := by decide +kernel
theorem dX7_mean_11 : decode cX7_mean 11 = .ok (.goto 12, 3) := by decide +kernel
theorem dX7_mean_14 : decode cX7_mean 14 = .ok (.aload_n 0, 1) := by decide +kernel
theorem dX7_mean_15 : decode cX7_mean 15 = .ok (.iconst 2, 1) := by decide +kernel
theorem dX7_mean_16 : decode cX7_mean 16 = .ok (.invokevirtual 185, 3) := by decide +kernel
theorem dX7_mean_19 : decode cX7_mean 19 = .ok (.i2d, 1) := by decide +kernel
theorem dX7_mean_20 : decode cX7_mean 20 = .ok (.iload_n 1, 1) := by decide +kernel
theorem dX7_mean_21 : decode cX7_mean 21 = .ok (.i2d, 1) := by decide +kernel
theorem dX7_mean_22 : decode cX7_mean 22 = .ok (.ddiv, 1) := by decide +kernel
theorem dX7_mean_23 : decode cX7_mean 23 = .ok (.dreturn, 1) := by decide +kernel
theorem dX7_meanBits_0 : decode cX7_meanBits 0 = .ok (.aload_n 0, 1) := by decide +kernel
theorem dX7_meanBits_1 : decode cX7_meanBits 1 = .ok (.iconst 0, 1) := by decide +kernel
theorem dX7_meanBits_2 : decode cX7_meanBits 2 = .ok (.putfield 25, 3) := by decide +kernel
theorem dX7_meanBits_5 : decode cX7_meanBits 5 = .ok (.aload_n 0, 1) := by decide +kernel
theorem dX7_meanBits_6 : decode cX7_meanBits 6 = .ok (.invokevirtual 216, 3) := by decide +kernel
theorem dX7_meanBits_9 : decode cX7_meanBits 9 = .ok (.dreturn, 1) := by decide +kernel
theorem dX7_mix_0 : decode cX7_mix 0 = .ok (.aload_n 0, 1) := by decide +kernel
theorem dX7_mix_1 : decode cX7_mix 1 = .ok (.ldc2_w 220, 3) := by decide +kernel
theorem dX7_mix_4 : decode cX7_mix 4 = .ok (.aload_n 0, 1) := by decide +kernel
theorem dX7_mix_5 : decode cX7_mix 5 = .ok (.getfield 222, 3) := by decide +kernel
theorem dX7_mix_8 : decode cX7_mix 8 = .ok (.lmul, 1) := by decide +kernel
theorem dX7_mix_9 : decode cX7_mix 9 = .ok (.lload_n 1, 1) := by decide +kernel
theorem dX7_mix_10 : decode cX7_mix 10 = .ok (.ladd, 1) := by decide +kernel
theorem dX7_mix_11 : decode cX7_mix 11 = .ok (.putfield 222, 3) := by decide +kernel
theorem dX7_mix_14 : decode cX7_mix 14 = .ok (.return_, 1) := by decide +kernel
theorem dX7_mixBlock_0 : decode cX7_mixBlock 0 = .ok (.iconst 0, 1) := by decide +kernel
theorem dX7_mixBlock_1 : decode cX7_mixBlock 1 = .ok (.istore_n 2, 1) := by decide +kernel
theorem dX7_mixBlock_2 : decode cX7_mixBlock 2 = .ok (.iload_n 2, 1) := by decide +kernel
theorem dX7_mixBlock_3 : decode cX7_mixBlock 3 = .ok (.bipush 12, 2) := by decide +kernel
theorem dX7_mixBlock_5 : decode cX7_mixBlock 5 = .ok (.if_icmp .ge 20, 3) := by decide +kernel
theorem dX7_mixBlock_8 : decode cX7_mixBlock 8 = .ok (.aload_n 0, 1) := by decide +kernel
theorem dX7_mixBlock_9 : decode cX7_mixBlock 9 = .ok (.aload_n 0, 1) := by decide +kernel
theorem dX7_mixBlock_10 : decode cX7_mixBlock 10 = .ok (.iload_n 1, 1) := by decide +kernel
theorem dX7_mixBlock_11 : decode cX7_mixBlock 11 = .ok (.iload_n 2, 1) := by decide +kernel
theorem dX7_mixBlock_12 : decode cX7_mixBlock 12 = .ok (.invokevirtual 182, 3) := by decide +kernel
theorem dX7_mixBlock_15 : decode cX7_mixBlock 15 = .ok (.i2l, 1) := by decide +kernel
theorem dX7_mixBlock_16 : decode cX7_mixBlock 16 = .ok (.invokevirtual 226, 3) := by decide +kernel
theorem dX7_mixBlock_19 : decode cX7_mixBlock 19 = .ok (.iinc 2 1, 3) := by decide +kernel
theorem dX7_mixBlock_22 : decode cX7_mixBlock 22 = .ok (.goto (-20), 3) := by decide +kernel
theorem dX7_mixBlock_25 : decode cX7_mixBlock 25 = .ok (.iconst 0, 1) := by decide +kernel
theorem dX7_mixBlock_26 : decode cX7_mixBlock 26 = .ok (.istore_n 2, 1) := by decide +kernel
theorem dX7_mixBlock_27 : decode cX7_mixBlock 27 = .ok (.iload_n 2, 1) := by decide +kernel
theorem dX7_mixBlock_28 : decode cX7_mixBlock 28 = .ok (.aload_n 0, 1) := by decide +kernel
theorem dX7_mixBlock_29 : decode cX7_mixBlock 29 = .ok (.iload_n 1, 1) := by decide +kernel
theorem dX7_mixBlock_30 : decode cX7_mixBlock 30 = .ok (.iconst 0, 1) := by decide +kernel
theorem dX7_mixBlock_31 : decode cX7_mixBlock 31 = .ok (.invokevirtual 40, 3) := by decide +kernel
theorem dX7_mixBlock_34 : decode cX7_mixBlock 34 = .ok (.if_icmp .ge 23, 3) := by decide +kernel
theorem dX7_mixBlock_37 : decode cX7_mixBlock 37 = .ok (.aload_n 0, 1) := by decide +kernel
theorem dX7_mixBlock_38 : decode cX7_mixBlock 38 = .ok (.aload_n 0, 1) := by decide +kernel
theorem dX7_mixBlock_39 : decode cX7_mixBlock 39 = .ok (.iload_n 1, 1) := by decide +kernel
theorem dX7_mixBlock_40 : decode cX7_mixBlock 40 = .ok (.bipush 8, 2) := by decide +kernel
theorem dX7_mixBlock_42 : decode cX7_mixBlock 42 = .ok (.iload_n 2, 1) := by decide +kernel
theorem dX7_mixBlock_43 : decode cX7_mixBlock 43 = .ok (.iadd, 1) := by decide +kernel
theorem dX7_mixBlock_44 : decode cX7_mixBlock 44 = .ok (.invokevirtual 40, 3) := by decide +kernel
theorem dX7_mixBlock_47 : decode cX7_mixBlock 47 = .ok (.i2l, 1) := by decide +kernel
theorem dX7_mixBlock_48 : decode cX7_mixBlock 48 = .ok (.invokevirtual 226, 3) := by decide +kernel
theorem dX7_mixBlock_51 : decode cX7_mixBlock 51 = .ok (.iinc 2 1, 3) := by decide +kernel
theorem dX7_mixBlock_54 : decode cX7_mixBlock 54 = .ok (.goto (-27), 3) := by decide +kernel
theorem dX7_mixBlock_57 : decode cX7_mixBlock 57 = .ok (.iconst 0, 1) := by decide +kernel
theorem dX7_mixBlock_58 : decode cX7_mixBlock 58 = .ok (.istore_n 2, 1) := by decide +kernel
theorem dX7_mixBlock_59 : decode cX7_mixBlock 59 = .ok (.iload_n 2, 1) := by decide +kernel
theorem dX7_mixBlock_60 : decode cX7_mixBlock 60 = .ok (.bipush 6, 2) := by decide +kernel
theorem dX7_mixBlock_62 : decode cX7_mixBlock 62 = .ok (.if_icmp .ge 20, 3) := by decide +kernel
theorem dX7_mixBlock_65 : decode cX7_mixBlock 65 = .ok (.aload_n 0, 1) := by decide +kernel
theorem dX7_mixBlock_66 : decode cX7_mixBlock 66 = .ok (.aload_n 0, 1) := by decide +kernel
theorem dX7_mixBlock_67 : decode cX7_mixBlock 67 = .ok (.iload_n 1, 1) := by decide +kernel
theorem dX7_mixBlock_68 : decode cX7_mixBlock 68 = .ok (.iload_n 2, 1) := by decide +kernel
theorem dX7_mixBlock_69 : decode cX7_mixBlock 69 = .ok (.invokevirtual 197, 3) := by decide +kernel
theorem dX7_mixBlock_72 : decode cX7_mixBlock 72 = .ok (.i2l, 1) := by decide +kernel
theorem dX7_mixBlock_73 : decode cX7_mixBlock 73 = .ok (.invokevirtual 226, 3) := by decide +kernel
theorem dX7_mixBlock_76 : decode cX7_mixBlock 76 = .ok (.iinc 2 1, 3) := by decide +kernel
theorem dX7_mixBlock_79 : decode cX7_mixBlock 79 = .ok (.goto (-20), 3) := by decide +kernel
theorem dX7_mixBlock_82 : decode cX7_mixBlock 82 = .ok (.iconst 0, 1) := by decide +kernel
theorem dX7_mixBlock_83 : decode cX7_mixBlock 83 = .ok (.istore_n 2, 1) := by decide +kernel
theorem dX7_mixBlock_84 : decode cX7_mixBlock 84 = .ok (.iload_n 2, 1) := by decide +kernel
theorem dX7_mixBlock_85 : decode cX7_mixBlock 85 = .ok (.bipush 12, 2) := by decide +kernel
theorem dX7_mixBlock_87 : decode cX7_mixBlock 87 = .ok (.if_icmp .ge 30, 3) := by decide +kernel
theorem dX7_mixBlock_90 : decode cX7_mixBlock 90 = .ok (.aload_n 0, 1) := by decide +kernel
theorem dX7_mixBlock_91 : decode cX7_mixBlock 91 = .ok (.aload_n 0, 1) := by decide +kernel
theorem dX7_mixBlock_92 : decode cX7_mixBlock 92 = .ok (.iload_n 1, 1) := by decide +kernel
theorem dX7_mixBlock_93 : decode cX7_mixBlock 93 = .ok (.iload_n 2, 1) := by decide +kernel
theorem dX7_mixBlock_94 : decode cX7_mixBlock 94 = .ok (.bipush 6, 2) := by decide +kernel
theorem dX7_mixBlock_96 : decode cX7_mixBlock 96 = .ok (.irem, 1) := by decide +kernel
theorem dX7_mixBlock_97 : decode cX7_mixBlock 97 = .ok (.iload_n 2, 1) := by decide +kernel
theorem dX7_mixBlock_98 : decode cX7_mixBlock 98 = .ok (.bipush 6, 2) := by decide +kernel
theorem dX7_mixBlock_100 : decode cX7_mixBlock 100 = .ok (.idiv, 1) := by decide +kernel
theorem dX7_mixBlock_101 : decode cX7_mixBlock 101 = .ok (.iconst 2, 1) := by decide +kernel
theorem dX7_mixBlock_102 : decode cX7_mixBlock 102 = .ok (.imul, 1) := by decide +kernel
theorem dX7_mixBlock_103 : decode cX7_mixBlock 103 = .ok (.iconst 3, 1) := by decide +kernel
theorem dX7_mixBlock_104 : decode cX7_mixBlock 104 = .ok (.invokevirtual 200, 3) := by decide +kernel
theorem dX7_mixBlock_107 : decode cX7_mixBlock 107 = .ok (.i2l, 1) := by decide +kernel
theorem dX7_mixBlock_108 : decode cX7_mixBlock 108 = .ok (.invokevirtual 226, 3) := by decide +kernel
theorem dX7_mixBlock_111 : decode cX7_mixBlock 111 = .ok (.iinc 2 1, 3) := by decide +kernel
theorem dX7_mixBlock_114 : decode cX7_mixBlock 114 = .ok (.goto (-30), 3) := by decide +kernel
theorem dX7_mixBlock_117 : decode cX7_mixBlock 117 = .ok (.aload_n 0, 1) := by decide +kernel
theorem dX7_mixBlock_118 : decode cX7_mixBlock 118 = .ok (.aload_n 0, 1) := by decide +kernel
theorem dX7_mixBlock_119 : decode cX7_mixBlock 119 = .ok (.iload_n 1, 1) := by decide +kernel
theorem dX7_mixBlock_120 : decode cX7_mixBlock 120 = .ok (.bipush 20, 2) := by decide +kernel
theorem dX7_mixBlock_122 : decode cX7_mixBlock 122 = .ok (.invokevirtual 204, 3) := by decide +kernel
theorem dX7_mixBlock_125 : decode cX7_mixBlock 125 = .ok (.i2l, 1) := by decide +kernel
theorem dX7_mixBlock_126 : decode cX7_mixBlock 126 = .ok (.invokevirtual 226, 3) := by decide +kernel
theorem dX7_mixBlock_129 : decode cX7_mixBlock 129 = .ok (.aload_n 0, 1) := by decide +kernel
theorem dX7_mixBlock_130 : decode cX7_mixBlock 130 = .ok (.aload_n 0, 1) := by decide +kernel
theorem dX7_mixBlock_131 : decode cX7_mixBlock 131 = .ok (.iload_n 1, 1) := by decide +kernel
theorem dX7_mixBlock_132 : decode cX7_mixBlock 132 = .ok (.invokevirtual 207, 3) := by decide +kernel
theorem dX7_mixBlock_135 : decode cX7_mixBlock 135 = .ok (.i2l, 1) := by decide +kernel
theorem dX7_mixBlock_136 : decode cX7_mixBlock 136 = .ok (.invokevirtual 226, 3) := by decide +kernel
theorem dX7_mixBlock_139 : decode cX7_mixBlock 139 = .ok (.aload_n 0, 1) := by decide +kernel
theorem dX7_mixBlock_140 : decode cX7_mixBlock 140 = .ok (.aload_n 0, 1) := by decide +kernel
theorem dX7_mixBlock_141 : decode cX7_mixBlock 141 = .ok (.iload_n 1, 1) := by decide +kernel
theorem dX7_mixBlock_142 : decode cX7_mixBlock 142 = .ok (.iconst 0, 1) := by decide +kernel
theorem dX7_mixBlock_143 : decode cX7_mixBlock 143 = .ok (.invokevirtual 210, 3) := by decide +kernel
theorem dX7_mixBlock_146 : decode cX7_mixBlock 146 = .ok (.i2l, 1) := by decide +kernel
theorem dX7_mixBlock_147 : decode cX7_mixBlock 147 = .ok (.invokevirtual 226, 3) := by decide +kernel
theorem dX7_mixBlock_150 : decode cX7_mixBlock 150 = .ok (.aload_n 0, 1) := by decide +kernel
theorem dX7_mixBlock_151 : decode cX7_mixBlock 151 = .ok (.aload_n 0, 1) := by decide +kernel
theorem dX7_mixBlock_152 : decode cX7_mixBlock 152 = .ok (.iload_n 1, 1) := by decide +kernel
theorem dX7_mixBlock_153 : decode cX7_mixBlock 153 = .ok (.invokevirtual 213, 3) := by decide +kernel
theorem dX7_mixBlock_156 : decode cX7_mixBlock 156 = .ok (.i2l, 1) := by decide +kernel
theorem dX7_mixBlock_157 : decode cX7_mixBlock 157 = .ok (.invokevirtual 226, 3) := by decide +kernel
theorem dX7_mixBlock_160 : decode cX7_mixBlock 160 = .ok (.return_, 1) := by decide +kernel
theorem dX7_digest_0 : decode cX7_digest 0 = .ok (.aload_n 0, 1) := by decide +kernel
theorem dX7_digest_1 : decode cX7_digest 1 = .ok (.iconst 0, 1) := by decide +kernel
theorem dX7_digest_2 : decode cX7_digest 2 = .ok (.putfield 25, 3) := by decide +kernel
theorem dX7_digest_5 : decode cX7_digest 5 = .ok (.aload_n 0, 1) := by decide +kernel
theorem dX7_digest_6 : decode cX7_digest 6 = .ok (.ldc2_w 230, 3) := by decide +kernel
theorem dX7_digest_9 : decode cX7_digest 9 = .ok (.putfield 222, 3) := by decide +kernel
theorem dX7_digest_12 : decode cX7_digest 12 = .ok (.iconst 0, 1) := by decide +kernel
theorem dX7_digest_13 : decode cX7_digest 13 = .ok (.istore_n 1, 1) := by decide +kernel
theorem dX7_digest_14 : decode cX7_digest 14 = .ok (.iload_n 1, 1) := by decide +kernel
theorem dX7_digest_15 : decode cX7_digest 15 = .ok (.bipush 16, 2) := by decide +kernel
theorem dX7_digest_17 : decode cX7_digest 17 = .ok (.if_icmp .ge 19, 3) := by decide +kernel
theorem dX7_digest_20 : decode cX7_digest 20 = .ok (.aload_n 0, 1) := by decide +kernel
theorem dX7_digest_21 : decode cX7_digest 21 = .ok (.aload_n 0, 1) := by decide +kernel
theorem dX7_digest_22 : decode cX7_digest 22 = .ok (.iload_n 1, 1) := by decide +kernel
theorem dX7_digest_23 : decode cX7_digest 23 = .ok (.invokevirtual 191, 3) := by decide +kernel
theorem dX7_digest_26 : decode cX7_digest 26 = .ok (.i2l, 1) := by decide +kernel
theorem dX7_digest_27 : decode cX7_digest 27 = .ok (.invokevirtual 226, 3) := by decide +kernel
theorem dX7_digest_30 : decode cX7_digest 30 = .ok (.iinc 1 1, 3) := by decide +kernel
theorem dX7_digest_33 : decode cX7_digest 33 = .ok (.goto (-19), 3) := by decide +kernel
theorem dX7_digest_36 : decode cX7_digest 36 = .ok (.aload_n 0, 1) := by decide +kernel
theorem dX7_digest_37 : decode cX7_digest 37 = .ok (.aload_n 0, 1) := by decide +kernel
theorem dX7_digest_38 : decode cX7_digest 38 = .ok (.getfield 7, 3) := by decide +kernel
theorem dX7_digest_41 : decode cX7_digest 41 = .ok (.iconst 0, 1) := by decide +kernel
theorem dX7_digest_42 : decode cX7_digest 42 = .ok (.iaload, 1) := by decide +kernel
theorem dX7_digest_43 : decode cX7_digest 43 = .ok (.i2l, 1) := by decide +kernel
theorem dX7_digest_44 : decode cX7_digest 44 = .ok (.invokevirtual 226, 3) := by decide +kernel
theorem dX7_digest_47 : decode cX7_digest 47 = .ok (.aload_n 0, 1) := by decide +kernel
theorem dX7_digest_48 : decode cX7_digest 48 = .ok (.aload_n 0, 1) := by decide +kernel
theorem dX7_digest_49 : decode cX7_digest 49 = .ok (.getfield 7, 3) := by decide +kernel
theorem dX7_digest_52 : decode cX7_digest 52 = .ok (.iconst 1, 1) := by decide +kernel
theorem dX7_digest_53 : decode cX7_digest 53 = .ok (.iaload, 1) := by decide +kernel
theorem dX7_digest_54 : decode cX7_digest 54 = .ok (.i2l, 1) := by decide +kernel
theorem dX7_digest_55 : decode cX7_digest 55 = .ok (.invokevirtual 226, 3) := by decide +kernel
theorem dX7_digest_58 : decode cX7_digest 58 = .ok (.iconst 0, 1) := by decide +kernel
theorem dX7_digest_59 : decode cX7_digest 59 = .ok (.istore_n 1, 1) := by decide +kernel
theorem dX7_digest_60 : decode cX7_digest 60 = .ok (.iload_n 1, 1) := by decide +kernel
theorem dX7_digest_61 : decode cX7_digest 61 = .ok (.aload_n 0, 1) := by decide +kernel
theorem dX7_digest_62 : decode cX7_digest 62 = .ok (.getfield 7, 3) := by decide +kernel
theorem dX7_digest_65 : decode cX7_digest 65 = .ok (.iconst 2, 1) := by decide +kernel
theorem dX7_digest_66 : decode cX7_digest 66 = .ok (.iaload, 1) := by decide +kernel
theorem dX7_digest_67 : decode cX7_digest 67 = .ok (.if_icmp .ge 14, 3) := by decide +kernel
theorem dX7_digest_70 : decode cX7_digest 70 = .ok (.aload_n 0, 1) := by decide +kernel
theorem dX7_digest_71 : decode cX7_digest 71 = .ok (.iload_n 1, 1) := by decide +kernel
theorem dX7_digest_72 : decode cX7_digest 72 = .ok (.invokevirtual 232, 3) := by decide +kernel
theorem dX7_digest_75 : decode cX7_digest 75 = .ok (.iinc 1 1, 3) := by decide +kernel
theorem dX7_digest_78 : decode cX7_digest 78 = .ok (.goto (-18), 3) := by decide +kernel
theorem dX7_digest_81 : decode cX7_digest 81 = .ok (.aload_n 0, 1) := by decide +kernel
theorem dX7_digest_82 : decode cX7_digest 82 = .ok (.aload_n 0, 1) := by decide +kernel
theorem dX7_digest_83 : decode cX7_digest 83 = .ok (.invokevirtual 216, 3) := by decide +kernel
theorem dX7_digest_86 : decode cX7_digest 86 = .ok (.invokestatic 235, 3) := by decide +kernel
theorem dX7_digest_89 : decode cX7_digest 89 = .ok (.invokevirtual 226, 3) := by decide +kernel
theorem dX7_digest_92 : decode cX7_digest 92 = .ok (.aload_n 0, 1) := by decide +kernel
theorem dX7_digest_93 : decode cX7_digest 93 = .ok (.aload_n 0, 1) := by decide +kernel
theorem dX7_digest_94 : decode cX7_digest 94 = .ok (.getfield 108, 3) := by decide +kernel
theorem dX7_digest_97 : decode cX7_digest 97 = .ok (.i2l, 1) := by decide +kernel
theorem dX7_digest_98 : decode cX7_digest 98 = .ok (.invokevirtual 226, 3) := by decide +kernel
theorem dX7_digest_101 : decode cX7_digest 101 = .ok (.iconst 0, 1) := by decide +kernel
theorem dX7_digest_102 : decode cX7_digest 102 = .ok (.istore_n 1, 1) := by decide +kernel
theorem dX7_digest_103 : decode cX7_digest 103 = .ok (.iload_n 1, 1) := by decide +kernel
theorem dX7_digest_104 : decode cX7_digest 104 = .ok (.aload_n 0, 1) := by decide +kernel
theorem dX7_digest_105 : decode cX7_digest 105 = .ok (.getfield 108, 3) := by decide +kernel
theorem dX7_digest_108 : decode cX7_digest 108 = .ok (.if_icmp .ge 20, 3) := by decide +kernel
theorem dX7_digest_111 : decode cX7_digest 111 = .ok (.aload_n 0, 1) := by decide +kernel
theorem dX7_digest_112 : decode cX7_digest 112 = .ok (.aload_n 0, 1) := by decide +kernel
theorem dX7_digest_113 : decode cX7_digest 113 = .ok (.getfield 16, 3) := by decide +kernel
theorem dX7_digest_116 : decode cX7_digest 116 = .ok (.iload_n 1, 1) := by decide +kernel
theorem dX7_digest_117 : decode cX7_digest 117 = .ok (.iaload, 1) := by decide +kernel
theorem dX7_digest_118 : decode cX7_digest 118 = .ok (.i2l, 1) := by decide +kernel
theorem dX7_digest_119 : decode cX7_digest 119 = .ok (.invokevirtual 226, 3) := by decide +kernel
theorem dX7_digest_122 : decode cX7_digest 122 = .ok (.iinc 1 1, 3) := by decide +kernel
theorem dX7_digest_125 : decode cX7_digest 125 = .ok (.goto (-22), 3) := by decide +kernel
theorem dX7_digest_128 : decode cX7_digest 128 = .ok (.aload_n 0, 1) := by decide +kernel
theorem dX7_digest_129 : decode cX7_digest 129 = .ok (.getfield 222, 3) := by decide +kernel
theorem dX7_digest_132 : decode cX7_digest 132 = .ok (.lreturn, 1) := by decide +kernel
