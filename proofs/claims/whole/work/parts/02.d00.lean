theorem dX0_init_0 : decode cX0_init 0 = .ok (.aload_n 0, 1) := by decide +kernel
theorem dX0_init_1 : decode cX0_init 1 = .ok (.invokespecial 3, 3) := by decide +kernel
theorem dX0_init_4 : decode cX0_init 4 = .ok (.return_, 1) := by decide +kernel
theorem dX0_find_0 : decode cX0_find 0 = .ok (.aload_n 0, 1) := by decide +kernel
theorem dX0_find_1 : decode cX0_find 1 = .ok (.aload_n 1, 1) := by decide +kernel
theorem dX0_find_2 : decode cX0_find 2 = .ok (.iload_n 2, 1) := by decide +kernel
theorem dX0_find_3 : decode cX0_find 3 = .ok (.invokevirtual 9, 3) := by decide +kernel
theorem dX0_find_6 : decode cX0_find 6 = .ok (.aload_n 0, 1) := by decide +kernel
theorem dX0_find_7 : decode cX0_find 7 = .ok (.iconst 0, 1) := by decide +kernel
theorem dX0_find_8 : decode cX0_find 8 = .ok (.iconst 1, 1) := by decide +kernel
theorem dX0_find_9 : decode cX0_find 9 = .ok (.iconst 0, 1) := by decide +kernel
theorem dX0_find_10 : decode cX0_find 10 = .ok (.invokevirtual 15, 3) := by decide +kernel
theorem dX0_find_13 : decode cX0_find 13 = .ok (.ifCond .eq 5, 3) := by decide +kernel
theorem dX0_find_16 : decode cX0_find 16 = .ok (.iconst 1, 1) := by decide +kernel
theorem dX0_find_17 : decode cX0_find 17 = .ok (.ireturn, 1) := by decide +kernel
theorem dX0_find_18 : decode cX0_find 18 = .ok (.iconst 1, 1) := by decide +kernel
theorem dX0_find_19 : decode cX0_find 19 = .ok (.istore_n 3, 1) := by decide +kernel
theorem dX0_find_20 : decode cX0_find 20 = .ok (.iload_n 3, 1) := by decide +kernel
theorem dX0_find_21 : decode cX0_find 21 = .ok (.bipush 9, 2) := by decide +kernel
theorem dX0_find_23 : decode cX0_find 23 = .ok (.if_icmp .gt 64, 3) := by decide +kernel
theorem dX0_find_26 : decode cX0_find 26 = .ok (.iload_n 3, 1) := by decide +kernel
theorem dX0_find_27 : decode cX0_find 27 = .ok (.istore 4, 2) := by decide +kernel
theorem dX0_find_29 : decode cX0_find 29 = .ok (.iload 4, 2) := by decide +kernel
theorem dX0_find_31 : decode cX0_find 31 = .ok (.ifCond .le 22, 3) := by decide +kernel
theorem dX0_find_34 : decode cX0_find 34 = .ok (.aload_n 0, 1) := by decide +kernel
theorem dX0_find_35 : decode cX0_find 35 = .ok (.iload_n 3, 1) := by decide +kernel
theorem dX0_find_36 : decode cX0_find 36 = .ok (.iconst 1, 1) := by decide +kernel
theorem dX0_find_37 : decode cX0_find 37 = .ok (.iload 4, 2) := by decide +kernel
theorem dX0_find_39 : decode cX0_find 39 = .ok (.invokevirtual 15, 3) := by decide +kernel
theorem dX0_find_42 : decode cX0_find 42 = .ok (.ifCond .eq 5, 3) := by decide +kernel
theorem dX0_find_45 : decode cX0_find 45 = .ok (.iconst 1, 1) := by decide +kernel
theorem dX0_find_46 : decode cX0_find 46 = .ok (.ireturn, 1) := by decide +kernel
theorem dX0_find_47 : decode cX0_find 47 = .ok (.iinc 4 (-1), 3) := by decide +kernel
theorem dX0_find_50 : decode cX0_find 50 = .ok (.goto (-21), 3) := by decide +kernel
theorem dX0_find_53 : decode cX0_find 53 = .ok (.iconst 1, 1) := by decide +kernel
theorem dX0_find_54 : decode cX0_find 54 = .ok (.istore 4, 2) := by decide +kernel
theorem dX0_find_56 : decode cX0_find 56 = .ok (.iload 4, 2) := by decide +kernel
theorem dX0_find_58 : decode cX0_find 58 = .ok (.iload_n 3, 1) := by decide +kernel
theorem dX0_find_59 : decode cX0_find 59 = .ok (.if_icmp .gt 22, 3) := by decide +kernel
theorem dX0_find_62 : decode cX0_find 62 = .ok (.aload_n 0, 1) := by decide +kernel
theorem dX0_find_63 : decode cX0_find 63 = .ok (.iload_n 3, 1) := by decide +kernel
theorem dX0_find_64 : decode cX0_find 64 = .ok (.iconst (-1), 1) := by decide +kernel
theorem dX0_find_65 : decode cX0_find 65 = .ok (.iload 4, 2) := by decide +kernel
theorem dX0_find_67 : decode cX0_find 67 = .ok (.invokevirtual 15, 3) := by decide +kernel
theorem dX0_find_70 : decode cX0_find 70 = .ok (.ifCond .eq 5, 3) := by decide +kernel
theorem dX0_find_73 : decode cX0_find 73 = .ok (.iconst 1, 1) := by decide +kernel
theorem dX0_find_74 : decode cX0_find 74 = .ok (.ireturn, 1) := by decide +kernel
theorem dX0_find_75 : decode cX0_find 75 = .ok (.iinc 4 1, 3) := by decide +kernel
theorem dX0_find_78 : decode cX0_find 78 = .ok (.goto (-22), 3) := by decide +kernel
theorem dX0_find_81 : decode cX0_find 81 = .ok (.iinc 3 1, 3) := by decide +kernel
theorem dX0_find_84 : decode cX0_find 84 = .ok (.goto (-64), 3) := by decide +kernel
theorem dX0_find_87 : decode cX0_find 87 = .ok (.iconst 0, 1) := by decide +kernel
theorem dX0_find_88 : decode cX0_find 88 = .ok (.ireturn, 1) := by decide +kernel
theorem dX0_step_0 : decode cX0_step 0 = .ok (.iload_n 1, 1) := by decide +kernel
theorem dX0_step_1 : decode cX0_step 1 = .ok (.aload_n 0, 1) := by decide +kernel
theorem dX0_step_2 : decode cX0_step 2 = .ok (.getfield 19, 3) := by decide +kernel
theorem dX0_step_5 : decode cX0_step 5 = .ok (.if_icmp .ge 10, 3) := by decide +kernel
theorem dX0_step_8 : decode cX0_step 8 = .ok (.aload_n 0, 1) := by decide +kernel
theorem dX0_step_9 : decode cX0_step 9 = .ok (.getfield 23, 3) := by decide +kernel
theorem dX0_step_12 : decode cX0_step 12 = .ok (.goto 8, 3) := by decide +kernel
theorem dX0_step_15 : decode cX0_step 15 = .ok (.aload_n 0, 1) := by decide +kernel
theorem dX0_step_16 : decode cX0_step 16 = .ok (.getfield 23, 3) := by decide +kernel
theorem dX0_step_19 : decode cX0_step 19 = .ok (.ineg, 1) := by decide +kernel
theorem dX0_step_20 : decode cX0_step 20 = .ok (.ireturn, 1) := by decide +kernel
theorem dX0_look_0 : decode cX0_look 0 = .ok (.aload_n 0, 1) := by decide +kernel
theorem dX0_look_1 : decode cX0_look 1 = .ok (.aload_n 1, 1) := by decide +kernel
theorem dX0_look_2 : decode cX0_look 2 = .ok (.iload_n 2, 1) := by decide +kernel
theorem dX0_look_3 : decode cX0_look 3 = .ok (.invokevirtual 26, 3) := by decide +kernel
theorem dX0_look_6 : decode cX0_look 6 = .ok (.putfield 32, 3) := by decide +kernel
theorem dX0_look_9 : decode cX0_look 9 = .ok (.aload_n 0, 1) := by decide +kernel
theorem dX0_look_10 : decode cX0_look 10 = .ok (.iconst 0, 1) := by decide +kernel
theorem dX0_look_11 : decode cX0_look 11 = .ok (.putfield 35, 3) := by decide +kernel
theorem dX0_look_14 : decode cX0_look 14 = .ok (.aload_n 0, 1) := by decide +kernel
theorem dX0_look_15 : decode cX0_look 15 = .ok (.iconst 0, 1) := by decide +kernel
theorem dX0_look_16 : decode cX0_look 16 = .ok (.putfield 38, 3) := by decide +kernel
theorem dX0_look_19 : decode cX0_look 19 = .ok (.iconst 0, 1) := by decide +kernel
theorem dX0_look_20 : decode cX0_look 20 = .ok (.istore_n 3, 1) := by decide +kernel
theorem dX0_look_21 : decode cX0_look 21 = .ok (.iload_n 3, 1) := by decide +kernel
theorem dX0_look_22 : decode cX0_look 22 = .ok (.aload_n 1, 1) := by decide +kernel
theorem dX0_look_23 : decode cX0_look 23 = .ok (.getfield 41, 3) := by decide +kernel
theorem dX0_look_26 : decode cX0_look 26 = .ok (.if_icmp .ge 65, 3) := by decide +kernel
theorem dX0_look_29 : decode cX0_look 29 = .ok (.iload_n 3, 1) := by decide +kernel
theorem dX0_look_30 : decode cX0_look 30 = .ok (.iload_n 2, 1) := by decide +kernel
theorem dX0_look_31 : decode cX0_look 31 = .ok (.if_icmp .eq 54, 3) := by decide +kernel
theorem dX0_look_34 : decode cX0_look 34 = .ok (.aload_n 1, 1) := by decide +kernel
theorem dX0_look_35 : decode cX0_look 35 = .ok (.iload_n 3, 1) := by decide +kernel
theorem dX0_look_36 : decode cX0_look 36 = .ok (.invokevirtual 44, 3) := by decide +kernel
theorem dX0_look_39 : decode cX0_look 39 = .ok (.ifCond .eq 46, 3) := by decide +kernel
theorem dX0_look_42 : decode cX0_look 42 = .ok (.iconst 1, 1) := by decide +kernel
theorem dX0_look_43 : decode cX0_look 43 = .ok (.aload_n 1, 1) := by decide +kernel
theorem dX0_look_44 : decode cX0_look 44 = .ok (.iload_n 3, 1) := by decide +kernel
theorem dX0_look_45 : decode cX0_look 45 = .ok (.invokevirtual 26, 3) := by decide +kernel
theorem dX0_look_48 : decode cX0_look 48 = .ok (.ishl, 1) := by decide +kernel
theorem dX0_look_49 : decode cX0_look 49 = .ok (.istore 4, 2) := by decide +kernel
theorem dX0_look_51 : decode cX0_look 51 = .ok (.aload_n 1, 1) := by decide +kernel
theorem dX0_look_52 : decode cX0_look 52 = .ok (.iload_n 2, 1) := by decide +kernel
theorem dX0_look_53 : decode cX0_look 53 = .ok (.iload_n 3, 1) := by decide +kernel
theorem dX0_look_54 : decode cX0_look 54 = .ok (.invokevirtual 48, 3) := by decide +kernel
theorem dX0_look_57 : decode cX0_look 57 = .ok (.ifCond .le 17, 3) := by decide +kernel
theorem dX0_look_60 : decode cX0_look 60 = .ok (.aload_n 0, 1) := by decide +kernel
theorem dX0_look_61 : decode cX0_look 61 = .ok (.dup, 1) := by decide +kernel
theorem dX0_look_62 : decode cX0_look 62 = .ok (.getfield 35, 3) := by decide +kernel
theorem dX0_look_65 : decode cX0_look 65 = .ok (.iload 4, 2) := by decide +kernel
theorem dX0_look_67 : decode cX0_look 67 = .ok (.ior, 1) := by decide +kernel
theorem dX0_look_68 : decode cX0_look 68 = .ok (.putfield 35, 3) := by decide +kernel
theorem dX0_look_71 : decode cX0_look 71 = .ok (.goto 14, 3) := by decide +kernel
theorem dX0_look_74 : decode cX0_look 74 = .ok (.aload_n 0, 1) := by decide +kernel
theorem dX0_look_75 : decode cX0_look 75 = .ok (.dup, 1) := by decide +kernel
theorem dX0_look_76 : decode cX0_look 76 = .ok (.getfield 38, 3) := by decide +kernel
theorem dX0_look_79 : decode cX0_look 79 = .ok (.iload 4, 2) := by decide +kernel
theorem dX0_look_81 : decode cX0_look 81 = .ok (.ior, 1) := by decide +kernel
theorem dX0_look_82 : decode cX0_look 82 = .ok (.putfield 38, 3) := by decide +kernel
theorem dX0_look_85 : decode cX0_look 85 = .ok (.iinc 3 1, 3) := by decide +kernel
theorem dX0_look_88 : decode cX0_look 88 = .ok (.goto (-67), 3) := by decide +kernel
theorem dX0_look_91 : decode cX0_look 91 = .ok (.aload_n 0, 1) := by decide +kernel
theorem dX0_look_92 : decode cX0_look 92 = .ok (.dup, 1) := by decide +kernel
theorem dX0_look_93 : decode cX0_look 93 = .ok (.getfield 38, 3) := by decide +kernel
theorem dX0_look_96 : decode cX0_look 96 = .ok (.aload_n 0, 1) := by decide +kernel
theorem dX0_look_97 : decode cX0_look 97 = .ok (.getfield 35, 3) := by decide +kernel
theorem dX0_look_100 : decode cX0_look 100 = .ok (.iconst (-1), 1) := by decide +kernel
theorem dX0_look_101 : decode cX0_look 101 = .ok (.ixor, 1) := by decide +kernel
theorem dX0_look_102 : decode cX0_look 102 = .ok (.iand, 1) := by decide +kernel
theorem dX0_look_103 : decode cX0_look 103 = .ok (.putfield 38, 3) := by decide +kernel
theorem dX0_look_106 : decode cX0_look 106 = .ok (.return_, 1) := by decide +kernel
theorem dX0_reaches_0 : decode cX0_reaches 0 = .ok (.aload_n 0, 1) := by decide +kernel
theorem dX0_reaches_1 : decode cX0_reaches 1 = .ok (.iload_n 1, 1) := by decide +kernel
theorem dX0_reaches_2 : decode cX0_reaches 2 = .ok (.putfield 52, 3) := by decide +kernel
theorem dX0_reaches_5 : decode cX0_reaches 5 = .ok (.aload_n 0, 1) := by decide +kernel
theorem dX0_reaches_6 : decode cX0_reaches 6 = .ok (.iload_n 2, 1) := by decide +kernel
theorem dX0_reaches_7 : decode cX0_reaches 7 = .ok (.putfield 23, 3) := by decide +kernel
theorem dX0_reaches_10 : decode cX0_reaches 10 = .ok (.aload_n 0, 1) := by decide +kernel
theorem dX0_reaches_11 : decode cX0_reaches 11 = .ok (.iload_n 3, 1) := by decide +kernel
theorem dX0_reaches_12 : decode cX0_reaches 12 = .ok (.putfield 19, 3) := by decide +kernel
theorem dX0_reaches_15 : decode cX0_reaches 15 = .ok (.aload_n 0, 1) := by decide +kernel
theorem dX0_reaches_16 : decode cX0_reaches 16 = .ok (.getfield 32, 3) := by decide +kernel
theorem dX0_reaches_19 : decode cX0_reaches 19 = .ok (.istore 4, 2) := by decide +kernel
theorem dX0_reaches_21 : decode cX0_reaches 21 = .ok (.iconst 1, 1) := by decide +kernel
theorem dX0_reaches_22 : decode cX0_reaches 22 = .ok (.iload 4, 2) := by decide +kernel
theorem dX0_reaches_24 : decode cX0_reaches 24 = .ok (.ishl, 1) := by decide +kernel
theorem dX0_reaches_25 : decode cX0_reaches 25 = .ok (.istore 5, 2) := by decide +kernel
theorem dX0_reaches_27 : decode cX0_reaches 27 = .ok (.iconst 0, 1) := by decide +kernel
theorem dX0_reaches_28 : decode cX0_reaches 28 = .ok (.istore 6, 2) := by decide +kernel
theorem dX0_reaches_30 : decode cX0_reaches 30 = .ok (.iload 6, 2) := by decide +kernel
theorem dX0_reaches_32 : decode cX0_reaches 32 = .ok (.iload_n 1, 1) := by decide +kernel
theorem dX0_reaches_33 : decode cX0_reaches 33 = .ok (.if_icmp .ge 48, 3) := by decide +kernel
theorem dX0_reaches_36 : decode cX0_reaches 36 = .ok (.iload 4, 2) := by decide +kernel
theorem dX0_reaches_38 : decode cX0_reaches 38 = .ok (.aload_n 0, 1) := by decide +kernel
theorem dX0_reaches_39 : decode cX0_reaches 39 = .ok (.iload 6, 2) := by decide +kernel
theorem dX0_reaches_41 : decode cX0_reaches 41 = .ok (.invokevirtual 55, 3) := by decide +kernel
theorem dX0_reaches_44 : decode cX0_reaches 44 = .ok (.iadd, 1) := by decide +kernel
theorem dX0_reaches_45 : decode cX0_reaches 45 = .ok (.bipush 8, 2) := by decide +kernel
theorem dX0_reaches_47 : decode cX0_reaches 47 = .ok (.invokestatic 58, 3) := by decide +kernel
theorem dX0_reaches_50 : decode cX0_reaches 50 = .ok (.istore 4, 2) := by decide +kernel
theorem dX0_reaches_52 : decode cX0_reaches 52 = .ok (.iload 5, 2) := by decide +kernel
theorem dX0_reaches_54 : decode cX0_reaches 54 = .ok (.iconst 1, 1) := by decide +kernel
theorem dX0_reaches_55 : decode cX0_reaches 55 = .ok (.iload 4, 2) := by decide +kernel
theorem dX0_reaches_57 : decode cX0_reaches 57 = .ok (.ishl, 1) := by decide +kernel
theorem dX0_reaches_58 : decode cX0_reaches 58 = .ok (.ior, 1) := by decide +kernel
theorem dX0_reaches_59 : decode cX0_reaches 59 = .ok (.istore 5, 2) := by decide +kernel
theorem dX0_reaches_61 : decode cX0_reaches 61 = .ok (.aload_n 0, 1) := by decide +kernel
theorem dX0_reaches_62 : decode cX0_reaches 62 = .ok (.getfield 38, 3) := by decide +kernel
theorem dX0_reaches_65 : decode cX0_reaches 65 = .ok (.iconst 1, 1) := by decide +kernel
theorem dX0_reaches_66 : decode cX0_reaches 66 = .ok (.iload 4, 2) := by decide +kernel
theorem dX0_reaches_68 : decode cX0_reaches 68 = .ok (.ishl, 1) := by decide +kernel
theorem dX0_reaches_69 : decode cX0_reaches 69 = .ok (.iand, 1) := by decide +kernel
theorem dX0_reaches_70 : decode cX0_reaches 70 = .ok (.ifCond .eq 5, 3) := by decide +kernel
theorem dX0_reaches_73 : decode cX0_reaches 73 = .ok (.iconst 0, 1) := by decide +kernel
theorem dX0_reaches_74 : decode cX0_reaches 74 = .ok (.ireturn, 1) := by decide +kernel
theorem dX0_reaches_75 : decode cX0_reaches 75 = .ok (.iinc 6 1, 3) := by decide +kernel
theorem dX0_reaches_78 : decode cX0_reaches 78 = .ok (.goto (-48), 3) := by decide +kernel
theorem dX0_reaches_81 : decode cX0_reaches 81 = .ok (.aload_n 0, 1) := by decide +kernel
theorem dX0_reaches_82 : decode cX0_reaches 82 = .ok (.getfield 35, 3) := by decide +kernel
theorem dX0_reaches_85 : decode cX0_reaches 85 = .ok (.iload 5, 2) := by decide +kernel
theorem dX0_reaches_87 : decode cX0_reaches 87 = .ok (.iconst (-1), 1) := by decide +kernel
theorem dX0_reaches_88 : decode cX0_reaches 88 = .ok (.ixor, 1) := by decide +kernel
theorem dX0_reaches_89 : decode cX0_reaches 89 = .ok (.iand, 1) := by decide +kernel
theorem dX0_reaches_90 : decode cX0_reaches 90 = .ok (.ifCond .ne 7, 3) := by decide +kernel
theorem dX0_reaches_93 : decode cX0_reaches 93 = .ok (.iconst 1, 1) := by decide +kernel
theorem dX0_reaches_94 : decode cX0_reaches 94 = .ok (.goto 4, 3) := by decide +kernel
theorem dX0_reaches_97 : decode cX0_reaches 97 = .ok (.iconst 0, 1) := by decide +kernel
theorem dX0_reaches_98 : decode cX0_reaches 98 = .ok (.ireturn, 1) := by decide +kernel
theorem dX1_init_0 : decode cX1_init 0 = .ok (.aload_n 0, 1) := by decide +kernel
theorem dX1_init_1 : decode cX1_init 1 = .ok (.invokespecial 3, 3) := by decide +kernel
theorem dX1_init_4 : decode cX1_init 4 = .ok (.aload_n 0, 1) := by decide +kernel
theorem dX1_init_5 : decode cX1_init 5 = .ok (.bipush 10, 2) := by decide +kernel
theorem dX1_init_7 : decode cX1_init 7 = .ok (.newarray .int, 2) := by decide +kernel
theorem dX1_init_9 : decode cX1_init 9 = .ok (.putfield 9, 3) := by decide +kernel
theorem dX1_init_12 : decode cX1_init 12 = .ok (.aload_n 0, 1) := by decide +kernel
theorem dX1_init_13 : decode cX1_init 13 = .ok (.bipush 64, 2) := by decide +kernel
theorem dX1_init_15 : decode cX1_init 15 = .ok (.newarray .int, 2) := by decide +kernel
theorem dX1_init_17 : decode cX1_init 17 = .ok (.putfield 15, 3) := by decide +kernel
theorem dX1_init_20 : decode cX1_init 20 = .ok (.aload_n 0, 1) := by decide +kernel
theorem dX1_init_21 : decode cX1_init 21 = .ok (.aload_n 1, 1) := by decide +kernel
theorem dX1_init_22 : decode cX1_init 22 = .ok (.putfield 18, 3) := by decide +kernel
theorem dX1_init_25 : decode cX1_init 25 = .ok (.aload_n 0, 1) := by decide +kernel
theorem dX1_init_26 : decode cX1_init 26 = .ok (.aload_n 2, 1) := by decide +kernel
theorem dX1_init_27 : decode cX1_init 27 = .ok (.putfield 22, 3) := by decide +kernel
theorem dX1_init_30 : decode cX1_init 30 = .ok (.aload_n 0, 1) := by decide +kernel
theorem dX1_init_31 : decode cX1_init 31 = .ok (.aload_n 3, 1) := by decide +kernel
theorem dX1_init_32 : decode cX1_init 32 = .ok (.putfield 26, 3) := by decide +kernel
theorem dX1_init_35 : decode cX1_init 35 = .ok (.return_, 1) := by decide +kernel
theorem dX1_rule_0 : decode cX1_rule 0 = .ok (.aload_n 0, 1) := by decide +kernel
theorem dX1_rule_1 : decode cX1_rule 1 = .ok (.aload_n 1, 1) := by decide +kernel
theorem dX1_rule_2 : decode cX1_rule 2 = .ok (.putfield 26, 3) := by decide +kernel
theorem dX1_rule_5 : decode cX1_rule 5 = .ok (.return_, 1) := by decide +kernel
theorem dX1_sizeOf_0 : decode cX1_sizeOf 0 = .ok (.aload_n 0, 1) := by decide +kernel
theorem dX1_sizeOf_1 : decode cX1_sizeOf 1 = .ok (.getfield 22, 3) := by decide +kernel
theorem dX1_sizeOf_4 : decode cX1_sizeOf 4 = .ok (.iload_n 1, 1) := by decide +kernel
theorem dX1_sizeOf_5 : decode cX1_sizeOf 5 = .ok (.iload_n 2, 1) := by decide +kernel
theorem dX1_sizeOf_6 : decode cX1_sizeOf 6 = .ok (.invokevirtual 30, 3) := by decide +kernel
theorem dX1_sizeOf_9 : decode cX1_sizeOf 9 = .ok (.istore_n 3, 1) := by decide +kernel
theorem dX1_sizeOf_10 : decode cX1_sizeOf 10 = .ok (.aload_n 0, 1) := by decide +kernel
theorem dX1_sizeOf_11 : decode cX1_sizeOf 11 = .ok (.sipush 128, 3) := by decide +kernel
theorem dX1_sizeOf_14 : decode cX1_sizeOf 14 = .ok (.invokevirtual 36, 3) := by decide +kernel
theorem dX1_sizeOf_17 : decode cX1_sizeOf 17 = .ok (.ifCond .eq 18, 3) := by decide +kernel
theorem dX1_sizeOf_20 : decode cX1_sizeOf 20 = .ok (.aload_n 0, 1) := by decide +kernel
theorem dX1_sizeOf_21 : decode cX1_sizeOf 21 = .ok (.iload_n 1, 1) := by decide +kernel
theorem dX1_sizeOf_22 : decode cX1_sizeOf 22 = .ok (.iload_n 2, 1) := by decide +kernel
theorem dX1_sizeOf_23 : decode cX1_sizeOf 23 = .ok (.iconst 0, 1) := by decide +kernel
theorem dX1_sizeOf_24 : decode cX1_sizeOf 24 = .ok (.invokevirtual 40, 3) := by decide +kernel
theorem dX1_sizeOf_27 : decode cX1_sizeOf 27 = .ok (.aload_n 0, 1) := by decide +kernel
theorem dX1_sizeOf_28 : decode cX1_sizeOf 28 = .ok (.sipush 128, 3) := by decide +kernel
theorem dX1_sizeOf_31 : decode cX1_sizeOf 31 = .ok (.invokevirtual 44, 3) := by decide +kernel
theorem dX1_sizeOf_34 : decode cX1_sizeOf 34 = .ok (.istore_n 3, 1) := by decide +kernel
theorem dX1_sizeOf_35 : decode cX1_sizeOf 35 = .ok (.iload_n 3, 1) := by decide +kernel
theorem dX1_sizeOf_36 : decode cX1_sizeOf 36 = .ok (.iconst 1, 1) := by decide +kernel
theorem dX1_sizeOf_37 : decode cX1_sizeOf 37 = .ok (.bipush 99, 2) := by decide +kernel
theorem dX1_sizeOf_39 : decode cX1_sizeOf 39 = .ok (.invokestatic 48, 3) := by decide +kernel
theorem dX1_sizeOf_42 : decode cX1_sizeOf 42 = .ok (.ireturn, 1) := by decide +kernel
theorem dX1_moreOf_0 : decode cX1_moreOf 0 = .ok (.iload_n 3, 1) := by decide +kernel
theorem dX1_moreOf_1 : decode cX1_moreOf 1 = .ok (.iload_n 3, 1) := by decide +kernel
theorem dX1_moreOf_2 : decode cX1_moreOf 2 = .ok (.bipush 10, 2) := by decide +kernel
theorem dX1_moreOf_4 : decode cX1_moreOf 4 = .ok (.idiv, 1) := by decide +kernel
theorem dX1_moreOf_5 : decode cX1_moreOf 5 = .ok (.iadd, 1) := by decide +kernel
theorem dX1_moreOf_6 : decode cX1_moreOf 6 = .ok (.iconst 1, 1) := by decide +kernel
theorem dX1_moreOf_7 : decode cX1_moreOf 7 = .ok (.iadd, 1) := by decide +kernel
theorem dX1_moreOf_8 : decode cX1_moreOf 8 = .ok (.istore 4, 2) := by decide +kernel
theorem dX1_moreOf_10 : decode cX1_moreOf 10 = .ok (.aload_n 0, 1) := by decide +kernel
theorem dX1_moreOf_11 : decode cX1_moreOf 11 = .ok (.sipush 129, 3) := by decide +kernel
theorem dX1_moreOf_14 : decode cX1_moreOf 14 = .ok (.invokevirtual 36, 3) := by decide +kernel
theorem dX1_moreOf_17 : decode cX1_moreOf 17 = .ok (.ifCond .eq 19, 3) := by decide +kernel
theorem dX1_moreOf_20 : decode cX1_moreOf 20 = .ok (.aload_n 0, 1) := by decide +kernel
theorem dX1_moreOf_21 : decode cX1_moreOf 21 = .ok (.iload_n 1, 1) := by decide +kernel
theorem dX1_moreOf_22 : decode cX1_moreOf 22 = .ok (.iload_n 2, 1) := by decide +kernel
theorem dX1_moreOf_23 : decode cX1_moreOf 23 = .ok (.iload_n 3, 1) := by decide +kernel
theorem dX1_moreOf_24 : decode cX1_moreOf 24 = .ok (.invokevirtual 40, 3) := by decide +kernel
theorem dX1_moreOf_27 : decode cX1_moreOf 27 = .ok (.aload_n 0, 1) := by decide +kernel
theorem dX1_moreOf_28 : decode cX1_moreOf 28 = .ok (.sipush 129, 3) := by decide +kernel
theorem dX1_moreOf_31 : decode cX1_moreOf 31 = .ok (.invokevirtual 44, 3) := by decide +kernel
theorem dX1_moreOf_34 : decode cX1_moreOf 34 = .ok (.istore 4, 2) := by decide +kernel
theorem dX1_moreOf_36 : decode cX1_moreOf 36 = .ok (.iload 4, 2) := by decide +kernel
theorem dX1_moreOf_38 : decode cX1_moreOf 38 = .ok (.iconst 0, 1) := by decide +kernel
theorem dX1_moreOf_39 : decode cX1_moreOf 39 = .ok (.sipush 9999, 3) := by decide +kernel
theorem dX1_moreOf_42 : decode cX1_moreOf 42 = .ok (.invokestatic 48, 3) := by decide +kernel
theorem dX1_moreOf_45 : decode cX1_moreOf 45 = .ok (.ireturn, 1) := by decide +kernel
theorem dX1_lateOf_0 : decode cX1_lateOf 0 = .ok (.iconst 2, 1) := by decide +kernel
theorem dX1_lateOf_1 : decode cX1_lateOf 1 = .ok (.aload_n 0, 1) := by decide +kernel
theorem dX1_lateOf_2 : decode cX1_lateOf 2 = .ok (.getfield 22, 3) := by decide +kernel
theorem dX1_lateOf_5 : decode cX1_lateOf 5 = .ok (.iload_n 1, 1) := by decide +kernel
theorem dX1_lateOf_6 : decode cX1_lateOf 6 = .ok (.iload_n 2, 1) := by decide +kernel
theorem dX1_lateOf_7 : decode cX1_lateOf 7 = .ok (.invokevirtual 30, 3) := by decide +kernel
theorem dX1_lateOf_10 : decode cX1_lateOf 10 = .ok (.imul, 1) := by decide +kernel
theorem dX1_lateOf_11 : decode cX1_lateOf 11 = .ok (.istore_n 3, 1) := by decide +kernel
theorem dX1_lateOf_12 : decode cX1_lateOf 12 = .ok (.aload_n 0, 1) := by decide +kernel
theorem dX1_lateOf_13 : decode cX1_lateOf 13 = .ok (.sipush 130, 3) := by decide +kernel
theorem dX1_lateOf_16 : decode cX1_lateOf 16 = .ok (.invokevirtual 36, 3) := by decide +kernel
theorem dX1_lateOf_19 : decode cX1_lateOf 19 = .ok (.ifCond .eq 18, 3) := by decide +kernel
theorem dX1_lateOf_22 : decode cX1_lateOf 22 = .ok (.aload_n 0, 1) := by decide +kernel
theorem dX1_lateOf_23 : decode cX1_lateOf 23 = .ok (.iload_n 1, 1) := by decide +kernel
theorem dX1_lateOf_24 : decode cX1_lateOf 24 = .ok (.iload_n 2, 1) := by decide +kernel
theorem dX1_lateOf_25 : decode cX1_lateOf 25 = .ok (.iconst 0, 1) := by decide +kernel
theorem dX1_lateOf_26 : decode cX1_lateOf 26 = .ok (.invokevirtual 40, 3) := by decide +kernel
theorem dX1_lateOf_29 : decode cX1_lateOf 29 = .ok (.aload_n 0, 1) := by decide +kernel
theorem dX1_lateOf_30 : decode cX1_lateOf 30 = .ok (.sipush 130, 3) := by decide +kernel
theorem dX1_lateOf_33 : decode cX1_lateOf 33 = .ok (.invokevirtual 44, 3) := by decide +kernel
theorem dX1_lateOf_36 : decode cX1_lateOf 36 = .ok (.istore_n 3, 1) := by decide +kernel
theorem dX1_lateOf_37 : decode cX1_lateOf 37 = .ok (.iload_n 3, 1) := by decide +kernel
theorem dX1_lateOf_38 : decode cX1_lateOf 38 = .ok (.iconst 0, 1) := by decide +kernel
theorem dX1_lateOf_39 : decode cX1_lateOf 39 = .ok (.sipush 9999, 3) := by decide +kernel
theorem dX1_lateOf_42 : decode cX1_lateOf 42 = .ok (.invokestatic 48, 3) := by decide +kernel
theorem dX1_lateOf_45 : decode cX1_lateOf 45 = .ok (.ireturn, 1) := by decide +kernel
theorem dX1_ruinOf_0 : decode cX1_ruinOf 0 = .ok (.sipush 300, 3) := by decide +kernel
theorem dX1_ruinOf_3 : decode cX1_ruinOf 3 = .ok (.istore_n 2, 1) := by decide +kernel
theorem dX1_ruinOf_4 : decode cX1_ruinOf 4 = .ok (.aload_n 0, 1) := by decide +kernel
theorem dX1_ruinOf_5 : decode cX1_ruinOf 5 = .ok (.sipush 131, 3) := by decide +kernel
theorem dX1_ruinOf_8 : decode cX1_ruinOf 8 = .ok (.invokevirtual 36, 3) := by decide +kernel
theorem dX1_ruinOf_11 : decode cX1_ruinOf 11 = .ok (.ifCond .eq 18, 3) := by decide +kernel
theorem dX1_ruinOf_14 : decode cX1_ruinOf 14 = .ok (.aload_n 0, 1) := by decide +kernel
theorem dX1_ruinOf_15 : decode cX1_ruinOf 15 = .ok (.iload_n 1, 1) := by decide +kernel
theorem dX1_ruinOf_16 : decode cX1_ruinOf 16 = .ok (.iconst (-1), 1) := by decide +kernel
theorem dX1_ruinOf_17 : decode cX1_ruinOf 17 = .ok (.iconst 0, 1) := by decide +kernel
theorem dX1_ruinOf_18 : decode cX1_ruinOf 18 = .ok (.invokevirtual 40, 3) := by decide +kernel
theorem dX1_ruinOf_21 : decode cX1_ruinOf 21 = .ok (.aload_n 0, 1) := by decide +kernel
theorem dX1_ruinOf_22 : decode cX1_ruinOf 22 = .ok (.sipush 131, 3) := by decide +kernel
theorem dX1_ruinOf_25 : decode cX1_ruinOf 25 = .ok (.invokevirtual 44, 3) := by decide +kernel
theorem dX1_ruinOf_28 : decode cX1_ruinOf 28 = .ok (.istore_n 2, 1) := by decide +kernel
theorem dX1_ruinOf_29 : decode cX1_ruinOf 29 = .ok (.iload_n 2, 1) := by decide +kernel
theorem dX1_ruinOf_30 : decode cX1_ruinOf 30 = .ok (.iconst 0, 1) := by decide +kernel
theorem dX1_ruinOf_31 : decode cX1_ruinOf 31 = .ok (.sipush 9999, 3) := by decide +kernel
theorem dX1_ruinOf_34 : decode cX1_ruinOf 34 = .ok (.invokestatic 48, 3) := by decide +kernel
theorem dX1_ruinOf_37 : decode cX1_ruinOf 37 = .ok (.ireturn, 1) := by decide +kernel
theorem dX1_has_0 : decode cX1_has 0 = .ok (.aload_n 0, 1) := by decide +kernel
theorem dX1_has_1 : decode cX1_has 1 = .ok (.getfield 26, 3) := by decide +kernel
theorem dX1_has_4 : decode cX1_has 4 = .ok (.ifnull 18, 3) := by decide +kernel
theorem dX1_has_7 : decode cX1_has 7 = .ok (.aload_n 0, 1) := by decide +kernel
theorem dX1_has_8 : decode cX1_has 8 = .ok (.getfield 26, 3) := by decide +kernel
theorem dX1_has_11 : decode cX1_has 11 = .ok (.iload_n 1, 1) := by decide +kernel
theorem dX1_has_12 : decode cX1_has 12 = .ok (.invokevirtual 52, 3) := by decide +kernel
theorem dX1_has_15 : decode cX1_has 15 = .ok (.ifCond .eq 7, 3) := by decide +kernel
theorem dX1_has_18 : decode cX1_has 18 = .ok (.iconst 1, 1) := by decide +kernel
theorem dX1_has_19 : decode cX1_has 19 = .ok (.goto 4, 3) := by decide +kernel
theorem dX1_has_22 : decode cX1_has 22 = .ok (.iconst 0, 1) := by decide +kernel
theorem dX1_has_23 : decode cX1_has 23 = .ok (.ireturn, 1) := by decide +kernel
theorem dX1_name_0 : decode cX1_name 0 = .ok (.aload_n 0, 1) := by decide +kernel
theorem dX1_name_1 : decode cX1_name 1 = .ok (.getfield 9, 3) := by decide +kernel
theorem dX1_name_4 : decode cX1_name 4 = .ok (.iconst 0, 1) := by decide +kernel
theorem dX1_name_5 : decode cX1_name 5 = .ok (.aload_n 0, 1) := by decide +kernel
theorem dX1_name_6 : decode cX1_name 6 = .ok (.getfield 22, 3) := by decide +kernel
theorem dX1_name_9 : decode cX1_name 9 = .ok (.getfield 55, 3) := by decide +kernel
theorem dX1_name_12 : decode cX1_name 12 = .ok (.iastore, 1) := by decide +kernel
theorem dX1_name_13 : decode cX1_name 13 = .ok (.aload_n 0, 1) := by decide +kernel
theorem dX1_name_14 : decode cX1_name 14 = .ok (.getfield 9, 3) := by decide +kernel
theorem dX1_name_17 : decode cX1_name 17 = .ok (.iconst 1, 1) := by decide +kernel
theorem dX1_name_18 : decode cX1_name 18 = .ok (.aload_n 0, 1) := by decide +kernel
theorem dX1_name_19 : decode cX1_name 19 = .ok (.getfield 22, 3) := by decide +kernel
theorem dX1_name_22 : decode cX1_name 22 = .ok (.iload_n 1, 1) := by decide +kernel
theorem dX1_name_23 : decode cX1_name 23 = .ok (.invokevirtual 59, 3) := by decide +kernel
theorem dX1_name_26 : decode cX1_name 26 = .ok (.iastore, 1) := by decide +kernel
theorem dX1_name_27 : decode cX1_name 27 = .ok (.aload_n 0, 1) := by decide +kernel
theorem dX1_name_28 : decode cX1_name 28 = .ok (.getfield 9, 3) := by decide +kernel
theorem dX1_name_31 : decode cX1_name 31 = .ok (.iconst 2, 1) := by decide +kernel
theorem dX1_name_32 : decode cX1_name 32 = .ok (.aload_n 0, 1) := by decide +kernel
theorem dX1_name_33 : decode cX1_name 33 = .ok (.getfield 22, 3) := by decide +kernel
theorem dX1_name_36 : decode cX1_name 36 = .ok (.getfield 62, 3) := by decide +kernel
theorem dX1_name_39 : decode cX1_name 39 = .ok (.iastore, 1) := by decide +kernel
theorem dX1_name_40 : decode cX1_name 40 = .ok (.aload_n 0, 1) := by decide +kernel
theorem dX1_name_41 : decode cX1_name 41 = .ok (.getfield 9, 3) := by decide +kernel
theorem dX1_name_44 : decode cX1_name 44 = .ok (.iconst 3, 1) := by decide +kernel
theorem dX1_name_45 : decode cX1_name 45 = .ok (.iload_n 1, 1) := by decide +kernel
theorem dX1_name_46 : decode cX1_name 46 = .ok (.iastore, 1) := by decide +kernel
theorem dX1_name_47 : decode cX1_name 47 = .ok (.aload_n 0, 1) := by decide +kernel
theorem dX1_name_48 : decode cX1_name 48 = .ok (.getfield 9, 3) := by decide +kernel
theorem dX1_name_51 : decode cX1_name 51 = .ok (.iconst 4, 1) := by decide +kernel
theorem dX1_name_52 : decode cX1_name 52 = .ok (.aload_n 0, 1) := by decide +kernel
theorem dX1_name_53 : decode cX1_name 53 = .ok (.getfield 18, 3) := by decide +kernel
theorem dX1_name_56 : decode cX1_name 56 = .ok (.iload_n 1, 1) := by decide +kernel
theorem dX1_name_57 : decode cX1_name 57 = .ok (.invokevirtual 65, 3) := by decide +kernel
theorem dX1_name_60 : decode cX1_name 60 = .ok (.iastore, 1) := by decide +kernel
theorem dX1_name_61 : decode cX1_name 61 = .ok (.aload_n 0, 1) := by decide +kernel
theorem dX1_name_62 : decode cX1_name 62 = .ok (.getfield 9, 3) := by decide +kernel
theorem dX1_name_65 : decode cX1_name 65 = .ok (.iconst 5, 1) := by decide +kernel
theorem dX1_name_66 : decode cX1_name 66 = .ok (.iload_n 2, 1) := by decide +kernel
theorem dX1_name_67 : decode cX1_name 67 = .ok (.iastore, 1) := by decide +kernel
theorem dX1_name_68 : decode cX1_name 68 = .ok (.aload_n 0, 1) := by decide +kernel
theorem dX1_name_69 : decode cX1_name 69 = .ok (.getfield 9, 3) := by decide +kernel
theorem dX1_name_72 : decode cX1_name 72 = .ok (.bipush 6, 2) := by decide +kernel
theorem dX1_name_74 : decode cX1_name 74 = .ok (.aload_n 0, 1) := by decide +kernel
theorem dX1_name_75 : decode cX1_name 75 = .ok (.getfield 18, 3) := by decide +kernel
theorem dX1_name_78 : decode cX1_name 78 = .ok (.iload_n 2, 1) := by decide +kernel
theorem dX1_name_79 : decode cX1_name 79 = .ok (.invokevirtual 65, 3) := by decide +kernel
theorem dX1_name_82 : decode cX1_name 82 = .ok (.iastore, 1) := by decide +kernel
theorem dX1_name_83 : decode cX1_name 83 = .ok (.aload_n 0, 1) := by decide +kernel
theorem dX1_name_84 : decode cX1_name 84 = .ok (.getfield 9, 3) := by decide +kernel
theorem dX1_name_87 : decode cX1_name 87 = .ok (.bipush 7, 2) := by decide +kernel
theorem dX1_name_89 : decode cX1_name 89 = .ok (.aload_n 0, 1) := by decide +kernel
theorem dX1_name_90 : decode cX1_name 90 = .ok (.getfield 22, 3) := by decide +kernel
theorem dX1_name_93 : decode cX1_name 93 = .ok (.iload_n 1, 1) := by decide +kernel
theorem dX1_name_94 : decode cX1_name 94 = .ok (.iload_n 2, 1) := by decide +kernel
theorem dX1_name_95 : decode cX1_name 95 = .ok (.invokevirtual 30, 3) := by decide +kernel
theorem dX1_name_98 : decode cX1_name 98 = .ok (.iastore, 1) := by decide +kernel
theorem dX1_name_99 : decode cX1_name 99 = .ok (.aload_n 0, 1) := by decide +kernel
theorem dX1_name_100 : decode cX1_name 100 = .ok (.getfield 9, 3) := by decide +kernel
theorem dX1_name_103 : decode cX1_name 103 = .ok (.bipush 8, 2) := by decide +kernel
theorem dX1_name_105 : decode cX1_name 105 = .ok (.aload_n 0, 1) := by decide +kernel
theorem dX1_name_106 : decode cX1_name 106 = .ok (.getfield 22, 3) := by decide +kernel
theorem dX1_name_109 : decode cX1_name 109 = .ok (.iload_n 2, 1) := by decide +kernel
theorem dX1_name_110 : decode cX1_name 110 = .ok (.iload_n 1, 1) := by decide +kernel
theorem dX1_name_111 : decode cX1_name 111 = .ok (.invokevirtual 30, 3) := by decide +kernel
theorem dX1_name_114 : decode cX1_name 114 = .ok (.iastore, 1) := by decide +kernel
theorem dX1_name_115 : decode cX1_name 115 = .ok (.aload_n 0, 1) := by decide +kernel
theorem dX1_name_116 : decode cX1_name 116 = .ok (.getfield 9, 3) := by decide +kernel
theorem dX1_name_119 : decode cX1_name 119 = .ok (.bipush 9, 2) := by decide +kernel
theorem dX1_name_121 : decode cX1_name 121 = .ok (.iload_n 3, 1) := by decide +kernel
theorem dX1_name_122 : decode cX1_name 122 = .ok (.iastore, 1) := by decide +kernel
theorem dX1_name_123 : decode cX1_name 123 = .ok (.return_, 1) := by decide +kernel
theorem dX1_run_0 : decode cX1_run 0 = .ok (.aload_n 0, 1) := by decide +kernel
theorem dX1_run_1 : decode cX1_run 1 = .ok (.getfield 26, 3) := by decide +kernel
theorem dX1_run_4 : decode cX1_run 4 = .ok (.astore_n 2, 1) := by decide +kernel
theorem dX1_run_5 : decode cX1_run 5 = .ok (.aload_n 2, 1) := by decide +kernel
theorem dX1_run_6 : decode cX1_run 6 = .ok (.ifnonnull 5, 3) := by decide +kernel
theorem dX1_run_9 : decode cX1_run 9 = .ok (.iconst 0, 1) := by decide +kernel
theorem dX1_run_10 : decode cX1_run 10 = .ok (.ireturn, 1) := by decide +kernel
theorem dX1_run_11 : decode cX1_run 11 = .ok (.aload_n 0, 1) := by decide +kernel
theorem dX1_run_12 : decode cX1_run 12 = .ok (.iconst 0, 1) := by decide +kernel
theorem dX1_run_13 : decode cX1_run 13 = .ok (.putfield 70, 3) := by decide +kernel
theorem dX1_run_16 : decode cX1_run 16 = .ok (.aload_n 2, 1) := by decide +kernel
theorem dX1_run_17 : decode cX1_run 17 = .ok (.iload_n 1, 1) := by decide +kernel
theorem dX1_run_18 : decode cX1_run 18 = .ok (.invokevirtual 73, 3) := by decide +kernel
theorem dX1_run_21 : decode cX1_run 21 = .ok (.istore_n 3, 1) := by decide +kernel
theorem dX1_run_22 : decode cX1_run 22 = .ok (.aload_n 2, 1) := by decide +kernel
theorem dX1_run_23 : decode cX1_run 23 = .ok (.iload_n 1, 1) := by decide +kernel
theorem dX1_run_24 : decode cX1_run 24 = .ok (.invokevirtual 76, 3) := by decide +kernel
theorem dX1_run_27 : decode cX1_run 27 = .ok (.istore 4, 2) := by decide +kernel
theorem dX1_run_29 : decode cX1_run 29 = .ok (.sipush 300, 3) := by decide +kernel
theorem dX1_run_32 : decode cX1_run 32 = .ok (.istore 5, 2) := by decide +kernel
theorem dX1_run_34 : decode cX1_run 34 = .ok (.iload 5, 2) := by decide +kernel
theorem dX1_run_36 : decode cX1_run 36 = .ok (.ifCond .le 218, 3) := by decide +kernel
theorem dX1_run_39 : decode cX1_run 39 = .ok (.iload_n 3, 1) := by decide +kernel
theorem dX1_run_40 : decode cX1_run 40 = .ok (.iload 4, 2) := by decide +kernel
theorem dX1_run_42 : decode cX1_run 42 = .ok (.if_icmp .ge 212, 3) := by decide +kernel
theorem dX1_run_45 : decode cX1_run 45 = .ok (.aload_n 2, 1) := by decide +kernel
theorem dX1_run_46 : decode cX1_run 46 = .ok (.iload_n 3, 1) := by decide +kernel
theorem dX1_run_47 : decode cX1_run 47 = .ok (.invokevirtual 79, 3) := by decide +kernel
theorem dX1_run_50 : decode cX1_run 50 = .ok (.sipush 256, 3) := by decide +kernel
theorem dX1_run_53 : decode cX1_run 53 = .ok (.irem, 1) := by decide +kernel
theorem dX1_run_54 : decode cX1_run 54 = .ok (.istore 6, 2) := by decide +kernel
theorem dX1_run_56 : decode cX1_run 56 = .ok (.aload_n 2, 1) := by decide +kernel
theorem dX1_run_57 : decode cX1_run 57 = .ok (.iload_n 3, 1) := by decide +kernel
theorem dX1_run_58 : decode cX1_run 58 = .ok (.invokevirtual 79, 3) := by decide +kernel
theorem dX1_run_61 : decode cX1_run 61 = .ok (.sipush 256, 3) := by decide +kernel
theorem dX1_run_64 : decode cX1_run 64 = .ok (.idiv, 1) := by decide +kernel
theorem dX1_run_65 : decode cX1_run 65 = .ok (.istore 7, 2) := by decide +kernel
theorem dX1_run_67 : decode cX1_run 67 = .ok (.iinc 3 1, 3) := by decide +kernel
theorem dX1_run_70 : decode cX1_run 70 = .ok (.iload 6, 2) := by decide +kernel
theorem dX1_run_72 : decode cX1_run 72 = .ok (.iconst 2, 1) := by decide +kernel
theorem dX1_run_73 : decode cX1_run 73 = .ok (.if_icmp .ne 12, 3) := by decide +kernel
theorem dX1_run_76 : decode cX1_run 76 = .ok (.aload_n 0, 1) := by decide +kernel
theorem dX1_run_77 : decode cX1_run 77 = .ok (.iload 7, 2) := by decide +kernel
theorem dX1_run_79 : decode cX1_run 79 = .ok (.invokevirtual 82, 3) := by decide +kernel
theorem dX1_run_82 : decode cX1_run 82 = .ok (.goto 166, 3) := by decide +kernel
theorem dX1_run_85 : decode cX1_run 85 = .ok (.iload 6, 2) := by decide +kernel
theorem dX1_run_87 : decode cX1_run 87 = .ok (.sipush 139, 3) := by decide +kernel
theorem dX1_run_90 : decode cX1_run 90 = .ok (.sipush 148, 3) := by decide +kernel
theorem dX1_run_93 : decode cX1_run 93 = .ok (.invokestatic 86, 3) := by decide +kernel
theorem dX1_run_96 : decode cX1_run 96 = .ok (.ifCond .eq 21, 3) := by decide +kernel
theorem dX1_run_99 : decode cX1_run 99 = .ok (.aload_n 0, 1) := by decide +kernel
theorem dX1_run_100 : decode cX1_run 100 = .ok (.aload_n 0, 1) := by decide +kernel
theorem dX1_run_101 : decode cX1_run 101 = .ok (.getfield 9, 3) := by decide +kernel
theorem dX1_run_104 : decode cX1_run 104 = .ok (.iload 6, 2) := by decide +kernel
theorem dX1_run_106 : decode cX1_run 106 = .ok (.sipush 139, 3) := by decide +kernel
theorem dX1_run_109 : decode cX1_run 109 = .ok (.isub, 1) := by decide +kernel
theorem dX1_run_110 : decode cX1_run 110 = .ok (.iaload, 1) := by decide +kernel
theorem dX1_run_111 : decode cX1_run 111 = .ok (.invokevirtual 82, 3) := by decide +kernel
theorem dX1_run_114 : decode cX1_run 114 = .ok (.goto 134, 3) := by decide +kernel
theorem dX1_run_117 : decode cX1_run 117 = .ok (.iload 6, 2) := by decide +kernel
theorem dX1_run_119 : decode cX1_run 119 = .ok (.sipush 158, 3) := by decide +kernel
theorem dX1_run_122 : decode cX1_run 122 = .ok (.if_icmp .eq 18, 3) := by decide +kernel
theorem dX1_run_125 : decode cX1_run 125 = .ok (.iload 6, 2) := by decide +kernel
theorem dX1_run_127 : decode cX1_run 127 = .ok (.sipush 157, 3) := by decide +kernel
theorem dX1_run_130 : decode cX1_run 130 = .ok (.if_icmp .ne 16, 3) := by decide +kernel
theorem dX1_run_133 : decode cX1_run 133 = .ok (.aload_n 0, 1) := by decide +kernel
theorem dX1_run_134 : decode cX1_run 134 = .ok (.invokevirtual 90, 3) := by decide +kernel
theorem dX1_run_137 : decode cX1_run 137 = .ok (.ifCond .ne 9, 3) := by decide +kernel
theorem dX1_run_140 : decode cX1_run 140 = .ok (.iload 7, 2) := by decide +kernel
theorem dX1_run_142 : decode cX1_run 142 = .ok (.istore_n 3, 1) := by decide +kernel
theorem dX1_run_143 : decode cX1_run 143 = .ok (.goto 105, 3) := by decide +kernel
theorem dX1_run_146 : decode cX1_run 146 = .ok (.iload 6, 2) := by decide +kernel
theorem dX1_run_148 : decode cX1_run 148 = .ok (.sipush 155, 3) := by decide +kernel
theorem dX1_run_151 : decode cX1_run 151 = .ok (.if_icmp .ne 29, 3) := by decide +kernel
theorem dX1_run_154 : decode cX1_run 154 = .ok (.aload_n 0, 1) := by decide +kernel
theorem dX1_run_155 : decode cX1_run 155 = .ok (.invokevirtual 90, 3) := by decide +kernel
theorem dX1_run_158 : decode cX1_run 158 = .ok (.istore 8, 2) := by decide +kernel
theorem dX1_run_160 : decode cX1_run 160 = .ok (.aload_n 0, 1) := by decide +kernel
theorem dX1_run_161 : decode cX1_run 161 = .ok (.aload_n 0, 1) := by decide +kernel
theorem dX1_run_162 : decode cX1_run 162 = .ok (.getfield 22, 3) := by decide +kernel
theorem dX1_run_165 : decode cX1_run 165 = .ok (.aload_n 0, 1) := by decide +kernel
theorem dX1_run_166 : decode cX1_run 166 = .ok (.invokevirtual 90, 3) := by decide +kernel
theorem dX1_run_169 : decode cX1_run 169 = .ok (.iload 8, 2) := by decide +kernel
theorem dX1_run_171 : decode cX1_run 171 = .ok (.invokevirtual 30, 3) := by decide +kernel
theorem dX1_run_174 : decode cX1_run 174 = .ok (.invokevirtual 82, 3) := by decide +kernel
theorem dX1_run_177 : decode cX1_run 177 = .ok (.goto 71, 3) := by decide +kernel
theorem dX1_run_180 : decode cX1_run 180 = .ok (.iload 6, 2) := by decide +kernel
theorem dX1_run_182 : decode cX1_run 182 = .ok (.iconst 3, 1) := by decide +kernel
theorem dX1_run_183 : decode cX1_run 183 = .ok (.if_icmp .ne 15, 3) := by decide +kernel
theorem dX1_run_186 : decode cX1_run 186 = .ok (.aload_n 0, 1) := by decide +kernel
theorem dX1_run_187 : decode cX1_run 187 = .ok (.aload_n 0, 1) := by decide +kernel
theorem dX1_run_188 : decode cX1_run 188 = .ok (.invokevirtual 90, 3) := by decide +kernel
theorem dX1_run_191 : decode cX1_run 191 = .ok (.ineg, 1) := by decide +kernel
theorem dX1_run_192 : decode cX1_run 192 = .ok (.invokevirtual 82, 3) := by decide +kernel
theorem dX1_run_195 : decode cX1_run 195 = .ok (.goto 53, 3) := by decide +kernel
theorem dX1_run_198 : decode cX1_run 198 = .ok (.iload 6, 2) := by decide +kernel
theorem dX1_run_200 : decode cX1_run 200 = .ok (.sipush 154, 3) := by decide +kernel
theorem dX1_run_203 : decode cX1_run 203 = .ok (.if_icmp .ne 16, 3) := by decide +kernel
theorem dX1_run_206 : decode cX1_run 206 = .ok (.aload_n 0, 1) := by decide +kernel
theorem dX1_run_207 : decode cX1_run 207 = .ok (.iconst 1, 1) := by decide +kernel
theorem dX1_run_208 : decode cX1_run 208 = .ok (.aload_n 0, 1) := by decide +kernel
theorem dX1_run_209 : decode cX1_run 209 = .ok (.invokevirtual 90, 3) := by decide +kernel
theorem dX1_run_212 : decode cX1_run 212 = .ok (.isub, 1) := by decide +kernel
theorem dX1_run_213 : decode cX1_run 213 = .ok (.invokevirtual 82, 3) := by decide +kernel
theorem dX1_run_216 : decode cX1_run 216 = .ok (.goto 32, 3) := by decide +kernel
theorem dX1_run_219 : decode cX1_run 219 = .ok (.iload 6, 2) := by decide +kernel
theorem dX1_run_221 : decode cX1_run 221 = .ok (.sipush 157, 3) := by decide +kernel
theorem dX1_run_224 : decode cX1_run 224 = .ok (.if_icmp .eq 24, 3) := by decide +kernel
theorem dX1_run_227 : decode cX1_run 227 = .ok (.aload_n 0, 1) := by decide +kernel
theorem dX1_run_228 : decode cX1_run 228 = .ok (.invokevirtual 90, 3) := by decide +kernel
theorem dX1_run_231 : decode cX1_run 231 = .ok (.istore 8, 2) := by decide +kernel
theorem dX1_run_233 : decode cX1_run 233 = .ok (.aload_n 0, 1) := by decide +kernel
theorem dX1_run_234 : decode cX1_run 234 = .ok (.iload 6, 2) := by decide +kernel
theorem dX1_run_236 : decode cX1_run 236 = .ok (.aload_n 0, 1) := by decide +kernel
theorem dX1_run_237 : decode cX1_run 237 = .ok (.invokevirtual 90, 3) := by decide +kernel
theorem dX1_run_240 : decode cX1_run 240 = .ok (.iload 8, 2) := by decide +kernel
theorem dX1_run_242 : decode cX1_run 242 = .ok (.invokestatic 94, 3) := by decide +kernel
theorem dX1_run_245 : decode cX1_run 245 = .ok (.invokevirtual 82, 3) := by decide +kernel
theorem dX1_run_248 : decode cX1_run 248 = .ok (.iinc 5 (-1), 3) := by decide +kernel
theorem dX1_run_251 : decode cX1_run 251 = .ok (.goto (-217), 3) := by decide +kernel
theorem dX1_run_254 : decode cX1_run 254 = .ok (.aload_n 0, 1) := by decide +kernel
theorem dX1_run_255 : decode cX1_run 255 = .ok (.invokevirtual 90, 3) := by decide +kernel
theorem dX1_run_258 : decode cX1_run 258 = .ok (.ireturn, 1) := by decide +kernel
theorem dX1_push_0 : decode cX1_push 0 = .ok (.iconst 0, 1) := by decide +kernel
theorem dX1_push_1 : decode cX1_push 1 = .ok (.aload_n 0, 1) := by decide +kernel
theorem dX1_push_2 : decode cX1_push 2 = .ok (.getfield 70, 3) := by decide +kernel
theorem dX1_push_5 : decode cX1_push 5 = .ok (.if_icmp .gt 32, 3) := by decide +kernel
theorem dX1_push_8 : decode cX1_push 8 = .ok (.aload_n 0, 1) := by decide +kernel
theorem dX1_push_9 : decode cX1_push 9 = .ok (.getfield 70, 3) := by decide +kernel
theorem dX1_push_12 : decode cX1_push 12 = .ok (.bipush 64, 2) := by decide +kernel
theorem dX1_push_14 : decode cX1_push 14 = .ok (.if_icmp .ge 23, 3) := by decide +kernel
theorem dX1_push_17 : decode cX1_push 17 = .ok (.aload_n 0, 1) := by decide +kernel
theorem dX1_push_18 : decode cX1_push 18 = .ok (.getfield 15, 3) := by decide +kernel
theorem dX1_push_21 : decode cX1_push 21 = .ok (.aload_n 0, 1) := by decide +kernel
theorem dX1_push_22 : decode cX1_push 22 = .ok (.getfield 70, 3) := by decide +kernel
theorem dX1_push_25 : decode cX1_push 25 = .ok (.iload_n 1, 1) := by decide +kernel
theorem dX1_push_26 : decode cX1_push 26 = .ok (.iastore, 1) := by decide +kernel
theorem dX1_push_27 : decode cX1_push 27 = .ok (.aload_n 0, 1) := by decide +kernel
theorem dX1_push_28 : decode cX1_push 28 = .ok (.dup, 1) := by decide +kernel
theorem dX1_push_29 : decode cX1_push 29 = .ok (.getfield 70, 3) := by decide +kernel
theorem dX1_push_32 : decode cX1_push 32 = .ok (.iconst 1, 1) := by decide +kernel
theorem dX1_push_33 : decode cX1_push 33 = .ok (.iadd, 1) := by decide +kernel
theorem dX1_push_34 : decode cX1_push 34 = .ok (.putfield 70, 3) := by decide +kernel
theorem dX1_push_37 : decode cX1_push 37 = .ok (.return_, 1) := by decide +kernel
theorem dX1_pop_0 : decode cX1_pop 0 = .ok (.aload_n 0, 1) := by decide +kernel
theorem dX1_pop_1 : decode cX1_pop 1 = .ok (.getfield 70, 3) := by decide +kernel
theorem dX1_pop_4 : decode cX1_pop 4 = .ok (.ifCond .le 12, 3) := by decide +kernel
theorem dX1_pop_7 : decode cX1_pop 7 = .ok (.aload_n 0, 1) := by decide +kernel
theorem dX1_pop_8 : decode cX1_pop 8 = .ok (.getfield 70, 3) := by decide +kernel
theorem dX1_pop_11 : decode cX1_pop 11 = .ok (.bipush 64, 2) := by decide +kernel
theorem dX1_pop_13 : decode cX1_pop 13 = .ok (.if_icmp .le 5, 3) := by decide +kernel
theorem dX1_pop_16 : decode cX1_pop 16 = .ok (.iconst 0, 1) := by decide +kernel
theorem dX1_pop_17 : decode cX1_pop 17 = .ok (.ireturn, 1) := by decide +kernel
theorem dX1_pop_18 : decode cX1_pop 18 = .ok (.aload_n 0, 1) := by decide +kernel
theorem dX1_pop_19 : decode cX1_pop 19 = .ok (.dup, 1) := by decide +kernel
theorem dX1_pop_20 : decode cX1_pop 20 = .ok (.getfield 70, 3) := by decide +kernel
theorem dX1_pop_23 : decode cX1_pop 23 = .ok (.iconst 1, 1) := by decide +kernel
theorem dX1_pop_24 : decode cX1_pop 24 = .ok (.isub, 1) := by decide +kernel
theorem dX1_pop_25 : decode cX1_pop 25 = .ok (.putfield 70, 3) := by decide +kernel
theorem dX1_pop_28 : decode cX1_pop 28 = .ok (.aload_n 0, 1) := by decide +kernel
theorem dX1_pop_29 : decode cX1_pop 29 = .ok (.getfield 15, 3) := by decide +kernel
theorem dX1_pop_32 : decode cX1_pop 32 = .ok (.aload_n 0, 1) := by decide +kernel
theorem dX1_pop_33 : decode cX1_pop 33 = .ok (.getfield 70, 3) := by decide +kernel
theorem dX1_pop_36 : decode cX1_pop 36 = .ok (.iaload, 1) := by decide +kernel
theorem dX1_pop_37 : decode cX1_pop 37 = .ok (.ireturn, 1) := by decide +kernel
theorem dX1_joined_0 : decode cX1_joined 0 = .ok (.iload_n 0, 1) := by decide +kernel
theorem dX1_joined_1 : decode cX1_joined 1 = .ok (.lookupswitch 224 #[(4, 194), (5, 205), (35, 183), (42, 125), (43, 107), (45, 116), (47, 134), (60, 150), (61, 172), (62, 161), (152, 216), (153, 220)], 107) := by decide +kernel
theorem dX1_joined_108 : decode cX1_joined 108 = .ok (.iload_n 1, 1) := by decide +kernel
theorem dX1_joined_109 : decode cX1_joined 109 = .ok (.i2l, 1) := by decide +kernel
theorem dX1_joined_110 : decode cX1_joined 110 = .ok (.iload_n 2, 1) := by decide +kernel
theorem dX1_joined_111 : decode cX1_joined 111 = .ok (.i2l, 1) := by decide +kernel
theorem dX1_joined_112 : decode cX1_joined 112 = .ok (.ladd, 1) := by decide +kernel
theorem dX1_joined_113 : decode cX1_joined 113 = .ok (.lstore_n 3, 1) := by decide +kernel
theorem dX1_joined_114 : decode cX1_joined 114 = .ok (.goto 113, 3) := by decide +kernel
theorem dX1_joined_117 : decode cX1_joined 117 = .ok (.iload_n 1, 1) := by decide +kernel
theorem dX1_joined_118 : decode cX1_joined 118 = .ok (.i2l, 1) := by decide +kernel
theorem dX1_joined_119 : decode cX1_joined 119 = .ok (.iload_n 2, 1) := by decide +kernel
theorem dX1_joined_120 : decode cX1_joined 120 = .ok (.i2l, 1) := by decide +kernel
theorem dX1_joined_121 : decode cX1_joined 121 = .ok (.lsub, 1) := by decide +kernel
theorem dX1_joined_122 : decode cX1_joined 122 = .ok (.lstore_n 3, 1) := by decide +kernel
theorem dX1_joined_123 : decode cX1_joined 123 = .ok (.goto 104, 3) := by decide +kernel
theorem dX1_joined_126 : decode cX1_joined 126 = .ok (.iload_n 1, 1) := by decide +kernel
theorem dX1_joined_127 : decode cX1_joined 127 = .ok (.i2l, 1) := by decide +kernel
theorem dX1_joined_128 : decode cX1_joined 128 = .ok (.iload_n 2, 1) := by decide +kernel
theorem dX1_joined_129 : decode cX1_joined 129 = .ok (.i2l, 1) := by decide +kernel
theorem dX1_joined_130 : decode cX1_joined 130 = .ok (.lmul, 1) := by decide +kernel
theorem dX1_joined_131 : decode cX1_joined 131 = .ok (.lstore_n 3, 1) := by decide +kernel
theorem dX1_joined_132 : decode cX1_joined 132 = .ok (.goto 95, 3) := by decide +kernel
theorem dX1_joined_135 : decode cX1_joined 135 = .ok (.iload_n 2, 1) := by decide +kernel
theorem dX1_joined_136 : decode cX1_joined 136 = .ok (.ifCond .ne 7, 3) := by decide +kernel
theorem dX1_joined_139 : decode cX1_joined 139 = .ok (.lconst 0, 1) := by decide +kernel
theorem dX1_joined_140 : decode cX1_joined 140 = .ok (.goto 7, 3) := by decide +kernel
theorem dX1_joined_143 : decode cX1_joined 143 = .ok (.iload_n 1, 1) := by decide +kernel
theorem dX1_joined_144 : decode cX1_joined 144 = .ok (.iload_n 2, 1) := by decide +kernel
theorem dX1_joined_145 : decode cX1_joined 145 = .ok (.idiv, 1) := by decide +kernel
theorem dX1_joined_146 : decode cX1_joined 146 = .ok (.i2l, 1) := by decide +kernel
theorem dX1_joined_147 : decode cX1_joined 147 = .ok (.lstore_n 3, 1) := by decide +kernel
theorem dX1_joined_148 : decode cX1_joined 148 = .ok (.goto 79, 3) := by decide +kernel
theorem dX1_joined_151 : decode cX1_joined 151 = .ok (.iload_n 1, 1) := by decide +kernel
theorem dX1_joined_152 : decode cX1_joined 152 = .ok (.iload_n 2, 1) := by decide +kernel
theorem dX1_joined_153 : decode cX1_joined 153 = .ok (.if_icmp .ge 7, 3) := by decide +kernel
theorem dX1_joined_156 : decode cX1_joined 156 = .ok (.iconst 1, 1) := by decide +kernel
theorem dX1_joined_157 : decode cX1_joined 157 = .ok (.goto 4, 3) := by decide +kernel
theorem dX1_joined_160 : decode cX1_joined 160 = .ok (.iconst 0, 1) := by decide +kernel
theorem dX1_joined_161 : decode cX1_joined 161 = .ok (.ireturn, 1) := by decide +kernel
theorem dX1_joined_162 : decode cX1_joined 162 = .ok (.iload_n 1, 1) := by decide +kernel
theorem dX1_joined_163 : decode cX1_joined 163 = .ok (.iload_n 2, 1) := by decide +kernel
theorem dX1_joined_164 : decode cX1_joined 164 = .ok (.if_icmp .le 7, 3) := by decide +kernel
theorem dX1_joined_167 : decode cX1_joined 167 = .ok (.iconst 1, 1) := by decide +kernel
theorem dX1_joined_168 : decode cX1_joined 168 = .ok (.goto 4, 3) := by decide +kernel
theorem dX1_joined_171 : decode cX1_joined 171 = .ok (.iconst 0, 1) := by decide +kernel
theorem dX1_joined_172 : decode cX1_joined 172 = .ok (.ireturn, 1) := by decide +kernel
theorem dX1_joined_173 : decode cX1_joined 173 = .ok (.iload_n 1, 1) := by decide +kernel
theorem dX1_joined_174 : decode cX1_joined 174 = .ok (.iload_n 2, 1) := by decide +kernel
theorem dX1_joined_175 : decode cX1_joined 175 = .ok (.if_icmp .ne 7, 3) := by decide +kernel
theorem dX1_joined_178 : decode cX1_joined 178 = .ok (.iconst 1, 1) := by decide +kernel
theorem dX1_joined_179 : decode cX1_joined 179 = .ok (.goto 4, 3) := by decide +kernel
theorem dX1_joined_182 : decode cX1_joined 182 = .ok (.iconst 0, 1) := by decide +kernel
theorem dX1_joined_183 : decode cX1_joined 183 = .ok (.ireturn, 1) := by decide +kernel
theorem dX1_joined_184 : decode cX1_joined 184 = .ok (.iload_n 1, 1) := by decide +kernel
theorem dX1_joined_185 : decode cX1_joined 185 = .ok (.iload_n 2, 1) := by decide +kernel
theorem dX1_joined_186 : decode cX1_joined 186 = .ok (.if_icmp .eq 7, 3) := by decide +kernel
theorem dX1_joined_189 : decode cX1_joined 189 = .ok (.iconst 1, 1) := by decide +kernel
theorem dX1_joined_190 : decode cX1_joined 190 = .ok (.goto 4, 3) := by decide +kernel
theorem dX1_joined_193 : decode cX1_joined 193 = .ok (.iconst 0, 1) := by decide +kernel
theorem dX1_joined_194 : decode cX1_joined 194 = .ok (.ireturn, 1) := by decide +kernel
theorem dX1_joined_195 : decode cX1_joined 195 = .ok (.iload_n 1, 1) := by decide +kernel
theorem dX1_joined_196 : decode cX1_joined 196 = .ok (.iload_n 2, 1) := by decide +kernel
theorem dX1_joined_197 : decode cX1_joined 197 = .ok (.if_icmp .gt 7, 3) := by decide +kernel
theorem dX1_joined_200 : decode cX1_joined 200 = .ok (.iconst 1, 1) := by decide +kernel
theorem dX1_joined_201 : decode cX1_joined 201 = .ok (.goto 4, 3) := by decide +kernel
theorem dX1_joined_204 : decode cX1_joined 204 = .ok (.iconst 0, 1) := by decide +kernel
theorem dX1_joined_205 : decode cX1_joined 205 = .ok (.ireturn, 1) := by decide +kernel
theorem dX1_joined_206 : decode cX1_joined 206 = .ok (.iload_n 1, 1) := by decide +kernel
theorem dX1_joined_207 : decode cX1_joined 207 = .ok (.iload_n 2, 1) := by decide +kernel
theorem dX1_joined_208 : decode cX1_joined 208 = .ok (.if_icmp .lt 7, 3) := by decide +kernel
theorem dX1_joined_211 : decode cX1_joined 211 = .ok (.iconst 1, 1) := by decide +kernel
theorem dX1_joined_212 : decode cX1_joined 212 = .ok (.goto 4, 3) := by decide +kernel
theorem dX1_joined_215 : decode cX1_joined 215 = .ok (.iconst 0, 1) := by decide +kernel
theorem dX1_joined_216 : decode cX1_joined 216 = .ok (.ireturn, 1) := by decide +kernel
theorem dX1_joined_217 : decode cX1_joined 217 = .ok (.iload_n 1, 1) := by decide +kernel
theorem dX1_joined_218 : decode cX1_joined 218 = .ok (.iload_n 2, 1) := by decide +kernel
theorem dX1_joined_219 : decode cX1_joined 219 = .ok (.iand, 1) := by decide +kernel
theorem dX1_joined_220 : decode cX1_joined 220 = .ok (.ireturn, 1) := by decide +kernel
theorem dX1_joined_221 : decode cX1_joined 221 = .ok (.iload_n 1, 1) := by decide +kernel
theorem dX1_joined_222 : decode cX1_joined 222 = .ok (.iload_n 2, 1) := by decide +kernel
theorem dX1_joined_223 : decode cX1_joined 223 = .ok (.ior, 1) := by decide +kernel
theorem dX1_joined_224 : decode cX1_joined 224 = .ok (.ireturn, 1) := by decide +kernel
theorem dX1_joined_225 : decode cX1_joined 225 = .ok (.iconst 0, 1) := by decide +kernel
theorem dX1_joined_226 : decode cX1_joined 226 = .ok (.ireturn, 1) := by decide +kernel
theorem dX1_joined_227 : decode cX1_joined 227 = .ok (.ldc2_w 97, 3) := by decide +kernel
theorem dX1_joined_230 : decode cX1_joined 230 = .ok (.ldc2_w 99, 3) := by decide +kernel
theorem dX1_joined_233 : decode cX1_joined 233 = .ok (.lload_n 3, 1) := by decide +kernel
theorem dX1_joined_234 : decode cX1_joined 234 = .ok (.invokestatic 101, 3) := by decide +kernel
theorem dX1_joined_237 : decode cX1_joined 237 = .ok (.invokestatic 107, 3) := by decide +kernel
theorem dX1_joined_240 : decode cX1_joined 240 = .ok (.l2i, 1) := by decide +kernel
theorem dX1_joined_241 : decode cX1_joined 241 = .ok (.ireturn, 1) := by decide +kernel
theorem dX2_init_0 : decode cX2_init 0 = .ok (.aload_n 0, 1) := by decide +kernel
theorem dX2_init_1 : decode cX2_init 1 = .ok (.invokespecial 3, 3) := by decide +kernel
theorem dX2_init_4 : decode cX2_init 4 = .ok (.aload_n 0, 1) := by decide +kernel
theorem dX2_init_5 : decode cX2_init 5 = .ok (.bipush 10, 2) := by decide +kernel
theorem dX2_init_7 : decode cX2_init 7 = .ok (.newarray .int, 2) := by decide +kernel
theorem dX2_init_9 : decode cX2_init 9 = .ok (.putfield 11, 3) := by decide +kernel
theorem dX2_init_12 : decode cX2_init 12 = .ok (.aload_n 0, 1) := by decide +kernel
theorem dX2_init_13 : decode cX2_init 13 = .ok (.bipush 10, 2) := by decide +kernel
theorem dX2_init_15 : decode cX2_init 15 = .ok (.newarray .int, 2) := by decide +kernel
theorem dX2_init_17 : decode cX2_init 17 = .ok (.putfield 15, 3) := by decide +kernel
theorem dX2_init_20 : decode cX2_init 20 = .ok (.aload_n 0, 1) := by decide +kernel
theorem dX2_init_21 : decode cX2_init 21 = .ok (.bipush 10, 2) := by decide +kernel
theorem dX2_init_23 : decode cX2_init 23 = .ok (.newarray .int, 2) := by decide +kernel
theorem dX2_init_25 : decode cX2_init 25 = .ok (.putfield 18, 3) := by decide +kernel
theorem dX2_init_28 : decode cX2_init 28 = .ok (.aload_n 0, 1) := by decide +kernel
theorem dX2_init_29 : decode cX2_init 29 = .ok (.iconst 5, 1) := by decide +kernel
theorem dX2_init_30 : decode cX2_init 30 = .ok (.newarray .int, 2) := by decide +kernel
theorem dX2_init_32 : decode cX2_init 32 = .ok (.putfield 21, 3) := by decide +kernel
theorem dX2_init_35 : decode cX2_init 35 = .ok (.return_, 1) := by decide +kernel
theorem dX2_reckon_0 : decode cX2_reckon 0 = .ok (.aload_n 0, 1) := by decide +kernel
theorem dX2_reckon_1 : decode cX2_reckon 1 = .ok (.iconst 0, 1) := by decide +kernel
theorem dX2_reckon_2 : decode cX2_reckon 2 = .ok (.putfield 24, 3) := by decide +kernel
theorem dX2_reckon_5 : decode cX2_reckon 5 = .ok (.aload_n 0, 1) := by decide +kernel
theorem dX2_reckon_6 : decode cX2_reckon 6 = .ok (.iconst 5, 1) := by decide +kernel
theorem dX2_reckon_7 : decode cX2_reckon 7 = .ok (.aload_n 1, 1) := by decide +kernel
theorem dX2_reckon_8 : decode cX2_reckon 8 = .ok (.getfield 28, 3) := by decide +kernel
theorem dX2_reckon_11 : decode cX2_reckon 11 = .ok (.invokestatic 33, 3) := by decide +kernel
theorem dX2_reckon_14 : decode cX2_reckon 14 = .ok (.invokevirtual 39, 3) := by decide +kernel
theorem dX2_reckon_17 : decode cX2_reckon 17 = .ok (.iconst 0, 1) := by decide +kernel
theorem dX2_reckon_18 : decode cX2_reckon 18 = .ok (.istore_n 3, 1) := by decide +kernel
theorem dX2_reckon_19 : decode cX2_reckon 19 = .ok (.iload_n 3, 1) := by decide +kernel
theorem dX2_reckon_20 : decode cX2_reckon 20 = .ok (.iconst 5, 1) := by decide +kernel
theorem dX2_reckon_21 : decode cX2_reckon 21 = .ok (.if_icmp .ge 16, 3) := by decide +kernel
theorem dX2_reckon_24 : decode cX2_reckon 24 = .ok (.aload_n 0, 1) := by decide +kernel
theorem dX2_reckon_25 : decode cX2_reckon 25 = .ok (.getfield 21, 3) := by decide +kernel
theorem dX2_reckon_28 : decode cX2_reckon 28 = .ok (.iload_n 3, 1) := by decide +kernel
theorem dX2_reckon_29 : decode cX2_reckon 29 = .ok (.iconst 0, 1) := by decide +kernel
theorem dX2_reckon_30 : decode cX2_reckon 30 = .ok (.iastore, 1) := by decide +kernel
theorem dX2_reckon_31 : decode cX2_reckon 31 = .ok (.iinc 3 1, 3) := by decide +kernel
theorem dX2_reckon_34 : decode cX2_reckon 34 = .ok (.goto (-15), 3) := by decide +kernel
theorem dX2_reckon_37 : decode cX2_reckon 37 = .ok (.iconst 0, 1) := by decide +kernel
theorem dX2_reckon_38 : decode cX2_reckon 38 = .ok (.istore_n 3, 1) := by decide +kernel
theorem dX2_reckon_39 : decode cX2_reckon 39 = .ok (.iconst 0, 1) := by decide +kernel
theorem dX2_reckon_40 : decode cX2_reckon 40 = .ok (.istore 4, 2) := by decide +kernel
theorem dX2_reckon_42 : decode cX2_reckon 42 = .ok (.iload 4, 2) := by decide +kernel
theorem dX2_reckon_44 : decode cX2_reckon 44 = .ok (.iconst 1, 1) := by decide +kernel
theorem dX2_reckon_45 : decode cX2_reckon 45 = .ok (.aload_n 0, 1) := by decide +kernel
theorem dX2_reckon_46 : decode cX2_reckon 46 = .ok (.getfield 43, 3) := by decide +kernel
theorem dX2_reckon_49 : decode cX2_reckon 49 = .ok (.ishl, 1) := by decide +kernel
theorem dX2_reckon_50 : decode cX2_reckon 50 = .ok (.if_icmp .ge 81, 3) := by decide +kernel
theorem dX2_reckon_53 : decode cX2_reckon 53 = .ok (.iload 4, 2) := by decide +kernel
theorem dX2_reckon_55 : decode cX2_reckon 55 = .ok (.ifCond .ne 7, 3) := by decide +kernel
theorem dX2_reckon_58 : decode cX2_reckon 58 = .ok (.iconst (-1), 1) := by decide +kernel
theorem dX2_reckon_59 : decode cX2_reckon 59 = .ok (.goto 8, 3) := by decide +kernel
theorem dX2_reckon_62 : decode cX2_reckon 62 = .ok (.iload 4, 2) := by decide +kernel
theorem dX2_reckon_64 : decode cX2_reckon 64 = .ok (.invokestatic 46, 3) := by decide +kernel
theorem dX2_reckon_67 : decode cX2_reckon 67 = .ok (.istore 5, 2) := by decide +kernel
theorem dX2_reckon_69 : decode cX2_reckon 69 = .ok (.iload 5, 2) := by decide +kernel
theorem dX2_reckon_71 : decode cX2_reckon 71 = .ok (.iconst 0, 1) := by decide +kernel
theorem dX2_reckon_72 : decode cX2_reckon 72 = .ok (.aload_n 0, 1) := by decide +kernel
theorem dX2_reckon_73 : decode cX2_reckon 73 = .ok (.getfield 43, 3) := by decide +kernel
theorem dX2_reckon_76 : decode cX2_reckon 76 = .ok (.iconst 1, 1) := by decide +kernel
theorem dX2_reckon_77 : decode cX2_reckon 77 = .ok (.isub, 1) := by decide +kernel
theorem dX2_reckon_78 : decode cX2_reckon 78 = .ok (.invokestatic 52, 3) := by decide +kernel
theorem dX2_reckon_81 : decode cX2_reckon 81 = .ok (.ifCond .eq 31, 3) := by decide +kernel
theorem dX2_reckon_84 : decode cX2_reckon 84 = .ok (.iload_n 3, 1) := by decide +kernel
theorem dX2_reckon_85 : decode cX2_reckon 85 = .ok (.iconst 1, 1) := by decide +kernel
theorem dX2_reckon_86 : decode cX2_reckon 86 = .ok (.iload 5, 2) := by decide +kernel
theorem dX2_reckon_88 : decode cX2_reckon 88 = .ok (.ishl, 1) := by decide +kernel
theorem dX2_reckon_89 : decode cX2_reckon 89 = .ok (.ixor, 1) := by decide +kernel
theorem dX2_reckon_90 : decode cX2_reckon 90 = .ok (.istore_n 3, 1) := by decide +kernel
theorem dX2_reckon_91 : decode cX2_reckon 91 = .ok (.aload_n 0, 1) := by decide +kernel
theorem dX2_reckon_92 : decode cX2_reckon 92 = .ok (.aload_n 1, 1) := by decide +kernel
theorem dX2_reckon_93 : decode cX2_reckon 93 = .ok (.iload 5, 2) := by decide +kernel
theorem dX2_reckon_95 : decode cX2_reckon 95 = .ok (.iload_n 3, 1) := by decide +kernel
theorem dX2_reckon_96 : decode cX2_reckon 96 = .ok (.iload 5, 2) := by decide +kernel
theorem dX2_reckon_98 : decode cX2_reckon 98 = .ok (.ishr, 1) := by decide +kernel
theorem dX2_reckon_99 : decode cX2_reckon 99 = .ok (.iconst 1, 1) := by decide +kernel
theorem dX2_reckon_100 : decode cX2_reckon 100 = .ok (.iand, 1) := by decide +kernel
theorem dX2_reckon_101 : decode cX2_reckon 101 = .ok (.ifCond .eq 7, 3) := by decide +kernel
theorem dX2_reckon_104 : decode cX2_reckon 104 = .ok (.iconst 1, 1) := by decide +kernel
theorem dX2_reckon_105 : decode cX2_reckon 105 = .ok (.goto 4, 3) := by decide +kernel
theorem dX2_reckon_108 : decode cX2_reckon 108 = .ok (.iconst (-1), 1) := by decide +kernel
theorem dX2_reckon_109 : decode cX2_reckon 109 = .ok (.invokevirtual 56, 3) := by decide +kernel
theorem dX2_reckon_112 : decode cX2_reckon 112 = .ok (.aload_n 0, 1) := by decide +kernel
theorem dX2_reckon_113 : decode cX2_reckon 113 = .ok (.aload_n 2, 1) := by decide +kernel
theorem dX2_reckon_114 : decode cX2_reckon 114 = .ok (.invokevirtual 60, 3) := by decide +kernel
theorem dX2_reckon_117 : decode cX2_reckon 117 = .ok (.ifCond .eq 8, 3) := by decide +kernel
theorem dX2_reckon_120 : decode cX2_reckon 120 = .ok (.aload_n 0, 1) := by decide +kernel
theorem dX2_reckon_121 : decode cX2_reckon 121 = .ok (.iload_n 3, 1) := by decide +kernel
theorem dX2_reckon_122 : decode cX2_reckon 122 = .ok (.invokevirtual 64, 3) := by decide +kernel
theorem dX2_reckon_125 : decode cX2_reckon 125 = .ok (.iinc 4 1, 3) := by decide +kernel
theorem dX2_reckon_128 : decode cX2_reckon 128 = .ok (.goto (-86), 3) := by decide +kernel
theorem dX2_reckon_131 : decode cX2_reckon 131 = .ok (.return_, 1) := by decide +kernel
theorem dX2_listTwos_0 : decode cX2_listTwos 0 = .ok (.aload_n 0, 1) := by decide +kernel
theorem dX2_listTwos_1 : decode cX2_listTwos 1 = .ok (.iconst 0, 1) := by decide +kernel
theorem dX2_listTwos_2 : decode cX2_listTwos 2 = .ok (.putfield 43, 3) := by decide +kernel
theorem dX2_listTwos_5 : decode cX2_listTwos 5 = .ok (.iconst 0, 1) := by decide +kernel
theorem dX2_listTwos_6 : decode cX2_listTwos 6 = .ok (.istore_n 2, 1) := by decide +kernel
theorem dX2_listTwos_7 : decode cX2_listTwos 7 = .ok (.iload_n 2, 1) := by decide +kernel
theorem dX2_listTwos_8 : decode cX2_listTwos 8 = .ok (.iload_n 1, 1) := by decide +kernel
theorem dX2_listTwos_9 : decode cX2_listTwos 9 = .ok (.if_icmp .ge 77, 3) := by decide +kernel
theorem dX2_listTwos_12 : decode cX2_listTwos 12 = .ok (.iload_n 2, 1) := by decide +kernel
theorem dX2_listTwos_13 : decode cX2_listTwos 13 = .ok (.iconst 1, 1) := by decide +kernel
theorem dX2_listTwos_14 : decode cX2_listTwos 14 = .ok (.iadd, 1) := by decide +kernel
theorem dX2_listTwos_15 : decode cX2_listTwos 15 = .ok (.istore_n 3, 1) := by decide +kernel
theorem dX2_listTwos_16 : decode cX2_listTwos 16 = .ok (.iload_n 3, 1) := by decide +kernel
theorem dX2_listTwos_17 : decode cX2_listTwos 17 = .ok (.iload_n 1, 1) := by decide +kernel
theorem dX2_listTwos_18 : decode cX2_listTwos 18 = .ok (.if_icmp .ge 62, 3) := by decide +kernel
theorem dX2_listTwos_21 : decode cX2_listTwos 21 = .ok (.aload_n 0, 1) := by decide +kernel
theorem dX2_listTwos_22 : decode cX2_listTwos 22 = .ok (.getfield 43, 3) := by decide +kernel
theorem dX2_listTwos_25 : decode cX2_listTwos 25 = .ok (.iconst 0, 1) := by decide +kernel
theorem dX2_listTwos_26 : decode cX2_listTwos 26 = .ok (.bipush 9, 2) := by decide +kernel
theorem dX2_listTwos_28 : decode cX2_listTwos 28 = .ok (.invokestatic 52, 3) := by decide +kernel
theorem dX2_listTwos_31 : decode cX2_listTwos 31 = .ok (.ifCond .eq 43, 3) := by decide +kernel
theorem dX2_listTwos_34 : decode cX2_listTwos 34 = .ok (.aload_n 0, 1) := by decide +kernel
theorem dX2_listTwos_35 : decode cX2_listTwos 35 = .ok (.getfield 11, 3) := by decide +kernel
theorem dX2_listTwos_38 : decode cX2_listTwos 38 = .ok (.aload_n 0, 1) := by decide +kernel
theorem dX2_listTwos_39 : decode cX2_listTwos 39 = .ok (.getfield 43, 3) := by decide +kernel
theorem dX2_listTwos_42 : decode cX2_listTwos 42 = .ok (.iload_n 2, 1) := by decide +kernel
theorem dX2_listTwos_43 : decode cX2_listTwos 43 = .ok (.iastore, 1) := by decide +kernel
theorem dX2_listTwos_44 : decode cX2_listTwos 44 = .ok (.aload_n 0, 1) := by decide +kernel
theorem dX2_listTwos_45 : decode cX2_listTwos 45 = .ok (.getfield 15, 3) := by decide +kernel
theorem dX2_listTwos_48 : decode cX2_listTwos 48 = .ok (.aload_n 0, 1) := by decide +kernel
theorem dX2_listTwos_49 : decode cX2_listTwos 49 = .ok (.getfield 43, 3) := by decide +kernel
theorem dX2_listTwos_52 : decode cX2_listTwos 52 = .ok (.iload_n 3, 1) := by decide +kernel
theorem dX2_listTwos_53 : decode cX2_listTwos 53 = .ok (.iastore, 1) := by decide +kernel
theorem dX2_listTwos_54 : decode cX2_listTwos 54 = .ok (.aload_n 0, 1) := by decide +kernel
theorem dX2_listTwos_55 : decode cX2_listTwos 55 = .ok (.getfield 18, 3) := by decide +kernel
theorem dX2_listTwos_58 : decode cX2_listTwos 58 = .ok (.aload_n 0, 1) := by decide +kernel
theorem dX2_listTwos_59 : decode cX2_listTwos 59 = .ok (.getfield 43, 3) := by decide +kernel
theorem dX2_listTwos_62 : decode cX2_listTwos 62 = .ok (.iconst 0, 1) := by decide +kernel
theorem dX2_listTwos_63 : decode cX2_listTwos 63 = .ok (.iastore, 1) := by decide +kernel
theorem dX2_listTwos_64 : decode cX2_listTwos 64 = .ok (.aload_n 0, 1) := by decide +kernel
theorem dX2_listTwos_65 : decode cX2_listTwos 65 = .ok (.dup, 1) := by decide +kernel
theorem dX2_listTwos_66 : decode cX2_listTwos 66 = .ok (.getfield 43, 3) := by decide +kernel
theorem dX2_listTwos_69 : decode cX2_listTwos 69 = .ok (.iconst 1, 1) := by decide +kernel
theorem dX2_listTwos_70 : decode cX2_listTwos 70 = .ok (.iadd, 1) := by decide +kernel
theorem dX2_listTwos_71 : decode cX2_listTwos 71 = .ok (.putfield 43, 3) := by decide +kernel
theorem dX2_listTwos_74 : decode cX2_listTwos 74 = .ok (.iinc 3 1, 3) := by decide +kernel
theorem dX2_listTwos_77 : decode cX2_listTwos 77 = .ok (.goto (-61), 3) := by decide +kernel
theorem dX2_listTwos_80 : decode cX2_listTwos 80 = .ok (.iinc 2 1, 3) := by decide +kernel
theorem dX2_listTwos_83 : decode cX2_listTwos 83 = .ok (.goto (-76), 3) := by decide +kernel
theorem dX2_listTwos_86 : decode cX2_listTwos 86 = .ok (.return_, 1) := by decide +kernel
theorem dX2_bend_0 : decode cX2_bend 0 = .ok (.iload_n 2, 1) := by decide +kernel
theorem dX2_bend_1 : decode cX2_bend 1 = .ok (.iconst 0, 1) := by decide +kernel
theorem dX2_bend_2 : decode cX2_bend 2 = .ok (.bipush 9, 2) := by decide +kernel
theorem dX2_bend_4 : decode cX2_bend 4 = .ok (.invokestatic 52, 3) := by decide +kernel
theorem dX2_bend_7 : decode cX2_bend 7 = .ok (.ifCond .eq 79, 3) := by decide +kernel
theorem dX2_bend_10 : decode cX2_bend 10 = .ok (.aload_n 0, 1) := by decide +kernel
theorem dX2_bend_11 : decode cX2_bend 11 = .ok (.getfield 11, 3) := by decide +kernel
theorem dX2_bend_14 : decode cX2_bend 14 = .ok (.iload_n 2, 1) := by decide +kernel
theorem dX2_bend_15 : decode cX2_bend 15 = .ok (.iaload, 1) := by decide +kernel
theorem dX2_bend_16 : decode cX2_bend 16 = .ok (.istore 4, 2) := by decide +kernel
theorem dX2_bend_18 : decode cX2_bend 18 = .ok (.aload_n 0, 1) := by decide +kernel
theorem dX2_bend_19 : decode cX2_bend 19 = .ok (.getfield 15, 3) := by decide +kernel
theorem dX2_bend_22 : decode cX2_bend 22 = .ok (.iload_n 2, 1) := by decide +kernel
theorem dX2_bend_23 : decode cX2_bend 23 = .ok (.iaload, 1) := by decide +kernel
theorem dX2_bend_24 : decode cX2_bend 24 = .ok (.istore 5, 2) := by decide +kernel
theorem dX2_bend_26 : decode cX2_bend 26 = .ok (.iload 4, 2) := by decide +kernel
theorem dX2_bend_28 : decode cX2_bend 28 = .ok (.iconst 0, 1) := by decide +kernel
theorem dX2_bend_29 : decode cX2_bend 29 = .ok (.iconst 4, 1) := by decide +kernel
theorem dX2_bend_30 : decode cX2_bend 30 = .ok (.invokestatic 52, 3) := by decide +kernel
theorem dX2_bend_33 : decode cX2_bend 33 = .ok (.ifCond .eq 53, 3) := by decide +kernel
theorem dX2_bend_36 : decode cX2_bend 36 = .ok (.iload 5, 2) := by decide +kernel
theorem dX2_bend_38 : decode cX2_bend 38 = .ok (.iconst 0, 1) := by decide +kernel
theorem dX2_bend_39 : decode cX2_bend 39 = .ok (.iconst 4, 1) := by decide +kernel
theorem dX2_bend_40 : decode cX2_bend 40 = .ok (.invokestatic 52, 3) := by decide +kernel
theorem dX2_bend_43 : decode cX2_bend 43 = .ok (.ifCond .eq 43, 3) := by decide +kernel
theorem dX2_bend_46 : decode cX2_bend 46 = .ok (.aload_n 0, 1) := by decide +kernel
theorem dX2_bend_47 : decode cX2_bend 47 = .ok (.getfield 21, 3) := by decide +kernel
theorem dX2_bend_50 : decode cX2_bend 50 = .ok (.iload 4, 2) := by decide +kernel
theorem dX2_bend_52 : decode cX2_bend 52 = .ok (.dup2, 1) := by decide +kernel
theorem dX2_bend_53 : decode cX2_bend 53 = .ok (.iaload, 1) := by decide +kernel
theorem dX2_bend_54 : decode cX2_bend 54 = .ok (.iload_n 3, 1) := by decide +kernel
theorem dX2_bend_55 : decode cX2_bend 55 = .ok (.aload_n 1, 1) := by decide +kernel
theorem dX2_bend_56 : decode cX2_bend 56 = .ok (.iload 4, 2) := by decide +kernel
theorem dX2_bend_58 : decode cX2_bend 58 = .ok (.iload 5, 2) := by decide +kernel
theorem dX2_bend_60 : decode cX2_bend 60 = .ok (.invokevirtual 66, 3) := by decide +kernel
theorem dX2_bend_63 : decode cX2_bend 63 = .ok (.imul, 1) := by decide +kernel
theorem dX2_bend_64 : decode cX2_bend 64 = .ok (.iadd, 1) := by decide +kernel
theorem dX2_bend_65 : decode cX2_bend 65 = .ok (.iastore, 1) := by decide +kernel
theorem dX2_bend_66 : decode cX2_bend 66 = .ok (.aload_n 0, 1) := by decide +kernel
theorem dX2_bend_67 : decode cX2_bend 67 = .ok (.getfield 21, 3) := by decide +kernel
theorem dX2_bend_70 : decode cX2_bend 70 = .ok (.iload 5, 2) := by decide +kernel
theorem dX2_bend_72 : decode cX2_bend 72 = .ok (.dup2, 1) := by decide +kernel
theorem dX2_bend_73 : decode cX2_bend 73 = .ok (.iaload, 1) := by decide +kernel
theorem dX2_bend_74 : decode cX2_bend 74 = .ok (.iload_n 3, 1) := by decide +kernel
theorem dX2_bend_75 : decode cX2_bend 75 = .ok (.aload_n 1, 1) := by decide +kernel
theorem dX2_bend_76 : decode cX2_bend 76 = .ok (.iload 5, 2) := by decide +kernel
theorem dX2_bend_78 : decode cX2_bend 78 = .ok (.iload 4, 2) := by decide +kernel
theorem dX2_bend_80 : decode cX2_bend 80 = .ok (.invokevirtual 66, 3) := by decide +kernel
theorem dX2_bend_83 : decode cX2_bend 83 = .ok (.imul, 1) := by decide +kernel
theorem dX2_bend_84 : decode cX2_bend 84 = .ok (.iadd, 1) := by decide +kernel
theorem dX2_bend_85 : decode cX2_bend 85 = .ok (.iastore, 1) := by decide +kernel
theorem dX2_bend_86 : decode cX2_bend 86 = .ok (.return_, 1) := by decide +kernel
theorem dX2_explains_0 : decode cX2_explains 0 = .ok (.iconst 0, 1) := by decide +kernel
theorem dX2_explains_1 : decode cX2_explains 1 = .ok (.istore_n 2, 1) := by decide +kernel
theorem dX2_explains_2 : decode cX2_explains 2 = .ok (.iload_n 2, 1) := by decide +kernel
theorem dX2_explains_3 : decode cX2_explains 3 = .ok (.iconst 5, 1) := by decide +kernel
theorem dX2_explains_4 : decode cX2_explains 4 = .ok (.if_icmp .ge 36, 3) := by decide +kernel
theorem dX2_explains_7 : decode cX2_explains 7 = .ok (.iload_n 2, 1) := by decide +kernel
theorem dX2_explains_8 : decode cX2_explains 8 = .ok (.aload_n 1, 1) := by decide +kernel
theorem dX2_explains_9 : decode cX2_explains 9 = .ok (.arraylength, 1) := by decide +kernel
theorem dX2_explains_10 : decode cX2_explains 10 = .ok (.if_icmp .ge 30, 3) := by decide +kernel
theorem dX2_explains_13 : decode cX2_explains 13 = .ok (.aload_n 1, 1) := by decide +kernel
theorem dX2_explains_14 : decode cX2_explains 14 = .ok (.iload_n 2, 1) := by decide +kernel
theorem dX2_explains_15 : decode cX2_explains 15 = .ok (.iaload, 1) := by decide +kernel
theorem dX2_explains_16 : decode cX2_explains 16 = .ok (.iconst (-1), 1) := by decide +kernel
theorem dX2_explains_17 : decode cX2_explains 17 = .ok (.if_icmp .eq 17, 3) := by decide +kernel
theorem dX2_explains_20 : decode cX2_explains 20 = .ok (.aload_n 1, 1) := by decide +kernel
theorem dX2_explains_21 : decode cX2_explains 21 = .ok (.iload_n 2, 1) := by decide +kernel
theorem dX2_explains_22 : decode cX2_explains 22 = .ok (.iaload, 1) := by decide +kernel
theorem dX2_explains_23 : decode cX2_explains 23 = .ok (.aload_n 0, 1) := by decide +kernel
theorem dX2_explains_24 : decode cX2_explains 24 = .ok (.getfield 21, 3) := by decide +kernel
theorem dX2_explains_27 : decode cX2_explains 27 = .ok (.iload_n 2, 1) := by decide +kernel
theorem dX2_explains_28 : decode cX2_explains 28 = .ok (.iaload, 1) := by decide +kernel
theorem dX2_explains_29 : decode cX2_explains 29 = .ok (.if_icmp .eq 5, 3) := by decide +kernel
theorem dX2_explains_32 : decode cX2_explains 32 = .ok (.iconst 0, 1) := by decide +kernel
theorem dX2_explains_33 : decode cX2_explains 33 = .ok (.ireturn, 1) := by decide +kernel
theorem dX2_explains_34 : decode cX2_explains 34 = .ok (.iinc 2 1, 3) := by decide +kernel
theorem dX2_explains_37 : decode cX2_explains 37 = .ok (.goto (-35), 3) := by decide +kernel
theorem dX2_explains_40 : decode cX2_explains 40 = .ok (.iconst 1, 1) := by decide +kernel
theorem dX2_explains_41 : decode cX2_explains 41 = .ok (.ireturn, 1) := by decide +kernel
theorem dX2_count_0 : decode cX2_count 0 = .ok (.aload_n 0, 1) := by decide +kernel
theorem dX2_count_1 : decode cX2_count 1 = .ok (.dup, 1) := by decide +kernel
theorem dX2_count_2 : decode cX2_count 2 = .ok (.getfield 24, 3) := by decide +kernel
theorem dX2_count_5 : decode cX2_count 5 = .ok (.iconst 1, 1) := by decide +kernel
theorem dX2_count_6 : decode cX2_count 6 = .ok (.iadd, 1) := by decide +kernel
theorem dX2_count_7 : decode cX2_count 7 = .ok (.putfield 24, 3) := by decide +kernel
theorem dX2_count_10 : decode cX2_count 10 = .ok (.iconst 0, 1) := by decide +kernel
theorem dX2_count_11 : decode cX2_count 11 = .ok (.istore_n 2, 1) := by decide +kernel
theorem dX2_count_12 : decode cX2_count 12 = .ok (.iload_n 2, 1) := by decide +kernel
theorem dX2_count_13 : decode cX2_count 13 = .ok (.aload_n 0, 1) := by decide +kernel
theorem dX2_count_14 : decode cX2_count 14 = .ok (.getfield 43, 3) := by decide +kernel
theorem dX2_count_17 : decode cX2_count 17 = .ok (.if_icmp .ge 29, 3) := by decide +kernel
theorem dX2_count_20 : decode cX2_count 20 = .ok (.iload_n 2, 1) := by decide +kernel
theorem dX2_count_21 : decode cX2_count 21 = .ok (.bipush 10, 2) := by decide +kernel
theorem dX2_count_23 : decode cX2_count 23 = .ok (.if_icmp .ge 23, 3) := by decide +kernel
theorem dX2_count_26 : decode cX2_count 26 = .ok (.aload_n 0, 1) := by decide +kernel
theorem dX2_count_27 : decode cX2_count 27 = .ok (.getfield 18, 3) := by decide +kernel
theorem dX2_count_30 : decode cX2_count 30 = .ok (.iload_n 2, 1) := by decide +kernel
theorem dX2_count_31 : decode cX2_count 31 = .ok (.dup2, 1) := by decide +kernel
theorem dX2_count_32 : decode cX2_count 32 = .ok (.iaload, 1) := by decide +kernel
theorem dX2_count_33 : decode cX2_count 33 = .ok (.iload_n 1, 1) := by decide +kernel
theorem dX2_count_34 : decode cX2_count 34 = .ok (.iload_n 2, 1) := by decide +kernel
theorem dX2_count_35 : decode cX2_count 35 = .ok (.ishr, 1) := by decide +kernel
theorem dX2_count_36 : decode cX2_count 36 = .ok (.iconst 1, 1) := by decide +kernel
theorem dX2_count_37 : decode cX2_count 37 = .ok (.iand, 1) := by decide +kernel
theorem dX2_count_38 : decode cX2_count 38 = .ok (.iadd, 1) := by decide +kernel
theorem dX2_count_39 : decode cX2_count 39 = .ok (.iastore, 1) := by decide +kernel
theorem dX2_count_40 : decode cX2_count 40 = .ok (.iinc 2 1, 3) := by decide +kernel
theorem dX2_count_43 : decode cX2_count 43 = .ok (.goto (-31), 3) := by decide +kernel
theorem dX2_count_46 : decode cX2_count 46 = .ok (.return_, 1) := by decide +kernel
theorem dX2_sureOf_0 : decode cX2_sureOf 0 = .ok (.iconst 0, 1) := by decide +kernel
theorem dX2_sureOf_1 : decode cX2_sureOf 1 = .ok (.istore_n 3, 1) := by decide +kernel
theorem dX2_sureOf_2 : decode cX2_sureOf 2 = .ok (.iload_n 3, 1) := by decide +kernel
theorem dX2_sureOf_3 : decode cX2_sureOf 3 = .ok (.aload_n 0, 1) := by decide +kernel
theorem dX2_sureOf_4 : decode cX2_sureOf 4 = .ok (.getfield 43, 3) := by decide +kernel
theorem dX2_sureOf_7 : decode cX2_sureOf 7 = .ok (.if_icmp .ge 74, 3) := by decide +kernel
theorem dX2_sureOf_10 : decode cX2_sureOf 10 = .ok (.iload_n 3, 1) := by decide +kernel
theorem dX2_sureOf_11 : decode cX2_sureOf 11 = .ok (.bipush 10, 2) := by decide +kernel
theorem dX2_sureOf_13 : decode cX2_sureOf 13 = .ok (.if_icmp .ge 68, 3) := by decide +kernel
theorem dX2_sureOf_16 : decode cX2_sureOf 16 = .ok (.aload_n 0, 1) := by decide +kernel
theorem dX2_sureOf_17 : decode cX2_sureOf 17 = .ok (.getfield 11, 3) := by decide +kernel
theorem dX2_sureOf_20 : decode cX2_sureOf 20 = .ok (.iload_n 3, 1) := by decide +kernel
theorem dX2_sureOf_21 : decode cX2_sureOf 21 = .ok (.iaload, 1) := by decide +kernel
theorem dX2_sureOf_22 : decode cX2_sureOf 22 = .ok (.iload_n 1, 1) := by decide +kernel
theorem dX2_sureOf_23 : decode cX2_sureOf 23 = .ok (.if_icmp .ne 52, 3) := by decide +kernel
theorem dX2_sureOf_26 : decode cX2_sureOf 26 = .ok (.aload_n 0, 1) := by decide +kernel
theorem dX2_sureOf_27 : decode cX2_sureOf 27 = .ok (.getfield 15, 3) := by decide +kernel
theorem dX2_sureOf_30 : decode cX2_sureOf 30 = .ok (.iload_n 3, 1) := by decide +kernel
theorem dX2_sureOf_31 : decode cX2_sureOf 31 = .ok (.iaload, 1) := by decide +kernel
theorem dX2_sureOf_32 : decode cX2_sureOf 32 = .ok (.iload_n 2, 1) := by decide +kernel
theorem dX2_sureOf_33 : decode cX2_sureOf 33 = .ok (.if_icmp .ne 42, 3) := by decide +kernel
theorem dX2_sureOf_36 : decode cX2_sureOf 36 = .ok (.aload_n 0, 1) := by decide +kernel
theorem dX2_sureOf_37 : decode cX2_sureOf 37 = .ok (.getfield 24, 3) := by decide +kernel
theorem dX2_sureOf_40 : decode cX2_sureOf 40 = .ok (.ifCond .le 35, 3) := by decide +kernel
theorem dX2_sureOf_43 : decode cX2_sureOf 43 = .ok (.aload_n 0, 1) := by decide +kernel
theorem dX2_sureOf_44 : decode cX2_sureOf 44 = .ok (.getfield 18, 3) := by decide +kernel
theorem dX2_sureOf_47 : decode cX2_sureOf 47 = .ok (.iload_n 3, 1) := by decide +kernel
theorem dX2_sureOf_48 : decode cX2_sureOf 48 = .ok (.iaload, 1) := by decide +kernel
theorem dX2_sureOf_49 : decode cX2_sureOf 49 = .ok (.aload_n 0, 1) := by decide +kernel
theorem dX2_sureOf_50 : decode cX2_sureOf 50 = .ok (.getfield 24, 3) := by decide +kernel
theorem dX2_sureOf_53 : decode cX2_sureOf 53 = .ok (.if_icmp .ne 7, 3) := by decide +kernel
theorem dX2_sureOf_56 : decode cX2_sureOf 56 = .ok (.iconst 1, 1) := by decide +kernel
theorem dX2_sureOf_57 : decode cX2_sureOf 57 = .ok (.goto 17, 3) := by decide +kernel
theorem dX2_sureOf_60 : decode cX2_sureOf 60 = .ok (.aload_n 0, 1) := by decide +kernel
theorem dX2_sureOf_61 : decode cX2_sureOf 61 = .ok (.getfield 18, 3) := by decide +kernel
theorem dX2_sureOf_64 : decode cX2_sureOf 64 = .ok (.iload_n 3, 1) := by decide +kernel
theorem dX2_sureOf_65 : decode cX2_sureOf 65 = .ok (.iaload, 1) := by decide +kernel
theorem dX2_sureOf_66 : decode cX2_sureOf 66 = .ok (.ifCond .ne 7, 3) := by decide +kernel
theorem dX2_sureOf_69 : decode cX2_sureOf 69 = .ok (.iconst 0, 1) := by decide +kernel
theorem dX2_sureOf_70 : decode cX2_sureOf 70 = .ok (.goto 4, 3) := by decide +kernel
theorem dX2_sureOf_73 : decode cX2_sureOf 73 = .ok (.iconst (-1), 1) := by decide +kernel
theorem dX2_sureOf_74 : decode cX2_sureOf 74 = .ok (.ireturn, 1) := by decide +kernel
theorem dX2_sureOf_75 : decode cX2_sureOf 75 = .ok (.iinc 3 1, 3) := by decide +kernel
theorem dX2_sureOf_78 : decode cX2_sureOf 78 = .ok (.goto (-76), 3) := by decide +kernel
theorem dX2_sureOf_81 : decode cX2_sureOf 81 = .ok (.iconst (-1), 1) := by decide +kernel
theorem dX2_sureOf_82 : decode cX2_sureOf 82 = .ok (.ireturn, 1) := by decide +kernel
theorem dX2_mostOpen_0 : decode cX2_mostOpen 0 = .ok (.iconst (-1), 1) := by decide +kernel
theorem dX2_mostOpen_1 : decode cX2_mostOpen 1 = .ok (.istore_n 1, 1) := by decide +kernel
theorem dX2_mostOpen_2 : decode cX2_mostOpen 2 = .ok (.ldc 69, 2) := by decide +kernel
theorem dX2_mostOpen_4 : decode cX2_mostOpen 4 = .ok (.istore_n 2, 1) := by decide +kernel
theorem dX2_mostOpen_5 : decode cX2_mostOpen 5 = .ok (.iconst 0, 1) := by decide +kernel
theorem dX2_mostOpen_6 : decode cX2_mostOpen 6 = .ok (.istore_n 3, 1) := by decide +kernel
theorem dX2_mostOpen_7 : decode cX2_mostOpen 7 = .ok (.iload_n 3, 1) := by decide +kernel
theorem dX2_mostOpen_8 : decode cX2_mostOpen 8 = .ok (.aload_n 0, 1) := by decide +kernel
theorem dX2_mostOpen_9 : decode cX2_mostOpen 9 = .ok (.getfield 43, 3) := by decide +kernel
theorem dX2_mostOpen_12 : decode cX2_mostOpen 12 = .ok (.if_icmp .ge 68, 3) := by decide +kernel
theorem dX2_mostOpen_15 : decode cX2_mostOpen 15 = .ok (.iload_n 3, 1) := by decide +kernel
theorem dX2_mostOpen_16 : decode cX2_mostOpen 16 = .ok (.bipush 10, 2) := by decide +kernel
theorem dX2_mostOpen_18 : decode cX2_mostOpen 18 = .ok (.if_icmp .ge 62, 3) := by decide +kernel
theorem dX2_mostOpen_21 : decode cX2_mostOpen 21 = .ok (.iconst 2, 1) := by decide +kernel
theorem dX2_mostOpen_22 : decode cX2_mostOpen 22 = .ok (.aload_n 0, 1) := by decide +kernel
theorem dX2_mostOpen_23 : decode cX2_mostOpen 23 = .ok (.getfield 18, 3) := by decide +kernel
theorem dX2_mostOpen_26 : decode cX2_mostOpen 26 = .ok (.iload_n 3, 1) := by decide +kernel
theorem dX2_mostOpen_27 : decode cX2_mostOpen 27 = .ok (.iaload, 1) := by decide +kernel
theorem dX2_mostOpen_28 : decode cX2_mostOpen 28 = .ok (.imul, 1) := by decide +kernel
theorem dX2_mostOpen_29 : decode cX2_mostOpen 29 = .ok (.aload_n 0, 1) := by decide +kernel
theorem dX2_mostOpen_30 : decode cX2_mostOpen 30 = .ok (.getfield 24, 3) := by decide +kernel
theorem dX2_mostOpen_33 : decode cX2_mostOpen 33 = .ok (.isub, 1) := by decide +kernel
theorem dX2_mostOpen_34 : decode cX2_mostOpen 34 = .ok (.invokestatic 70, 3) := by decide +kernel
theorem dX2_mostOpen_37 : decode cX2_mostOpen 37 = .ok (.istore 4, 2) := by decide +kernel
theorem dX2_mostOpen_39 : decode cX2_mostOpen 39 = .ok (.iload 4, 2) := by decide +kernel
theorem dX2_mostOpen_41 : decode cX2_mostOpen 41 = .ok (.iload_n 2, 1) := by decide +kernel
theorem dX2_mostOpen_42 : decode cX2_mostOpen 42 = .ok (.if_icmp .ge 32, 3) := by decide +kernel
theorem dX2_mostOpen_45 : decode cX2_mostOpen 45 = .ok (.iload 4, 2) := by decide +kernel
theorem dX2_mostOpen_47 : decode cX2_mostOpen 47 = .ok (.aload_n 0, 1) := by decide +kernel
theorem dX2_mostOpen_48 : decode cX2_mostOpen 48 = .ok (.getfield 24, 3) := by decide +kernel
theorem dX2_mostOpen_51 : decode cX2_mostOpen 51 = .ok (.if_icmp .ge 23, 3) := by decide +kernel
theorem dX2_mostOpen_54 : decode cX2_mostOpen 54 = .ok (.iload 4, 2) := by decide +kernel
theorem dX2_mostOpen_56 : decode cX2_mostOpen 56 = .ok (.istore_n 2, 1) := by decide +kernel
theorem dX2_mostOpen_57 : decode cX2_mostOpen 57 = .ok (.bipush 10, 2) := by decide +kernel
theorem dX2_mostOpen_59 : decode cX2_mostOpen 59 = .ok (.aload_n 0, 1) := by decide +kernel
theorem dX2_mostOpen_60 : decode cX2_mostOpen 60 = .ok (.getfield 11, 3) := by decide +kernel
theorem dX2_mostOpen_63 : decode cX2_mostOpen 63 = .ok (.iload_n 3, 1) := by decide +kernel
theorem dX2_mostOpen_64 : decode cX2_mostOpen 64 = .ok (.iaload, 1) := by decide +kernel
theorem dX2_mostOpen_65 : decode cX2_mostOpen 65 = .ok (.imul, 1) := by decide +kernel
theorem dX2_mostOpen_66 : decode cX2_mostOpen 66 = .ok (.aload_n 0, 1) := by decide +kernel
theorem dX2_mostOpen_67 : decode cX2_mostOpen 67 = .ok (.getfield 15, 3) := by decide +kernel
theorem dX2_mostOpen_70 : decode cX2_mostOpen 70 = .ok (.iload_n 3, 1) := by decide +kernel
theorem dX2_mostOpen_71 : decode cX2_mostOpen 71 = .ok (.iaload, 1) := by decide +kernel
theorem dX2_mostOpen_72 : decode cX2_mostOpen 72 = .ok (.iadd, 1) := by decide +kernel
theorem dX2_mostOpen_73 : decode cX2_mostOpen 73 = .ok (.istore_n 1, 1) := by decide +kernel
theorem dX2_mostOpen_74 : decode cX2_mostOpen 74 = .ok (.iinc 3 1, 3) := by decide +kernel
theorem dX2_mostOpen_77 : decode cX2_mostOpen 77 = .ok (.goto (-70), 3) := by decide +kernel
theorem dX2_mostOpen_80 : decode cX2_mostOpen 80 = .ok (.iload_n 1, 1) := by decide +kernel
theorem dX2_mostOpen_81 : decode cX2_mostOpen 81 = .ok (.ireturn, 1) := by decide +kernel
theorem dX3_init_0 : decode cX3_init 0 = .ok (.aload_n 0, 1) := by decide +kernel
theorem dX3_init_1 : decode cX3_init 1 = .ok (.invokespecial 3, 3) := by decide +kernel
theorem dX3_init_4 : decode cX3_init 4 = .ok (.aload_n 0, 1) := by decide +kernel
theorem dX3_init_5 : decode cX3_init 5 = .ok (.bipush 7, 2) := by decide +kernel
theorem dX3_init_7 : decode cX3_init 7 = .ok (.newarray .int, 2) := by decide +kernel
theorem dX3_init_9 : decode cX3_init 9 = .ok (.putfield 9, 3) := by decide +kernel
theorem dX3_init_12 : decode cX3_init 12 = .ok (.aload_n 0, 1) := by decide +kernel
theorem dX3_init_13 : decode cX3_init 13 = .ok (.bipush 7, 2) := by decide +kernel
theorem dX3_init_15 : decode cX3_init 15 = .ok (.newarray .int, 2) := by decide +kernel
theorem dX3_init_17 : decode cX3_init 17 = .ok (.putfield 15, 3) := by decide +kernel
theorem dX3_init_20 : decode cX3_init 20 = .ok (.aload_n 0, 1) := by decide +kernel
theorem dX3_init_21 : decode cX3_init 21 = .ok (.bipush 7, 2) := by decide +kernel
theorem dX3_init_23 : decode cX3_init 23 = .ok (.newarray .int, 2) := by decide +kernel
theorem dX3_init_25 : decode cX3_init 25 = .ok (.putfield 18, 3) := by decide +kernel
theorem dX3_init_28 : decode cX3_init 28 = .ok (.return_, 1) := by decide +kernel
theorem dX3_tell_0 : decode cX3_tell 0 = .ok (.iload_n 1, 1) := by decide +kernel
theorem dX3_tell_1 : decode cX3_tell 1 = .ok (.iconst 0, 1) := by decide +kernel
theorem dX3_tell_2 : decode cX3_tell 2 = .ok (.bipush 6, 2) := by decide +kernel
theorem dX3_tell_4 : decode cX3_tell 4 = .ok (.invokestatic 21, 3) := by decide +kernel
theorem dX3_tell_7 : decode cX3_tell 7 = .ok (.ifCond .eq 25, 3) := by decide +kernel
theorem dX3_tell_10 : decode cX3_tell 10 = .ok (.aload_n 0, 1) := by decide +kernel
theorem dX3_tell_11 : decode cX3_tell 11 = .ok (.getfield 9, 3) := by decide +kernel
theorem dX3_tell_14 : decode cX3_tell 14 = .ok (.iload_n 1, 1) := by decide +kernel
theorem dX3_tell_15 : decode cX3_tell 15 = .ok (.iload_n 2, 1) := by decide +kernel
theorem dX3_tell_16 : decode cX3_tell 16 = .ok (.iastore, 1) := by decide +kernel
theorem dX3_tell_17 : decode cX3_tell 17 = .ok (.aload_n 0, 1) := by decide +kernel
theorem dX3_tell_18 : decode cX3_tell 18 = .ok (.getfield 15, 3) := by decide +kernel
theorem dX3_tell_21 : decode cX3_tell 21 = .ok (.iload_n 1, 1) := by decide +kernel
theorem dX3_tell_22 : decode cX3_tell 22 = .ok (.iload_n 3, 1) := by decide +kernel
theorem dX3_tell_23 : decode cX3_tell 23 = .ok (.iastore, 1) := by decide +kernel
theorem dX3_tell_24 : decode cX3_tell 24 = .ok (.aload_n 0, 1) := by decide +kernel
theorem dX3_tell_25 : decode cX3_tell 25 = .ok (.getfield 18, 3) := by decide +kernel
theorem dX3_tell_28 : decode cX3_tell 28 = .ok (.iload_n 1, 1) := by decide +kernel
theorem dX3_tell_29 : decode cX3_tell 29 = .ok (.iload 4, 2) := by decide +kernel
theorem dX3_tell_31 : decode cX3_tell 31 = .ok (.iastore, 1) := by decide +kernel
theorem dX3_tell_32 : decode cX3_tell 32 = .ok (.return_, 1) := by decide +kernel
theorem dX3_ageOf_0 : decode cX3_ageOf 0 = .ok (.iload_n 1, 1) := by decide +kernel
theorem dX3_ageOf_1 : decode cX3_ageOf 1 = .ok (.iconst 0, 1) := by decide +kernel
theorem dX3_ageOf_2 : decode cX3_ageOf 2 = .ok (.bipush 6, 2) := by decide +kernel
theorem dX3_ageOf_4 : decode cX3_ageOf 4 = .ok (.invokestatic 21, 3) := by decide +kernel
theorem dX3_ageOf_7 : decode cX3_ageOf 7 = .ok (.ifCond .eq 12, 3) := by decide +kernel
theorem dX3_ageOf_10 : decode cX3_ageOf 10 = .ok (.aload_n 0, 1) := by decide +kernel
theorem dX3_ageOf_11 : decode cX3_ageOf 11 = .ok (.getfield 9, 3) := by decide +kernel
theorem dX3_ageOf_14 : decode cX3_ageOf 14 = .ok (.iload_n 1, 1) := by decide +kernel
theorem dX3_ageOf_15 : decode cX3_ageOf 15 = .ok (.iaload, 1) := by decide +kernel
theorem dX3_ageOf_16 : decode cX3_ageOf 16 = .ok (.goto 4, 3) := by decide +kernel
theorem dX3_ageOf_19 : decode cX3_ageOf 19 = .ok (.iconst 0, 1) := by decide +kernel
theorem dX3_ageOf_20 : decode cX3_ageOf 20 = .ok (.ireturn, 1) := by decide +kernel
theorem dX3_backOf_0 : decode cX3_backOf 0 = .ok (.iload_n 1, 1) := by decide +kernel
theorem dX3_backOf_1 : decode cX3_backOf 1 = .ok (.iconst 0, 1) := by decide +kernel
theorem dX3_backOf_2 : decode cX3_backOf 2 = .ok (.bipush 6, 2) := by decide +kernel
theorem dX3_backOf_4 : decode cX3_backOf 4 = .ok (.invokestatic 21, 3) := by decide +kernel
theorem dX3_backOf_7 : decode cX3_backOf 7 = .ok (.ifCond .eq 12, 3) := by decide +kernel
theorem dX3_backOf_10 : decode cX3_backOf 10 = .ok (.aload_n 0, 1) := by decide +kernel
theorem dX3_backOf_11 : decode cX3_backOf 11 = .ok (.getfield 15, 3) := by decide +kernel
theorem dX3_backOf_14 : decode cX3_backOf 14 = .ok (.iload_n 1, 1) := by decide +kernel
theorem dX3_backOf_15 : decode cX3_backOf 15 = .ok (.iaload, 1) := by decide +kernel
theorem dX3_backOf_16 : decode cX3_backOf 16 = .ok (.goto 4, 3) := by decide +kernel
theorem dX3_backOf_19 : decode cX3_backOf 19 = .ok (.iconst 0, 1) := by decide +kernel
theorem dX3_backOf_20 : decode cX3_backOf 20 = .ok (.ireturn, 1) := by decide +kernel
theorem dX3_placeOf_0 : decode cX3_placeOf 0 = .ok (.iload_n 1, 1) := by decide +kernel
theorem dX3_placeOf_1 : decode cX3_placeOf 1 = .ok (.iconst 0, 1) := by decide +kernel
theorem dX3_placeOf_2 : decode cX3_placeOf 2 = .ok (.bipush 6, 2) := by decide +kernel
theorem dX3_placeOf_4 : decode cX3_placeOf 4 = .ok (.invokestatic 21, 3) := by decide +kernel
theorem dX3_placeOf_7 : decode cX3_placeOf 7 = .ok (.ifCond .eq 12, 3) := by decide +kernel
theorem dX3_placeOf_10 : decode cX3_placeOf 10 = .ok (.aload_n 0, 1) := by decide +kernel
theorem dX3_placeOf_11 : decode cX3_placeOf 11 = .ok (.getfield 18, 3) := by decide +kernel
theorem dX3_placeOf_14 : decode cX3_placeOf 14 = .ok (.iload_n 1, 1) := by decide +kernel
theorem dX3_placeOf_15 : decode cX3_placeOf 15 = .ok (.iaload, 1) := by decide +kernel
theorem dX3_placeOf_16 : decode cX3_placeOf 16 = .ok (.goto 4, 3) := by decide +kernel
theorem dX3_placeOf_19 : decode cX3_placeOf 19 = .ok (.iconst 0, 1) := by decide +kernel
theorem dX3_placeOf_20 : decode cX3_placeOf 20 = .ok (.ireturn, 1) := by decide +kernel
theorem dX4_init_0 : decode cX4_init 0 = .ok (.aload_n 0, 1) := by decide +kernel
theorem dX4_init_1 : decode cX4_init 1 = .ok (.invokespecial 3, 3) := by decide +kernel
theorem dX4_init_4 : decode cX4_init 4 = .ok (.aload_n 0, 1) := by decide +kernel
theorem dX4_init_5 : decode cX4_init 5 = .ok (.new 9, 3) := by decide +kernel
theorem dX4_init_8 : decode cX4_init 8 = .ok (.dup, 1) := by decide +kernel
theorem dX4_init_9 : decode cX4_init 9 = .ok (.invokespecial 11, 3) := by decide +kernel
theorem dX4_init_12 : decode cX4_init 12 = .ok (.putfield 12, 3) := by decide +kernel
theorem dX4_init_15 : decode cX4_init 15 = .ok (.aload_n 0, 1) := by decide +kernel
theorem dX4_init_16 : decode cX4_init 16 = .ok (.iconst (-1), 1) := by decide +kernel
theorem dX4_init_17 : decode cX4_init 17 = .ok (.putfield 18, 3) := by decide +kernel
theorem dX4_init_20 : decode cX4_init 20 = .ok (.aload_n 0, 1) := by decide +kernel
theorem dX4_init_21 : decode cX4_init 21 = .ok (.iconst (-1), 1) := by decide +kernel
theorem dX4_init_22 : decode cX4_init 22 = .ok (.putfield 22, 3) := by decide +kernel
theorem dX4_init_25 : decode cX4_init 25 = .ok (.aload_n 0, 1) := by decide +kernel
theorem dX4_init_26 : decode cX4_init 26 = .ok (.aload_n 1, 1) := by decide +kernel
theorem dX4_init_27 : decode cX4_init 27 = .ok (.putfield 25, 3) := by decide +kernel
theorem dX4_init_30 : decode cX4_init 30 = .ok (.return_, 1) := by decide +kernel
theorem dX4_read_0 : decode cX4_read 0 = .ok (.aload_n 0, 1) := by decide +kernel
theorem dX4_read_1 : decode cX4_read 1 = .ok (.iconst 0, 1) := by decide +kernel
theorem dX4_read_2 : decode cX4_read 2 = .ok (.putfield 18, 3) := by decide +kernel
theorem dX4_read_5 : decode cX4_read 5 = .ok (.aload_n 0, 1) := by decide +kernel
theorem dX4_read_6 : decode cX4_read 6 = .ok (.iconst (-1), 1) := by decide +kernel
theorem dX4_read_7 : decode cX4_read 7 = .ok (.putfield 22, 3) := by decide +kernel
theorem dX4_read_10 : decode cX4_read 10 = .ok (.aload_n 0, 1) := by decide +kernel
theorem dX4_read_11 : decode cX4_read 11 = .ok (.getfield 12, 3) := by decide +kernel
theorem dX4_read_14 : decode cX4_read 14 = .ok (.invokevirtual 29, 3) := by decide +kernel
theorem dX4_read_17 : decode cX4_read 17 = .ok (.aload_n 0, 1) := by decide +kernel
theorem dX4_read_18 : decode cX4_read 18 = .ok (.getfield 25, 3) := by decide +kernel
theorem dX4_read_21 : decode cX4_read 21 = .ok (.invokevirtual 32, 3) := by decide +kernel
theorem dX4_read_24 : decode cX4_read 24 = .ok (.iconst 0, 1) := by decide +kernel
theorem dX4_read_25 : decode cX4_read 25 = .ok (.istore_n 1, 1) := by decide +kernel
theorem dX4_read_26 : decode cX4_read 26 = .ok (.iload_n 1, 1) := by decide +kernel
theorem dX4_read_27 : decode cX4_read 27 = .ok (.bipush 24, 2) := by decide +kernel
theorem dX4_read_29 : decode cX4_read 29 = .ok (.if_icmp .gt 28, 3) := by decide +kernel
theorem dX4_read_32 : decode cX4_read 32 = .ok (.aload_n 0, 1) := by decide +kernel
theorem dX4_read_33 : decode cX4_read 33 = .ok (.getfield 18, 3) := by decide +kernel
theorem dX4_read_36 : decode cX4_read 36 = .ok (.ifCond .ne 21, 3) := by decide +kernel
theorem dX4_read_39 : decode cX4_read 39 = .ok (.aload_n 0, 1) := by decide +kernel
theorem dX4_read_40 : decode cX4_read 40 = .ok (.iconst 1, 1) := by decide +kernel
theorem dX4_read_41 : decode cX4_read 41 = .ok (.invokevirtual 37, 3) := by decide +kernel
theorem dX4_read_44 : decode cX4_read 44 = .ok (.ifCond .ne 13, 3) := by decide +kernel
theorem dX4_read_47 : decode cX4_read 47 = .ok (.aload_n 0, 1) := by decide +kernel
theorem dX4_read_48 : decode cX4_read 48 = .ok (.invokevirtual 41, 3) := by decide +kernel
theorem dX4_read_51 : decode cX4_read 51 = .ok (.iinc 1 1, 3) := by decide +kernel
theorem dX4_read_54 : decode cX4_read 54 = .ok (.goto (-28), 3) := by decide +kernel
theorem dX4_read_57 : decode cX4_read 57 = .ok (.aload_n 0, 1) := by decide +kernel
theorem dX4_read_58 : decode cX4_read 58 = .ok (.getfield 18, 3) := by decide +kernel
theorem dX4_read_61 : decode cX4_read 61 = .ok (.ifCond .ne 7, 3) := by decide +kernel
theorem dX4_read_64 : decode cX4_read 64 = .ok (.iconst 1, 1) := by decide +kernel
theorem dX4_read_65 : decode cX4_read 65 = .ok (.goto 4, 3) := by decide +kernel
theorem dX4_read_68 : decode cX4_read 68 = .ok (.iconst 0, 1) := by decide +kernel
theorem dX4_read_69 : decode cX4_read 69 = .ok (.ireturn, 1) := by decide +kernel
theorem dX4_is_0 : decode cX4_is 0 = .ok (.aload_n 0, 1) := by decide +kernel
theorem dX4_is_1 : decode cX4_is 1 = .ok (.getfield 18, 3) := by decide +kernel
theorem dX4_is_4 : decode cX4_is 4 = .ok (.ifCond .ne 18, 3) := by decide +kernel
theorem dX4_is_7 : decode cX4_is 7 = .ok (.aload_n 0, 1) := by decide +kernel
theorem dX4_is_8 : decode cX4_is 8 = .ok (.getfield 25, 3) := by decide +kernel
theorem dX4_is_11 : decode cX4_is 11 = .ok (.getfield 44, 3) := by decide +kernel
theorem dX4_is_14 : decode cX4_is 14 = .ok (.iload_n 1, 1) := by decide +kernel
theorem dX4_is_15 : decode cX4_is 15 = .ok (.if_icmp .ne 7, 3) := by decide +kernel
theorem dX4_is_18 : decode cX4_is 18 = .ok (.iconst 1, 1) := by decide +kernel
theorem dX4_is_19 : decode cX4_is 19 = .ok (.goto 4, 3) := by decide +kernel
theorem dX4_is_22 : decode cX4_is 22 = .ok (.iconst 0, 1) := by decide +kernel
theorem dX4_is_23 : decode cX4_is 23 = .ok (.ireturn, 1) := by decide +kernel
theorem dX4_fail_0 : decode cX4_fail 0 = .ok (.aload_n 0, 1) := by decide +kernel
theorem dX4_fail_1 : decode cX4_fail 1 = .ok (.getfield 18, 3) := by decide +kernel
theorem dX4_fail_4 : decode cX4_fail 4 = .ok (.ifCond .ne 19, 3) := by decide +kernel
theorem dX4_fail_7 : decode cX4_fail 7 = .ok (.aload_n 0, 1) := by decide +kernel
theorem dX4_fail_8 : decode cX4_fail 8 = .ok (.iload_n 1, 1) := by decide +kernel
theorem dX4_fail_9 : decode cX4_fail 9 = .ok (.putfield 18, 3) := by decide +kernel
theorem dX4_fail_12 : decode cX4_fail 12 = .ok (.aload_n 0, 1) := by decide +kernel
theorem dX4_fail_13 : decode cX4_fail 13 = .ok (.aload_n 0, 1) := by decide +kernel
theorem dX4_fail_14 : decode cX4_fail 14 = .ok (.getfield 25, 3) := by decide +kernel
theorem dX4_fail_17 : decode cX4_fail 17 = .ok (.getfield 47, 3) := by decide +kernel
theorem dX4_fail_20 : decode cX4_fail 20 = .ok (.putfield 22, 3) := by decide +kernel
theorem dX4_fail_23 : decode cX4_fail 23 = .ok (.return_, 1) := by decide +kernel
theorem dX4_expect_0 : decode cX4_expect 0 = .ok (.aload_n 0, 1) := by decide +kernel
theorem dX4_expect_1 : decode cX4_expect 1 = .ok (.iload_n 1, 1) := by decide +kernel
theorem dX4_expect_2 : decode cX4_expect 2 = .ok (.invokevirtual 37, 3) := by decide +kernel
theorem dX4_expect_5 : decode cX4_expect 5 = .ok (.ifCond .eq 13, 3) := by decide +kernel
theorem dX4_expect_8 : decode cX4_expect 8 = .ok (.aload_n 0, 1) := by decide +kernel
theorem dX4_expect_9 : decode cX4_expect 9 = .ok (.getfield 25, 3) := by decide +kernel
theorem dX4_expect_12 : decode cX4_expect 12 = .ok (.invokevirtual 50, 3) := by decide +kernel
theorem dX4_expect_15 : decode cX4_expect 15 = .ok (.goto 8, 3) := by decide +kernel
theorem dX4_expect_18 : decode cX4_expect 18 = .ok (.aload_n 0, 1) := by decide +kernel
theorem dX4_expect_19 : decode cX4_expect 19 = .ok (.iconst 1, 1) := by decide +kernel
theorem dX4_expect_20 : decode cX4_expect 20 = .ok (.invokevirtual 53, 3) := by decide +kernel
theorem dX4_expect_23 : decode cX4_expect 23 = .ok (.return_, 1) := by decide +kernel
theorem dX4_readClause_0 : decode cX4_readClause 0 = .ok (.aload_n 0, 1) := by decide +kernel
theorem dX4_readClause_1 : decode cX4_readClause 1 = .ok (.getfield 25, 3) := by decide +kernel
theorem dX4_readClause_4 : decode cX4_readClause 4 = .ok (.getfield 44, 3) := by decide +kernel
theorem dX4_readClause_7 : decode cX4_readClause 7 = .ok (.istore_n 1, 1) := by decide +kernel
theorem dX4_readClause_8 : decode cX4_readClause 8 = .ok (.iload_n 1, 1) := by decide +kernel
theorem dX4_readClause_9 : decode cX4_readClause 9 = .ok (.sipush 128, 3) := by decide +kernel
theorem dX4_readClause_12 : decode cX4_readClause 12 = .ok (.sipush 139, 3) := by decide +kernel
theorem dX4_readClause_15 : decode cX4_readClause 15 = .ok (.invokestatic 57, 3) := by decide +kernel
theorem dX4_readClause_18 : decode cX4_readClause 18 = .ok (.ifCond .ne 11, 3) := by decide +kernel
theorem dX4_readClause_21 : decode cX4_readClause 21 = .ok (.aload_n 0, 1) := by decide +kernel
theorem dX4_readClause_22 : decode cX4_readClause 22 = .ok (.iconst 1, 1) := by decide +kernel
theorem dX4_readClause_23 : decode cX4_readClause 23 = .ok (.invokevirtual 53, 3) := by decide +kernel
theorem dX4_readClause_26 : decode cX4_readClause 26 = .ok (.goto 104, 3) := by decide +kernel
theorem dX4_readClause_29 : decode cX4_readClause 29 = .ok (.iload_n 1, 1) := by decide +kernel
theorem dX4_readClause_30 : decode cX4_readClause 30 = .ok (.invokestatic 61, 3) := by decide +kernel
theorem dX4_readClause_33 : decode cX4_readClause 33 = .ok (.ifCond .eq 22, 3) := by decide +kernel
theorem dX4_readClause_36 : decode cX4_readClause 36 = .ok (.aload_n 0, 1) := by decide +kernel
theorem dX4_readClause_37 : decode cX4_readClause 37 = .ok (.getfield 12, 3) := by decide +kernel
theorem dX4_readClause_40 : decode cX4_readClause 40 = .ok (.iload_n 1, 1) := by decide +kernel
theorem dX4_readClause_41 : decode cX4_readClause 41 = .ok (.invokevirtual 64, 3) := by decide +kernel
theorem dX4_readClause_44 : decode cX4_readClause 44 = .ok (.ifCond .eq 11, 3) := by decide +kernel
theorem dX4_readClause_47 : decode cX4_readClause 47 = .ok (.aload_n 0, 1) := by decide +kernel
theorem dX4_readClause_48 : decode cX4_readClause 48 = .ok (.iconst 4, 1) := by decide +kernel
theorem dX4_readClause_49 : decode cX4_readClause 49 = .ok (.invokevirtual 53, 3) := by decide +kernel
theorem dX4_readClause_52 : decode cX4_readClause 52 = .ok (.goto 78, 3) := by decide +kernel
theorem dX4_readClause_55 : decode cX4_readClause 55 = .ok (.aload_n 0, 1) := by decide +kernel
theorem dX4_readClause_56 : decode cX4_readClause 56 = .ok (.getfield 12, 3) := by decide +kernel
theorem dX4_readClause_59 : decode cX4_readClause 59 = .ok (.getfield 67, 3) := by decide +kernel
theorem dX4_readClause_62 : decode cX4_readClause 62 = .ok (.bipush 24, 2) := by decide +kernel
theorem dX4_readClause_64 : decode cX4_readClause 64 = .ok (.if_icmp .lt 12, 3) := by decide +kernel
theorem dX4_readClause_67 : decode cX4_readClause 67 = .ok (.aload_n 0, 1) := by decide +kernel
theorem dX4_readClause_68 : decode cX4_readClause 68 = .ok (.bipush 6, 2) := by decide +kernel
theorem dX4_readClause_70 : decode cX4_readClause 70 = .ok (.invokevirtual 53, 3) := by decide +kernel
theorem dX4_readClause_73 : decode cX4_readClause 73 = .ok (.goto 57, 3) := by decide +kernel
theorem dX4_readClause_76 : decode cX4_readClause 76 = .ok (.aload_n 0, 1) := by decide +kernel
theorem dX4_readClause_77 : decode cX4_readClause 77 = .ok (.getfield 12, 3) := by decide +kernel
theorem dX4_readClause_80 : decode cX4_readClause 80 = .ok (.iload_n 1, 1) := by decide +kernel
theorem dX4_readClause_81 : decode cX4_readClause 81 = .ok (.invokevirtual 70, 3) := by decide +kernel
theorem dX4_readClause_84 : decode cX4_readClause 84 = .ok (.aload_n 0, 1) := by decide +kernel
theorem dX4_readClause_85 : decode cX4_readClause 85 = .ok (.getfield 25, 3) := by decide +kernel
theorem dX4_readClause_88 : decode cX4_readClause 88 = .ok (.invokevirtual 50, 3) := by decide +kernel
theorem dX4_readClause_91 : decode cX4_readClause 91 = .ok (.iload_n 1, 1) := by decide +kernel
theorem dX4_readClause_92 : decode cX4_readClause 92 = .ok (.invokestatic 61, 3) := by decide +kernel
theorem dX4_readClause_95 : decode cX4_readClause 95 = .ok (.ifCond .eq 24, 3) := by decide +kernel
theorem dX4_readClause_98 : decode cX4_readClause 98 = .ok (.aload_n 0, 1) := by decide +kernel
theorem dX4_readClause_99 : decode cX4_readClause 99 = .ok (.iload_n 1, 1) := by decide +kernel
theorem dX4_readClause_100 : decode cX4_readClause 100 = .ok (.putfield 73, 3) := by decide +kernel
theorem dX4_readClause_103 : decode cX4_readClause 103 = .ok (.aload_n 0, 1) := by decide +kernel
theorem dX4_readClause_104 : decode cX4_readClause 104 = .ok (.iconst 0, 1) := by decide +kernel
theorem dX4_readClause_105 : decode cX4_readClause 105 = .ok (.invokevirtual 76, 3) := by decide +kernel
theorem dX4_readClause_108 : decode cX4_readClause 108 = .ok (.aload_n 0, 1) := by decide +kernel
theorem dX4_readClause_109 : decode cX4_readClause 109 = .ok (.getfield 12, 3) := by decide +kernel
theorem dX4_readClause_112 : decode cX4_readClause 112 = .ok (.iload_n 1, 1) := by decide +kernel
theorem dX4_readClause_113 : decode cX4_readClause 113 = .ok (.invokevirtual 79, 3) := by decide +kernel
theorem dX4_readClause_116 : decode cX4_readClause 116 = .ok (.goto 8, 3) := by decide +kernel
theorem dX4_readClause_119 : decode cX4_readClause 119 = .ok (.aload_n 0, 1) := by decide +kernel
theorem dX4_readClause_120 : decode cX4_readClause 120 = .ok (.iload_n 1, 1) := by decide +kernel
theorem dX4_readClause_121 : decode cX4_readClause 121 = .ok (.invokevirtual 82, 3) := by decide +kernel
theorem dX4_readClause_124 : decode cX4_readClause 124 = .ok (.aload_n 0, 1) := by decide +kernel
theorem dX4_readClause_125 : decode cX4_readClause 125 = .ok (.bipush 59, 2) := by decide +kernel
theorem dX4_readClause_127 : decode cX4_readClause 127 = .ok (.invokevirtual 85, 3) := by decide +kernel
theorem dX4_readClause_130 : decode cX4_readClause 130 = .ok (.return_, 1) := by decide +kernel
theorem dX4_readDeed_0 : decode cX4_readDeed 0 = .ok (.iload_n 1, 1) := by decide +kernel
theorem dX4_readDeed_1 : decode cX4_readDeed 1 = .ok (.tableswitch 219 132 139 #[47, 88, 114, 156, 156, 167, 219, 208], 47) := by decide +kernel
theorem dX4_readDeed_48 : decode cX4_readDeed 48 = .ok (.aload_n 0, 1) := by decide +kernel
theorem dX4_readDeed_49 : decode cX4_readDeed 49 = .ok (.iconst 0, 1) := by decide +kernel
theorem dX4_readDeed_50 : decode cX4_readDeed 50 = .ok (.iconst 0, 1) := by decide +kernel
theorem dX4_readDeed_51 : decode cX4_readDeed 51 = .ok (.bipush 99, 2) := by decide +kernel
theorem dX4_readDeed_53 : decode cX4_readDeed 53 = .ok (.invokevirtual 88, 3) := by decide +kernel
theorem dX4_readDeed_56 : decode cX4_readDeed 56 = .ok (.aload_n 0, 1) := by decide +kernel
theorem dX4_readDeed_57 : decode cX4_readDeed 57 = .ok (.sipush 140, 3) := by decide +kernel
theorem dX4_readDeed_60 : decode cX4_readDeed 60 = .ok (.invokevirtual 85, 3) := by decide +kernel
theorem dX4_readDeed_63 : decode cX4_readDeed 63 = .ok (.aload_n 0, 1) := by decide +kernel
theorem dX4_readDeed_64 : decode cX4_readDeed 64 = .ok (.iconst 1, 1) := by decide +kernel
theorem dX4_readDeed_65 : decode cX4_readDeed 65 = .ok (.iconst 0, 1) := by decide +kernel
theorem dX4_readDeed_66 : decode cX4_readDeed 66 = .ok (.bipush 99, 2) := by decide +kernel
theorem dX4_readDeed_68 : decode cX4_readDeed 68 = .ok (.invokevirtual 88, 3) := by decide +kernel
theorem dX4_readDeed_71 : decode cX4_readDeed 71 = .ok (.aload_n 0, 1) := by decide +kernel
theorem dX4_readDeed_72 : decode cX4_readDeed 72 = .ok (.sipush 149, 3) := by decide +kernel
theorem dX4_readDeed_75 : decode cX4_readDeed 75 = .ok (.invokevirtual 85, 3) := by decide +kernel
theorem dX4_readDeed_78 : decode cX4_readDeed 78 = .ok (.aload_n 0, 1) := by decide +kernel
theorem dX4_readDeed_79 : decode cX4_readDeed 79 = .ok (.iconst 2, 1) := by decide +kernel
theorem dX4_readDeed_80 : decode cX4_readDeed 80 = .ok (.iconst 0, 1) := by decide +kernel
theorem dX4_readDeed_81 : decode cX4_readDeed 81 = .ok (.bipush 7, 2) := by decide +kernel
theorem dX4_readDeed_83 : decode cX4_readDeed 83 = .ok (.invokevirtual 88, 3) := by decide +kernel
theorem dX4_readDeed_86 : decode cX4_readDeed 86 = .ok (.goto 134, 3) := by decide +kernel
theorem dX4_readDeed_89 : decode cX4_readDeed 89 = .ok (.aload_n 0, 1) := by decide +kernel
theorem dX4_readDeed_90 : decode cX4_readDeed 90 = .ok (.iconst 0, 1) := by decide +kernel
theorem dX4_readDeed_91 : decode cX4_readDeed 91 = .ok (.iconst 0, 1) := by decide +kernel
theorem dX4_readDeed_92 : decode cX4_readDeed 92 = .ok (.bipush 6, 2) := by decide +kernel
theorem dX4_readDeed_94 : decode cX4_readDeed 94 = .ok (.invokevirtual 88, 3) := by decide +kernel
theorem dX4_readDeed_97 : decode cX4_readDeed 97 = .ok (.aload_n 0, 1) := by decide +kernel
theorem dX4_readDeed_98 : decode cX4_readDeed 98 = .ok (.sipush 150, 3) := by decide +kernel
theorem dX4_readDeed_101 : decode cX4_readDeed 101 = .ok (.invokevirtual 85, 3) := by decide +kernel
theorem dX4_readDeed_104 : decode cX4_readDeed 104 = .ok (.aload_n 0, 1) := by decide +kernel
theorem dX4_readDeed_105 : decode cX4_readDeed 105 = .ok (.iconst 1, 1) := by decide +kernel
theorem dX4_readDeed_106 : decode cX4_readDeed 106 = .ok (.iconst 0, 1) := by decide +kernel
theorem dX4_readDeed_107 : decode cX4_readDeed 107 = .ok (.bipush 6, 2) := by decide +kernel
theorem dX4_readDeed_109 : decode cX4_readDeed 109 = .ok (.invokevirtual 88, 3) := by decide +kernel
theorem dX4_readDeed_112 : decode cX4_readDeed 112 = .ok (.goto 108, 3) := by decide +kernel
theorem dX4_readDeed_115 : decode cX4_readDeed 115 = .ok (.aload_n 0, 1) := by decide +kernel
theorem dX4_readDeed_116 : decode cX4_readDeed 116 = .ok (.iconst 0, 1) := by decide +kernel
theorem dX4_readDeed_117 : decode cX4_readDeed 117 = .ok (.iconst 0, 1) := by decide +kernel
theorem dX4_readDeed_118 : decode cX4_readDeed 118 = .ok (.bipush 6, 2) := by decide +kernel
theorem dX4_readDeed_120 : decode cX4_readDeed 120 = .ok (.invokevirtual 88, 3) := by decide +kernel
theorem dX4_readDeed_123 : decode cX4_readDeed 123 = .ok (.aload_n 0, 1) := by decide +kernel
theorem dX4_readDeed_124 : decode cX4_readDeed 124 = .ok (.sipush 150, 3) := by decide +kernel
theorem dX4_readDeed_127 : decode cX4_readDeed 127 = .ok (.invokevirtual 85, 3) := by decide +kernel
theorem dX4_readDeed_130 : decode cX4_readDeed 130 = .ok (.aload_n 0, 1) := by decide +kernel
theorem dX4_readDeed_131 : decode cX4_readDeed 131 = .ok (.iconst 1, 1) := by decide +kernel
theorem dX4_readDeed_132 : decode cX4_readDeed 132 = .ok (.iconst 0, 1) := by decide +kernel
theorem dX4_readDeed_133 : decode cX4_readDeed 133 = .ok (.bipush 6, 2) := by decide +kernel
theorem dX4_readDeed_135 : decode cX4_readDeed 135 = .ok (.invokevirtual 88, 3) := by decide +kernel
theorem dX4_readDeed_138 : decode cX4_readDeed 138 = .ok (.aload_n 0, 1) := by decide +kernel
theorem dX4_readDeed_139 : decode cX4_readDeed 139 = .ok (.sipush 151, 3) := by decide +kernel
theorem dX4_readDeed_142 : decode cX4_readDeed 142 = .ok (.invokevirtual 85, 3) := by decide +kernel
theorem dX4_readDeed_145 : decode cX4_readDeed 145 = .ok (.aload_n 0, 1) := by decide +kernel
theorem dX4_readDeed_146 : decode cX4_readDeed 146 = .ok (.iconst 2, 1) := by decide +kernel
theorem dX4_readDeed_147 : decode cX4_readDeed 147 = .ok (.iconst 0, 1) := by decide +kernel
theorem dX4_readDeed_148 : decode cX4_readDeed 148 = .ok (.sipush 9999, 3) := by decide +kernel
theorem dX4_readDeed_151 : decode cX4_readDeed 151 = .ok (.invokevirtual 88, 3) := by decide +kernel
theorem dX4_readDeed_154 : decode cX4_readDeed 154 = .ok (.goto 66, 3) := by decide +kernel
theorem dX4_readDeed_157 : decode cX4_readDeed 157 = .ok (.aload_n 0, 1) := by decide +kernel
theorem dX4_readDeed_158 : decode cX4_readDeed 158 = .ok (.iconst 0, 1) := by decide +kernel
theorem dX4_readDeed_159 : decode cX4_readDeed 159 = .ok (.iconst 0, 1) := by decide +kernel
theorem dX4_readDeed_160 : decode cX4_readDeed 160 = .ok (.bipush 6, 2) := by decide +kernel
theorem dX4_readDeed_162 : decode cX4_readDeed 162 = .ok (.invokevirtual 88, 3) := by decide +kernel
theorem dX4_readDeed_165 : decode cX4_readDeed 165 = .ok (.goto 55, 3) := by decide +kernel
theorem dX4_readDeed_168 : decode cX4_readDeed 168 = .ok (.aload_n 0, 1) := by decide +kernel
theorem dX4_readDeed_169 : decode cX4_readDeed 169 = .ok (.iconst 0, 1) := by decide +kernel
theorem dX4_readDeed_170 : decode cX4_readDeed 170 = .ok (.iconst 0, 1) := by decide +kernel
theorem dX4_readDeed_171 : decode cX4_readDeed 171 = .ok (.bipush 6, 2) := by decide +kernel
theorem dX4_readDeed_173 : decode cX4_readDeed 173 = .ok (.invokevirtual 88, 3) := by decide +kernel
theorem dX4_readDeed_176 : decode cX4_readDeed 176 = .ok (.aload_n 0, 1) := by decide +kernel
theorem dX4_readDeed_177 : decode cX4_readDeed 177 = .ok (.sipush 152, 3) := by decide +kernel
theorem dX4_readDeed_180 : decode cX4_readDeed 180 = .ok (.invokevirtual 85, 3) := by decide +kernel
theorem dX4_readDeed_183 : decode cX4_readDeed 183 = .ok (.aload_n 0, 1) := by decide +kernel
theorem dX4_readDeed_184 : decode cX4_readDeed 184 = .ok (.iconst 1, 1) := by decide +kernel
theorem dX4_readDeed_185 : decode cX4_readDeed 185 = .ok (.iconst 0, 1) := by decide +kernel
theorem dX4_readDeed_186 : decode cX4_readDeed 186 = .ok (.bipush 6, 2) := by decide +kernel
theorem dX4_readDeed_188 : decode cX4_readDeed 188 = .ok (.invokevirtual 88, 3) := by decide +kernel
theorem dX4_readDeed_191 : decode cX4_readDeed 191 = .ok (.aload_n 0, 1) := by decide +kernel
theorem dX4_readDeed_192 : decode cX4_readDeed 192 = .ok (.sipush 152, 3) := by decide +kernel
theorem dX4_readDeed_195 : decode cX4_readDeed 195 = .ok (.invokevirtual 85, 3) := by decide +kernel
theorem dX4_readDeed_198 : decode cX4_readDeed 198 = .ok (.aload_n 0, 1) := by decide +kernel
theorem dX4_readDeed_199 : decode cX4_readDeed 199 = .ok (.iconst 2, 1) := by decide +kernel
theorem dX4_readDeed_200 : decode cX4_readDeed 200 = .ok (.iconst 0, 1) := by decide +kernel
theorem dX4_readDeed_201 : decode cX4_readDeed 201 = .ok (.bipush 6, 2) := by decide +kernel
theorem dX4_readDeed_203 : decode cX4_readDeed 203 = .ok (.invokevirtual 88, 3) := by decide +kernel
theorem dX4_readDeed_206 : decode cX4_readDeed 206 = .ok (.goto 14, 3) := by decide +kernel
theorem dX4_readDeed_209 : decode cX4_readDeed 209 = .ok (.aload_n 0, 1) := by decide +kernel
theorem dX4_readDeed_210 : decode cX4_readDeed 210 = .ok (.iconst 0, 1) := by decide +kernel
theorem dX4_readDeed_211 : decode cX4_readDeed 211 = .ok (.iconst 1, 1) := by decide +kernel
theorem dX4_readDeed_212 : decode cX4_readDeed 212 = .ok (.bipush 60, 2) := by decide +kernel
theorem dX4_readDeed_214 : decode cX4_readDeed 214 = .ok (.invokevirtual 88, 3) := by decide +kernel
theorem dX4_readDeed_217 : decode cX4_readDeed 217 = .ok (.goto 3, 3) := by decide +kernel
theorem dX4_readDeed_220 : decode cX4_readDeed 220 = .ok (.return_, 1) := by decide +kernel
theorem dX4_readNumber_0 : decode cX4_readNumber 0 = .ok (.aload_n 0, 1) := by decide +kernel
theorem dX4_readNumber_1 : decode cX4_readNumber 1 = .ok (.iconst 2, 1) := by decide +kernel
theorem dX4_readNumber_2 : decode cX4_readNumber 2 = .ok (.invokevirtual 37, 3) := by decide +kernel
theorem dX4_readNumber_5 : decode cX4_readNumber 5 = .ok (.ifCond .ne 11, 3) := by decide +kernel
theorem dX4_readNumber_8 : decode cX4_readNumber 8 = .ok (.aload_n 0, 1) := by decide +kernel
theorem dX4_readNumber_9 : decode cX4_readNumber 9 = .ok (.iconst 1, 1) := by decide +kernel
theorem dX4_readNumber_10 : decode cX4_readNumber 10 = .ok (.invokevirtual 53, 3) := by decide +kernel
theorem dX4_readNumber_13 : decode cX4_readNumber 13 = .ok (.goto 48, 3) := by decide +kernel
theorem dX4_readNumber_16 : decode cX4_readNumber 16 = .ok (.aload_n 0, 1) := by decide +kernel
theorem dX4_readNumber_17 : decode cX4_readNumber 17 = .ok (.getfield 25, 3) := by decide +kernel
theorem dX4_readNumber_20 : decode cX4_readNumber 20 = .ok (.getfield 92, 3) := by decide +kernel
theorem dX4_readNumber_23 : decode cX4_readNumber 23 = .ok (.iload_n 2, 1) := by decide +kernel
theorem dX4_readNumber_24 : decode cX4_readNumber 24 = .ok (.iload_n 3, 1) := by decide +kernel
theorem dX4_readNumber_25 : decode cX4_readNumber 25 = .ok (.invokestatic 57, 3) := by decide +kernel
theorem dX4_readNumber_28 : decode cX4_readNumber 28 = .ok (.ifCond .ne 11, 3) := by decide +kernel
theorem dX4_readNumber_31 : decode cX4_readNumber 31 = .ok (.aload_n 0, 1) := by decide +kernel
theorem dX4_readNumber_32 : decode cX4_readNumber 32 = .ok (.iconst 2, 1) := by decide +kernel
theorem dX4_readNumber_33 : decode cX4_readNumber 33 = .ok (.invokevirtual 53, 3) := by decide +kernel
theorem dX4_readNumber_36 : decode cX4_readNumber 36 = .ok (.goto 25, 3) := by decide +kernel
theorem dX4_readNumber_39 : decode cX4_readNumber 39 = .ok (.aload_n 0, 1) := by decide +kernel
theorem dX4_readNumber_40 : decode cX4_readNumber 40 = .ok (.getfield 12, 3) := by decide +kernel
theorem dX4_readNumber_43 : decode cX4_readNumber 43 = .ok (.iload_n 1, 1) := by decide +kernel
theorem dX4_readNumber_44 : decode cX4_readNumber 44 = .ok (.aload_n 0, 1) := by decide +kernel
theorem dX4_readNumber_45 : decode cX4_readNumber 45 = .ok (.getfield 25, 3) := by decide +kernel
theorem dX4_readNumber_48 : decode cX4_readNumber 48 = .ok (.getfield 92, 3) := by decide +kernel
theorem dX4_readNumber_51 : decode cX4_readNumber 51 = .ok (.invokevirtual 95, 3) := by decide +kernel
theorem dX4_readNumber_54 : decode cX4_readNumber 54 = .ok (.aload_n 0, 1) := by decide +kernel
theorem dX4_readNumber_55 : decode cX4_readNumber 55 = .ok (.getfield 25, 3) := by decide +kernel
theorem dX4_readNumber_58 : decode cX4_readNumber 58 = .ok (.invokevirtual 50, 3) := by decide +kernel
theorem dX4_readNumber_61 : decode cX4_readNumber 61 = .ok (.return_, 1) := by decide +kernel
theorem dX4_readSum_0 : decode cX4_readSum 0 = .ok (.aload_n 0, 1) := by decide +kernel
theorem dX4_readSum_1 : decode cX4_readSum 1 = .ok (.iload_n 1, 1) := by decide +kernel
theorem dX4_readSum_2 : decode cX4_readSum 2 = .ok (.invokevirtual 99, 3) := by decide +kernel
theorem dX4_readSum_5 : decode cX4_readSum 5 = .ok (.iconst 0, 1) := by decide +kernel
theorem dX4_readSum_6 : decode cX4_readSum 6 = .ok (.istore_n 2, 1) := by decide +kernel
theorem dX4_readSum_7 : decode cX4_readSum 7 = .ok (.iload_n 2, 1) := by decide +kernel
theorem dX4_readSum_8 : decode cX4_readSum 8 = .ok (.sipush 300, 3) := by decide +kernel
theorem dX4_readSum_11 : decode cX4_readSum 11 = .ok (.if_icmp .ge 57, 3) := by decide +kernel
theorem dX4_readSum_14 : decode cX4_readSum 14 = .ok (.aload_n 0, 1) := by decide +kernel
theorem dX4_readSum_15 : decode cX4_readSum 15 = .ok (.bipush 43, 2) := by decide +kernel
theorem dX4_readSum_17 : decode cX4_readSum 17 = .ok (.invokevirtual 37, 3) := by decide +kernel
theorem dX4_readSum_20 : decode cX4_readSum 20 = .ok (.ifCond .ne 12, 3) := by decide +kernel
theorem dX4_readSum_23 : decode cX4_readSum 23 = .ok (.aload_n 0, 1) := by decide +kernel
theorem dX4_readSum_24 : decode cX4_readSum 24 = .ok (.bipush 45, 2) := by decide +kernel
theorem dX4_readSum_26 : decode cX4_readSum 26 = .ok (.invokevirtual 37, 3) := by decide +kernel
theorem dX4_readSum_29 : decode cX4_readSum 29 = .ok (.ifCond .eq 39, 3) := by decide +kernel
theorem dX4_readSum_32 : decode cX4_readSum 32 = .ok (.aload_n 0, 1) := by decide +kernel
theorem dX4_readSum_33 : decode cX4_readSum 33 = .ok (.getfield 25, 3) := by decide +kernel
theorem dX4_readSum_36 : decode cX4_readSum 36 = .ok (.getfield 44, 3) := by decide +kernel
theorem dX4_readSum_39 : decode cX4_readSum 39 = .ok (.istore_n 3, 1) := by decide +kernel
theorem dX4_readSum_40 : decode cX4_readSum 40 = .ok (.aload_n 0, 1) := by decide +kernel
theorem dX4_readSum_41 : decode cX4_readSum 41 = .ok (.getfield 25, 3) := by decide +kernel
theorem dX4_readSum_44 : decode cX4_readSum 44 = .ok (.invokevirtual 50, 3) := by decide +kernel
theorem dX4_readSum_47 : decode cX4_readSum 47 = .ok (.aload_n 0, 1) := by decide +kernel
theorem dX4_readSum_48 : decode cX4_readSum 48 = .ok (.iload_n 1, 1) := by decide +kernel
theorem dX4_readSum_49 : decode cX4_readSum 49 = .ok (.invokevirtual 99, 3) := by decide +kernel
theorem dX4_readSum_52 : decode cX4_readSum 52 = .ok (.aload_n 0, 1) := by decide +kernel
theorem dX4_readSum_53 : decode cX4_readSum 53 = .ok (.getfield 12, 3) := by decide +kernel
theorem dX4_readSum_56 : decode cX4_readSum 56 = .ok (.iload_n 3, 1) := by decide +kernel
theorem dX4_readSum_57 : decode cX4_readSum 57 = .ok (.iconst 0, 1) := by decide +kernel
theorem dX4_readSum_58 : decode cX4_readSum 58 = .ok (.invokevirtual 102, 3) := by decide +kernel
theorem dX4_readSum_61 : decode cX4_readSum 61 = .ok (.pop, 1) := by decide +kernel
theorem dX4_readSum_62 : decode cX4_readSum 62 = .ok (.iinc 2 1, 3) := by decide +kernel
theorem dX4_readSum_65 : decode cX4_readSum 65 = .ok (.goto (-58), 3) := by decide +kernel
theorem dX4_readSum_68 : decode cX4_readSum 68 = .ok (.return_, 1) := by decide +kernel
theorem dX4_readProduct_0 : decode cX4_readProduct 0 = .ok (.aload_n 0, 1) := by decide +kernel
theorem dX4_readProduct_1 : decode cX4_readProduct 1 = .ok (.iload_n 1, 1) := by decide +kernel
theorem dX4_readProduct_2 : decode cX4_readProduct 2 = .ok (.invokevirtual 106, 3) := by decide +kernel
theorem dX4_readProduct_5 : decode cX4_readProduct 5 = .ok (.iconst 0, 1) := by decide +kernel
theorem dX4_readProduct_6 : decode cX4_readProduct 6 = .ok (.istore_n 2, 1) := by decide +kernel
theorem dX4_readProduct_7 : decode cX4_readProduct 7 = .ok (.iload_n 2, 1) := by decide +kernel
theorem dX4_readProduct_8 : decode cX4_readProduct 8 = .ok (.sipush 300, 3) := by decide +kernel
theorem dX4_readProduct_11 : decode cX4_readProduct 11 = .ok (.if_icmp .ge 57, 3) := by decide +kernel
theorem dX4_readProduct_14 : decode cX4_readProduct 14 = .ok (.aload_n 0, 1) := by decide +kernel
theorem dX4_readProduct_15 : decode cX4_readProduct 15 = .ok (.bipush 42, 2) := by decide +kernel
theorem dX4_readProduct_17 : decode cX4_readProduct 17 = .ok (.invokevirtual 37, 3) := by decide +kernel
theorem dX4_readProduct_20 : decode cX4_readProduct 20 = .ok (.ifCond .ne 12, 3) := by decide +kernel
theorem dX4_readProduct_23 : decode cX4_readProduct 23 = .ok (.aload_n 0, 1) := by decide +kernel
theorem dX4_readProduct_24 : decode cX4_readProduct 24 = .ok (.bipush 47, 2) := by decide +kernel
theorem dX4_readProduct_26 : decode cX4_readProduct 26 = .ok (.invokevirtual 37, 3) := by decide +kernel
theorem dX4_readProduct_29 : decode cX4_readProduct 29 = .ok (.ifCond .eq 39, 3) := by decide +kernel
theorem dX4_readProduct_32 : decode cX4_readProduct 32 = .ok (.aload_n 0, 1) := by decide +kernel
theorem dX4_readProduct_33 : decode cX4_readProduct 33 = .ok (.getfield 25, 3) := by decide +kernel
theorem dX4_readProduct_36 : decode cX4_readProduct 36 = .ok (.getfield 44, 3) := by decide +kernel
theorem dX4_readProduct_39 : decode cX4_readProduct 39 = .ok (.istore_n 3, 1) := by decide +kernel
theorem dX4_readProduct_40 : decode cX4_readProduct 40 = .ok (.aload_n 0, 1) := by decide +kernel
theorem dX4_readProduct_41 : decode cX4_readProduct 41 = .ok (.getfield 25, 3) := by decide +kernel
theorem dX4_readProduct_44 : decode cX4_readProduct 44 = .ok (.invokevirtual 50, 3) := by decide +kernel
theorem dX4_readProduct_47 : decode cX4_readProduct 47 = .ok (.aload_n 0, 1) := by decide +kernel
theorem dX4_readProduct_48 : decode cX4_readProduct 48 = .ok (.iload_n 1, 1) := by decide +kernel
theorem dX4_readProduct_49 : decode cX4_readProduct 49 = .ok (.invokevirtual 106, 3) := by decide +kernel
theorem dX4_readProduct_52 : decode cX4_readProduct 52 = .ok (.aload_n 0, 1) := by decide +kernel
