theorem dX12_hourPasses_48 : decode cX12_hourPasses 48 = .ok (.ireturn, 1) := by decide +kernel
theorem dX12_passesThrough_0 : decode cX12_passesThrough 0 = .ok (.aload_n 0, 1) := by decide +kernel
theorem dX12_passesThrough_1 : decode cX12_passesThrough 1 = .ok (.invokevirtual 399, 3) := by decide +kernel
theorem dX12_passesThrough_4 : decode cX12_passesThrough 4 = .ok (.aload_n 0, 1) := by decide +kernel
theorem dX12_passesThrough_5 : decode cX12_passesThrough 5 = .ok (.iconst (-1), 1) := by decide +kernel
theorem dX12_passesThrough_6 : decode cX12_passesThrough 6 = .ok (.putfield 393, 3) := by decide +kernel
theorem dX12_passesThrough_9 : decode cX12_passesThrough 9 = .ok (.iconst 0, 1) := by decide +kernel
theorem dX12_passesThrough_10 : decode cX12_passesThrough 10 = .ok (.istore_n 2, 1) := by decide +kernel
theorem dX12_passesThrough_11 : decode cX12_passesThrough 11 = .ok (.iconst 0, 1) := by decide +kernel
theorem dX12_passesThrough_12 : decode cX12_passesThrough 12 = .ok (.istore_n 3, 1) := by decide +kernel
theorem dX12_passesThrough_13 : decode cX12_passesThrough 13 = .ok (.iload_n 3, 1) := by decide +kernel
theorem dX12_passesThrough_14 : decode cX12_passesThrough 14 = .ok (.iload_n 1, 1) := by decide +kernel
theorem dX12_passesThrough_15 : decode cX12_passesThrough 15 = .ok (.if_icmp .ge 23, 3) := by decide +kernel
theorem dX12_passesThrough_18 : decode cX12_passesThrough 18 = .ok (.aload_n 0, 1) := by decide +kernel
theorem dX12_passesThrough_19 : decode cX12_passesThrough 19 = .ok (.invokevirtual 402, 3) := by decide +kernel
theorem dX12_passesThrough_22 : decode cX12_passesThrough 22 = .ok (.ifCond .eq 16, 3) := by decide +kernel
theorem dX12_passesThrough_25 : decode cX12_passesThrough 25 = .ok (.iload_n 2, 1) := by decide +kernel
theorem dX12_passesThrough_26 : decode cX12_passesThrough 26 = .ok (.aload_n 0, 1) := by decide +kernel
theorem dX12_passesThrough_27 : decode cX12_passesThrough 27 = .ok (.invokevirtual 406, 3) := by decide +kernel
theorem dX12_passesThrough_30 : decode cX12_passesThrough 30 = .ok (.iadd, 1) := by decide +kernel
theorem dX12_passesThrough_31 : decode cX12_passesThrough 31 = .ok (.istore_n 2, 1) := by decide +kernel
theorem dX12_passesThrough_32 : decode cX12_passesThrough 32 = .ok (.iinc 3 1, 3) := by decide +kernel
theorem dX12_passesThrough_35 : decode cX12_passesThrough 35 = .ok (.goto (-22), 3) := by decide +kernel
theorem dX12_passesThrough_38 : decode cX12_passesThrough 38 = .ok (.iload_n 2, 1) := by decide +kernel
theorem dX12_passesThrough_39 : decode cX12_passesThrough 39 = .ok (.ireturn, 1) := by decide +kernel
theorem dX12_bow_0 : decode cX12_bow 0 = .ok (.aload_n 0, 1) := by decide +kernel
theorem dX12_bow_1 : decode cX12_bow 1 = .ok (.iload_n 1, 1) := by decide +kernel
theorem dX12_bow_2 : decode cX12_bow 2 = .ok (.iload_n 2, 1) := by decide +kernel
theorem dX12_bow_3 : decode cX12_bow 3 = .ok (.invokevirtual 409, 3) := by decide +kernel
theorem dX12_bow_6 : decode cX12_bow 6 = .ok (.ifCond .ne 5, 3) := by decide +kernel
theorem dX12_bow_9 : decode cX12_bow 9 = .ok (.iconst (-1), 1) := by decide +kernel
theorem dX12_bow_10 : decode cX12_bow 10 = .ok (.ireturn, 1) := by decide +kernel
theorem dX12_bow_11 : decode cX12_bow 11 = .ok (.aload_n 0, 1) := by decide +kernel
theorem dX12_bow_12 : decode cX12_bow 12 = .ok (.invokevirtual 399, 3) := by decide +kernel
theorem dX12_bow_15 : decode cX12_bow 15 = .ok (.aload_n 0, 1) := by decide +kernel
theorem dX12_bow_16 : decode cX12_bow 16 = .ok (.iload_n 1, 1) := by decide +kernel
theorem dX12_bow_17 : decode cX12_bow 17 = .ok (.iload_n 2, 1) := by decide +kernel
theorem dX12_bow_18 : decode cX12_bow 18 = .ok (.invokevirtual 412, 3) := by decide +kernel
theorem dX12_bow_21 : decode cX12_bow 21 = .ok (.ifCond .ne 5, 3) := by decide +kernel
theorem dX12_bow_24 : decode cX12_bow 24 = .ok (.iconst (-1), 1) := by decide +kernel
theorem dX12_bow_25 : decode cX12_bow 25 = .ok (.ireturn, 1) := by decide +kernel
theorem dX12_bow_26 : decode cX12_bow 26 = .ok (.aload_n 0, 1) := by decide +kernel
theorem dX12_bow_27 : decode cX12_bow 27 = .ok (.invokevirtual 415, 3) := by decide +kernel
theorem dX12_bow_30 : decode cX12_bow 30 = .ok (.aload_n 0, 1) := by decide +kernel
theorem dX12_bow_31 : decode cX12_bow 31 = .ok (.iload_n 1, 1) := by decide +kernel
theorem dX12_bow_32 : decode cX12_bow 32 = .ok (.iload_n 2, 1) := by decide +kernel
theorem dX12_bow_33 : decode cX12_bow 33 = .ok (.invokevirtual 418, 3) := by decide +kernel
theorem dX12_bow_36 : decode cX12_bow 36 = .ok (.aload_n 0, 1) := by decide +kernel
theorem dX12_bow_37 : decode cX12_bow 37 = .ok (.invokevirtual 421, 3) := by decide +kernel
theorem dX12_bow_40 : decode cX12_bow 40 = .ok (.aload_n 0, 1) := by decide +kernel
theorem dX12_bow_41 : decode cX12_bow 41 = .ok (.getfield 87, 3) := by decide +kernel
theorem dX12_bow_44 : decode cX12_bow 44 = .ok (.iconst 0, 1) := by decide +kernel
theorem dX12_bow_45 : decode cX12_bow 45 = .ok (.iload_n 1, 1) := by decide +kernel
theorem dX12_bow_46 : decode cX12_bow 46 = .ok (.iadd, 1) := by decide +kernel
theorem dX12_bow_47 : decode cX12_bow 47 = .ok (.iaload, 1) := by decide +kernel
theorem dX12_bow_48 : decode cX12_bow 48 = .ok (.ireturn, 1) := by decide +kernel
theorem dX12_owe_0 : decode cX12_owe 0 = .ok (.aload_n 0, 1) := by decide +kernel
theorem dX12_owe_1 : decode cX12_owe 1 = .ok (.iload_n 1, 1) := by decide +kernel
theorem dX12_owe_2 : decode cX12_owe 2 = .ok (.iload_n 2, 1) := by decide +kernel
theorem dX12_owe_3 : decode cX12_owe 3 = .ok (.invokevirtual 409, 3) := by decide +kernel
theorem dX12_owe_6 : decode cX12_owe 6 = .ok (.ifCond .eq 31, 3) := by decide +kernel
theorem dX12_owe_9 : decode cX12_owe 9 = .ok (.iload_n 3, 1) := by decide +kernel
theorem dX12_owe_10 : decode cX12_owe 10 = .ok (.iconst 0, 1) := by decide +kernel
theorem dX12_owe_11 : decode cX12_owe 11 = .ok (.sipush 9999, 3) := by decide +kernel
theorem dX12_owe_14 : decode cX12_owe 14 = .ok (.invokestatic 107, 3) := by decide +kernel
theorem dX12_owe_17 : decode cX12_owe 17 = .ok (.ifCond .eq 20, 3) := by decide +kernel
theorem dX12_owe_20 : decode cX12_owe 20 = .ok (.aload_n 0, 1) := by decide +kernel
theorem dX12_owe_21 : decode cX12_owe 21 = .ok (.getfield 7, 3) := by decide +kernel
theorem dX12_owe_24 : decode cX12_owe 24 = .ok (.bipush 40, 2) := by decide +kernel
theorem dX12_owe_26 : decode cX12_owe 26 = .ok (.iload_n 1, 1) := by decide +kernel
theorem dX12_owe_27 : decode cX12_owe 27 = .ok (.iload_n 2, 1) := by decide +kernel
theorem dX12_owe_28 : decode cX12_owe 28 = .ok (.invokestatic 335, 3) := by decide +kernel
theorem dX12_owe_31 : decode cX12_owe 31 = .ok (.iadd, 1) := by decide +kernel
theorem dX12_owe_32 : decode cX12_owe 32 = .ok (.iaload, 1) := by decide +kernel
theorem dX12_owe_33 : decode cX12_owe 33 = .ok (.iload_n 3, 1) := by decide +kernel
theorem dX12_owe_34 : decode cX12_owe 34 = .ok (.if_icmp .ne 5, 3) := by decide +kernel
theorem dX12_owe_37 : decode cX12_owe 37 = .ok (.iconst 0, 1) := by decide +kernel
theorem dX12_owe_38 : decode cX12_owe 38 = .ok (.ireturn, 1) := by decide +kernel
theorem dX12_owe_39 : decode cX12_owe 39 = .ok (.aload_n 0, 1) := by decide +kernel
theorem dX12_owe_40 : decode cX12_owe 40 = .ok (.invokevirtual 415, 3) := by decide +kernel
theorem dX12_owe_43 : decode cX12_owe 43 = .ok (.aload_n 0, 1) := by decide +kernel
theorem dX12_owe_44 : decode cX12_owe 44 = .ok (.getfield 7, 3) := by decide +kernel
theorem dX12_owe_47 : decode cX12_owe 47 = .ok (.bipush 40, 2) := by decide +kernel
theorem dX12_owe_49 : decode cX12_owe 49 = .ok (.iload_n 1, 1) := by decide +kernel
theorem dX12_owe_50 : decode cX12_owe 50 = .ok (.iload_n 2, 1) := by decide +kernel
theorem dX12_owe_51 : decode cX12_owe 51 = .ok (.invokestatic 335, 3) := by decide +kernel
theorem dX12_owe_54 : decode cX12_owe 54 = .ok (.iadd, 1) := by decide +kernel
theorem dX12_owe_55 : decode cX12_owe 55 = .ok (.iload_n 3, 1) := by decide +kernel
theorem dX12_owe_56 : decode cX12_owe 56 = .ok (.iastore, 1) := by decide +kernel
theorem dX12_owe_57 : decode cX12_owe 57 = .ok (.iconst 1, 1) := by decide +kernel
theorem dX12_owe_58 : decode cX12_owe 58 = .ok (.ireturn, 1) := by decide +kernel
theorem dX12_walk_0 : decode cX12_walk 0 = .ok (.aload_n 0, 1) := by decide +kernel
theorem dX12_walk_1 : decode cX12_walk 1 = .ok (.iload_n 1, 1) := by decide +kernel
theorem dX12_walk_2 : decode cX12_walk 2 = .ok (.invokevirtual 111, 3) := by decide +kernel
theorem dX12_walk_5 : decode cX12_walk 5 = .ok (.ifCond .eq 25, 3) := by decide +kernel
theorem dX12_walk_8 : decode cX12_walk 8 = .ok (.iload_n 2, 1) := by decide +kernel
theorem dX12_walk_9 : decode cX12_walk 9 = .ok (.iconst 1, 1) := by decide +kernel
theorem dX12_walk_10 : decode cX12_walk 10 = .ok (.if_icmp .eq 8, 3) := by decide +kernel
theorem dX12_walk_13 : decode cX12_walk 13 = .ok (.iload_n 2, 1) := by decide +kernel
theorem dX12_walk_14 : decode cX12_walk 14 = .ok (.iconst (-1), 1) := by decide +kernel
theorem dX12_walk_15 : decode cX12_walk 15 = .ok (.if_icmp .ne 15, 3) := by decide +kernel
theorem dX12_walk_18 : decode cX12_walk 18 = .ok (.aload_n 0, 1) := by decide +kernel
theorem dX12_walk_19 : decode cX12_walk 19 = .ok (.getfield 7, 3) := by decide +kernel
theorem dX12_walk_22 : decode cX12_walk 22 = .ok (.bipush 54, 2) := by decide +kernel
theorem dX12_walk_24 : decode cX12_walk 24 = .ok (.iload_n 1, 1) := by decide +kernel
theorem dX12_walk_25 : decode cX12_walk 25 = .ok (.iadd, 1) := by decide +kernel
theorem dX12_walk_26 : decode cX12_walk 26 = .ok (.iaload, 1) := by decide +kernel
theorem dX12_walk_27 : decode cX12_walk 27 = .ok (.ifCond .le 5, 3) := by decide +kernel
theorem dX12_walk_30 : decode cX12_walk 30 = .ok (.iconst (-1), 1) := by decide +kernel
theorem dX12_walk_31 : decode cX12_walk 31 = .ok (.ireturn, 1) := by decide +kernel
theorem dX12_walk_32 : decode cX12_walk 32 = .ok (.aload_n 0, 1) := by decide +kernel
theorem dX12_walk_33 : decode cX12_walk 33 = .ok (.invokevirtual 415, 3) := by decide +kernel
theorem dX12_walk_36 : decode cX12_walk 36 = .ok (.aload_n 0, 1) := by decide +kernel
theorem dX12_walk_37 : decode cX12_walk 37 = .ok (.invokevirtual 399, 3) := by decide +kernel
theorem dX12_walk_40 : decode cX12_walk 40 = .ok (.aload_n 0, 1) := by decide +kernel
theorem dX12_walk_41 : decode cX12_walk 41 = .ok (.iload_n 1, 1) := by decide +kernel
theorem dX12_walk_42 : decode cX12_walk 42 = .ok (.iload_n 2, 1) := by decide +kernel
theorem dX12_walk_43 : decode cX12_walk 43 = .ok (.invokevirtual 424, 3) := by decide +kernel
theorem dX12_walk_46 : decode cX12_walk 46 = .ok (.aload_n 0, 1) := by decide +kernel
theorem dX12_walk_47 : decode cX12_walk 47 = .ok (.invokevirtual 421, 3) := by decide +kernel
theorem dX12_walk_50 : decode cX12_walk 50 = .ok (.aload_n 0, 1) := by decide +kernel
theorem dX12_walk_51 : decode cX12_walk 51 = .ok (.getfield 87, 3) := by decide +kernel
theorem dX12_walk_54 : decode cX12_walk 54 = .ok (.bipush 7, 2) := by decide +kernel
theorem dX12_walk_56 : decode cX12_walk 56 = .ok (.iload_n 1, 1) := by decide +kernel
theorem dX12_walk_57 : decode cX12_walk 57 = .ok (.iadd, 1) := by decide +kernel
theorem dX12_walk_58 : decode cX12_walk 58 = .ok (.iaload, 1) := by decide +kernel
theorem dX12_walk_59 : decode cX12_walk 59 = .ok (.ireturn, 1) := by decide +kernel
theorem dX12_feast_0 : decode cX12_feast 0 = .ok (.aload_n 0, 1) := by decide +kernel
theorem dX12_feast_1 : decode cX12_feast 1 = .ok (.invokevirtual 415, 3) := by decide +kernel
theorem dX12_feast_4 : decode cX12_feast 4 = .ok (.aload_n 0, 1) := by decide +kernel
theorem dX12_feast_5 : decode cX12_feast 5 = .ok (.invokevirtual 399, 3) := by decide +kernel
theorem dX12_feast_8 : decode cX12_feast 8 = .ok (.aload_n 0, 1) := by decide +kernel
theorem dX12_feast_9 : decode cX12_feast 9 = .ok (.invokevirtual 427, 3) := by decide +kernel
theorem dX12_feast_12 : decode cX12_feast 12 = .ok (.istore_n 1, 1) := by decide +kernel
theorem dX12_feast_13 : decode cX12_feast 13 = .ok (.aload_n 0, 1) := by decide +kernel
theorem dX12_feast_14 : decode cX12_feast 14 = .ok (.invokevirtual 421, 3) := by decide +kernel
theorem dX12_feast_17 : decode cX12_feast 17 = .ok (.iload_n 1, 1) := by decide +kernel
theorem dX12_feast_18 : decode cX12_feast 18 = .ok (.ireturn, 1) := by decide +kernel
theorem dX12_clear_0 : decode cX12_clear 0 = .ok (.aload_n 0, 1) := by decide +kernel
theorem dX12_clear_1 : decode cX12_clear 1 = .ok (.iload_n 1, 1) := by decide +kernel
theorem dX12_clear_2 : decode cX12_clear 2 = .ok (.iload_n 2, 1) := by decide +kernel
theorem dX12_clear_3 : decode cX12_clear 3 = .ok (.invokevirtual 409, 3) := by decide +kernel
theorem dX12_clear_6 : decode cX12_clear 6 = .ok (.ifCond .eq 17, 3) := by decide +kernel
theorem dX12_clear_9 : decode cX12_clear 9 = .ok (.aload_n 0, 1) := by decide +kernel
theorem dX12_clear_10 : decode cX12_clear 10 = .ok (.iload_n 2, 1) := by decide +kernel
theorem dX12_clear_11 : decode cX12_clear 11 = .ok (.iload_n 3, 1) := by decide +kernel
theorem dX12_clear_12 : decode cX12_clear 12 = .ok (.invokevirtual 409, 3) := by decide +kernel
theorem dX12_clear_15 : decode cX12_clear 15 = .ok (.ifCond .eq 8, 3) := by decide +kernel
theorem dX12_clear_18 : decode cX12_clear 18 = .ok (.iload_n 1, 1) := by decide +kernel
theorem dX12_clear_19 : decode cX12_clear 19 = .ok (.iload_n 3, 1) := by decide +kernel
theorem dX12_clear_20 : decode cX12_clear 20 = .ok (.if_icmp .ne 5, 3) := by decide +kernel
theorem dX12_clear_23 : decode cX12_clear 23 = .ok (.iconst (-1), 1) := by decide +kernel
theorem dX12_clear_24 : decode cX12_clear 24 = .ok (.ireturn, 1) := by decide +kernel
theorem dX12_clear_25 : decode cX12_clear 25 = .ok (.aload_n 0, 1) := by decide +kernel
theorem dX12_clear_26 : decode cX12_clear 26 = .ok (.invokevirtual 399, 3) := by decide +kernel
theorem dX12_clear_29 : decode cX12_clear 29 = .ok (.aload_n 0, 1) := by decide +kernel
theorem dX12_clear_30 : decode cX12_clear 30 = .ok (.iload_n 1, 1) := by decide +kernel
theorem dX12_clear_31 : decode cX12_clear 31 = .ok (.iload_n 2, 1) := by decide +kernel
theorem dX12_clear_32 : decode cX12_clear 32 = .ok (.invokevirtual 372, 3) := by decide +kernel
theorem dX12_clear_35 : decode cX12_clear 35 = .ok (.ifCond .eq 12, 3) := by decide +kernel
theorem dX12_clear_38 : decode cX12_clear 38 = .ok (.aload_n 0, 1) := by decide +kernel
theorem dX12_clear_39 : decode cX12_clear 39 = .ok (.iload_n 2, 1) := by decide +kernel
theorem dX12_clear_40 : decode cX12_clear 40 = .ok (.iload_n 3, 1) := by decide +kernel
theorem dX12_clear_41 : decode cX12_clear 41 = .ok (.invokevirtual 372, 3) := by decide +kernel
theorem dX12_clear_44 : decode cX12_clear 44 = .ok (.ifCond .ne 5, 3) := by decide +kernel
theorem dX12_clear_47 : decode cX12_clear 47 = .ok (.iconst (-1), 1) := by decide +kernel
theorem dX12_clear_48 : decode cX12_clear 48 = .ok (.ireturn, 1) := by decide +kernel
theorem dX12_clear_49 : decode cX12_clear 49 = .ok (.aload_n 0, 1) := by decide +kernel
theorem dX12_clear_50 : decode cX12_clear 50 = .ok (.getfield 87, 3) := by decide +kernel
theorem dX12_clear_53 : decode cX12_clear 53 = .ok (.iload_n 1, 1) := by decide +kernel
theorem dX12_clear_54 : decode cX12_clear 54 = .ok (.iload_n 2, 1) := by decide +kernel
theorem dX12_clear_55 : decode cX12_clear 55 = .ok (.invokestatic 335, 3) := by decide +kernel
theorem dX12_clear_58 : decode cX12_clear 58 = .ok (.iaload, 1) := by decide +kernel
theorem dX12_clear_59 : decode cX12_clear 59 = .ok (.istore 4, 2) := by decide +kernel
theorem dX12_clear_61 : decode cX12_clear 61 = .ok (.aload_n 0, 1) := by decide +kernel
theorem dX12_clear_62 : decode cX12_clear 62 = .ok (.getfield 87, 3) := by decide +kernel
theorem dX12_clear_65 : decode cX12_clear 65 = .ok (.iload_n 2, 1) := by decide +kernel
theorem dX12_clear_66 : decode cX12_clear 66 = .ok (.iload_n 3, 1) := by decide +kernel
theorem dX12_clear_67 : decode cX12_clear 67 = .ok (.invokestatic 335, 3) := by decide +kernel
theorem dX12_clear_70 : decode cX12_clear 70 = .ok (.iaload, 1) := by decide +kernel
theorem dX12_clear_71 : decode cX12_clear 71 = .ok (.iload 4, 2) := by decide +kernel
theorem dX12_clear_73 : decode cX12_clear 73 = .ok (.if_icmp .ge 16, 3) := by decide +kernel
theorem dX12_clear_76 : decode cX12_clear 76 = .ok (.aload_n 0, 1) := by decide +kernel
theorem dX12_clear_77 : decode cX12_clear 77 = .ok (.getfield 87, 3) := by decide +kernel
theorem dX12_clear_80 : decode cX12_clear 80 = .ok (.iload_n 2, 1) := by decide +kernel
theorem dX12_clear_81 : decode cX12_clear 81 = .ok (.iload_n 3, 1) := by decide +kernel
theorem dX12_clear_82 : decode cX12_clear 82 = .ok (.invokestatic 335, 3) := by decide +kernel
theorem dX12_clear_85 : decode cX12_clear 85 = .ok (.iaload, 1) := by decide +kernel
theorem dX12_clear_86 : decode cX12_clear 86 = .ok (.goto 5, 3) := by decide +kernel
theorem dX12_clear_89 : decode cX12_clear 89 = .ok (.iload 4, 2) := by decide +kernel
theorem dX12_clear_91 : decode cX12_clear 91 = .ok (.istore 4, 2) := by decide +kernel
theorem dX12_clear_93 : decode cX12_clear 93 = .ok (.aload_n 0, 1) := by decide +kernel
theorem dX12_clear_94 : decode cX12_clear 94 = .ok (.getfield 87, 3) := by decide +kernel
theorem dX12_clear_97 : decode cX12_clear 97 = .ok (.iload_n 3, 1) := by decide +kernel
theorem dX12_clear_98 : decode cX12_clear 98 = .ok (.iload_n 1, 1) := by decide +kernel
theorem dX12_clear_99 : decode cX12_clear 99 = .ok (.invokestatic 335, 3) := by decide +kernel
theorem dX12_clear_102 : decode cX12_clear 102 = .ok (.iaload, 1) := by decide +kernel
theorem dX12_clear_103 : decode cX12_clear 103 = .ok (.iload 4, 2) := by decide +kernel
theorem dX12_clear_105 : decode cX12_clear 105 = .ok (.if_icmp .ge 16, 3) := by decide +kernel
theorem dX12_clear_108 : decode cX12_clear 108 = .ok (.aload_n 0, 1) := by decide +kernel
theorem dX12_clear_109 : decode cX12_clear 109 = .ok (.getfield 87, 3) := by decide +kernel
theorem dX12_clear_112 : decode cX12_clear 112 = .ok (.iload_n 3, 1) := by decide +kernel
theorem dX12_clear_113 : decode cX12_clear 113 = .ok (.iload_n 1, 1) := by decide +kernel
theorem dX12_clear_114 : decode cX12_clear 114 = .ok (.invokestatic 335, 3) := by decide +kernel
theorem dX12_clear_117 : decode cX12_clear 117 = .ok (.iaload, 1) := by decide +kernel
theorem dX12_clear_118 : decode cX12_clear 118 = .ok (.goto 5, 3) := by decide +kernel
theorem dX12_clear_121 : decode cX12_clear 121 = .ok (.iload 4, 2) := by decide +kernel
theorem dX12_clear_123 : decode cX12_clear 123 = .ok (.istore 4, 2) := by decide +kernel
theorem dX12_clear_125 : decode cX12_clear 125 = .ok (.iload 4, 2) := by decide +kernel
theorem dX12_clear_127 : decode cX12_clear 127 = .ok (.ifCond .ne 5, 3) := by decide +kernel
theorem dX12_clear_130 : decode cX12_clear 130 = .ok (.iconst (-1), 1) := by decide +kernel
theorem dX12_clear_131 : decode cX12_clear 131 = .ok (.ireturn, 1) := by decide +kernel
theorem dX12_clear_132 : decode cX12_clear 132 = .ok (.aload_n 0, 1) := by decide +kernel
theorem dX12_clear_133 : decode cX12_clear 133 = .ok (.invokevirtual 415, 3) := by decide +kernel
theorem dX12_clear_136 : decode cX12_clear 136 = .ok (.aload_n 0, 1) := by decide +kernel
theorem dX12_clear_137 : decode cX12_clear 137 = .ok (.getfield 87, 3) := by decide +kernel
theorem dX12_clear_140 : decode cX12_clear 140 = .ok (.iload_n 1, 1) := by decide +kernel
theorem dX12_clear_141 : decode cX12_clear 141 = .ok (.iload_n 2, 1) := by decide +kernel
theorem dX12_clear_142 : decode cX12_clear 142 = .ok (.invokestatic 335, 3) := by decide +kernel
theorem dX12_clear_145 : decode cX12_clear 145 = .ok (.dup2, 1) := by decide +kernel
theorem dX12_clear_146 : decode cX12_clear 146 = .ok (.iaload, 1) := by decide +kernel
theorem dX12_clear_147 : decode cX12_clear 147 = .ok (.iload 4, 2) := by decide +kernel
theorem dX12_clear_149 : decode cX12_clear 149 = .ok (.isub, 1) := by decide +kernel
theorem dX12_clear_150 : decode cX12_clear 150 = .ok (.iastore, 1) := by decide +kernel
theorem dX12_clear_151 : decode cX12_clear 151 = .ok (.aload_n 0, 1) := by decide +kernel
theorem dX12_clear_152 : decode cX12_clear 152 = .ok (.getfield 87, 3) := by decide +kernel
theorem dX12_clear_155 : decode cX12_clear 155 = .ok (.iload_n 2, 1) := by decide +kernel
theorem dX12_clear_156 : decode cX12_clear 156 = .ok (.iload_n 3, 1) := by decide +kernel
theorem dX12_clear_157 : decode cX12_clear 157 = .ok (.invokestatic 335, 3) := by decide +kernel
theorem dX12_clear_160 : decode cX12_clear 160 = .ok (.dup2, 1) := by decide +kernel
theorem dX12_clear_161 : decode cX12_clear 161 = .ok (.iaload, 1) := by decide +kernel
theorem dX12_clear_162 : decode cX12_clear 162 = .ok (.iload 4, 2) := by decide +kernel
theorem dX12_clear_164 : decode cX12_clear 164 = .ok (.isub, 1) := by decide +kernel
theorem dX12_clear_165 : decode cX12_clear 165 = .ok (.iastore, 1) := by decide +kernel
theorem dX12_clear_166 : decode cX12_clear 166 = .ok (.aload_n 0, 1) := by decide +kernel
theorem dX12_clear_167 : decode cX12_clear 167 = .ok (.getfield 87, 3) := by decide +kernel
theorem dX12_clear_170 : decode cX12_clear 170 = .ok (.iload_n 3, 1) := by decide +kernel
theorem dX12_clear_171 : decode cX12_clear 171 = .ok (.iload_n 1, 1) := by decide +kernel
theorem dX12_clear_172 : decode cX12_clear 172 = .ok (.invokestatic 335, 3) := by decide +kernel
theorem dX12_clear_175 : decode cX12_clear 175 = .ok (.dup2, 1) := by decide +kernel
theorem dX12_clear_176 : decode cX12_clear 176 = .ok (.iaload, 1) := by decide +kernel
theorem dX12_clear_177 : decode cX12_clear 177 = .ok (.iload 4, 2) := by decide +kernel
theorem dX12_clear_179 : decode cX12_clear 179 = .ok (.isub, 1) := by decide +kernel
theorem dX12_clear_180 : decode cX12_clear 180 = .ok (.iastore, 1) := by decide +kernel
theorem dX12_clear_181 : decode cX12_clear 181 = .ok (.aload_n 0, 1) := by decide +kernel
theorem dX12_clear_182 : decode cX12_clear 182 = .ok (.invokevirtual 421, 3) := by decide +kernel
theorem dX12_clear_185 : decode cX12_clear 185 = .ok (.iload 4, 2) := by decide +kernel
theorem dX12_clear_187 : decode cX12_clear 187 = .ok (.ireturn, 1) := by decide +kernel
theorem dX12_hour_0 : decode cX12_hour 0 = .ok (.iload_n 1, 1) := by decide +kernel
theorem dX12_hour_1 : decode cX12_hour 1 = .ok (.iconst 1, 1) := by decide +kernel
theorem dX12_hour_2 : decode cX12_hour 2 = .ok (.bipush 60, 2) := by decide +kernel
theorem dX12_hour_4 : decode cX12_hour 4 = .ok (.invokestatic 107, 3) := by decide +kernel
theorem dX12_hour_7 : decode cX12_hour 7 = .ok (.ifCond .eq 28, 3) := by decide +kernel
theorem dX12_hour_10 : decode cX12_hour 10 = .ok (.aload_n 0, 1) := by decide +kernel
theorem dX12_hour_11 : decode cX12_hour 11 = .ok (.getfield 7, 3) := by decide +kernel
theorem dX12_hour_14 : decode cX12_hour 14 = .ok (.bipush 110, 2) := by decide +kernel
theorem dX12_hour_16 : decode cX12_hour 16 = .ok (.iaload, 1) := by decide +kernel
theorem dX12_hour_17 : decode cX12_hour 17 = .ok (.bipush 10, 2) := by decide +kernel
theorem dX12_hour_19 : decode cX12_hour 19 = .ok (.imul, 1) := by decide +kernel
theorem dX12_hour_20 : decode cX12_hour 20 = .ok (.aload_n 0, 1) := by decide +kernel
theorem dX12_hour_21 : decode cX12_hour 21 = .ok (.getfield 7, 3) := by decide +kernel
theorem dX12_hour_24 : decode cX12_hour 24 = .ok (.bipush 111, 2) := by decide +kernel
theorem dX12_hour_26 : decode cX12_hour 26 = .ok (.iaload, 1) := by decide +kernel
theorem dX12_hour_27 : decode cX12_hour 27 = .ok (.iadd, 1) := by decide +kernel
theorem dX12_hour_28 : decode cX12_hour 28 = .ok (.iload_n 1, 1) := by decide +kernel
theorem dX12_hour_29 : decode cX12_hour 29 = .ok (.iadd, 1) := by decide +kernel
theorem dX12_hour_30 : decode cX12_hour 30 = .ok (.ldc 214, 2) := by decide +kernel
theorem dX12_hour_32 : decode cX12_hour 32 = .ok (.if_icmp .le 5, 3) := by decide +kernel
theorem dX12_hour_35 : decode cX12_hour 35 = .ok (.iconst (-1), 1) := by decide +kernel
theorem dX12_hour_36 : decode cX12_hour 36 = .ok (.ireturn, 1) := by decide +kernel
theorem dX12_hour_37 : decode cX12_hour 37 = .ok (.iconst 0, 1) := by decide +kernel
theorem dX12_hour_38 : decode cX12_hour 38 = .ok (.istore_n 2, 1) := by decide +kernel
theorem dX12_hour_39 : decode cX12_hour 39 = .ok (.iconst 0, 1) := by decide +kernel
theorem dX12_hour_40 : decode cX12_hour 40 = .ok (.istore_n 3, 1) := by decide +kernel
theorem dX12_hour_41 : decode cX12_hour 41 = .ok (.iload_n 3, 1) := by decide +kernel
theorem dX12_hour_42 : decode cX12_hour 42 = .ok (.iload_n 1, 1) := by decide +kernel
theorem dX12_hour_43 : decode cX12_hour 43 = .ok (.if_icmp .ge 28, 3) := by decide +kernel
theorem dX12_hour_46 : decode cX12_hour 46 = .ok (.aload_n 0, 1) := by decide +kernel
theorem dX12_hour_47 : decode cX12_hour 47 = .ok (.invokevirtual 415, 3) := by decide +kernel
theorem dX12_hour_50 : decode cX12_hour 50 = .ok (.aload_n 0, 1) := by decide +kernel
theorem dX12_hour_51 : decode cX12_hour 51 = .ok (.invokevirtual 399, 3) := by decide +kernel
theorem dX12_hour_54 : decode cX12_hour 54 = .ok (.iload_n 2, 1) := by decide +kernel
theorem dX12_hour_55 : decode cX12_hour 55 = .ok (.aload_n 0, 1) := by decide +kernel
theorem dX12_hour_56 : decode cX12_hour 56 = .ok (.invokevirtual 406, 3) := by decide +kernel
theorem dX12_hour_59 : decode cX12_hour 59 = .ok (.iadd, 1) := by decide +kernel
theorem dX12_hour_60 : decode cX12_hour 60 = .ok (.istore_n 2, 1) := by decide +kernel
theorem dX12_hour_61 : decode cX12_hour 61 = .ok (.aload_n 0, 1) := by decide +kernel
theorem dX12_hour_62 : decode cX12_hour 62 = .ok (.invokevirtual 421, 3) := by decide +kernel
theorem dX12_hour_65 : decode cX12_hour 65 = .ok (.iinc 3 1, 3) := by decide +kernel
theorem dX12_hour_68 : decode cX12_hour 68 = .ok (.goto (-27), 3) := by decide +kernel
theorem dX12_hour_71 : decode cX12_hour 71 = .ok (.iload_n 2, 1) := by decide +kernel
theorem dX12_hour_72 : decode cX12_hour 72 = .ok (.ireturn, 1) := by decide +kernel
theorem dX12_draw_0 : decode cX12_draw 0 = .ok (.aload_n 0, 1) := by decide +kernel
theorem dX12_draw_1 : decode cX12_draw 1 = .ok (.getfield 87, 3) := by decide +kernel
theorem dX12_draw_4 : decode cX12_draw 4 = .ok (.bipush 72, 2) := by decide +kernel
theorem dX12_draw_6 : decode cX12_draw 6 = .ok (.iaload, 1) := by decide +kernel
theorem dX12_draw_7 : decode cX12_draw 7 = .ok (.iload_n 1, 1) := by decide +kernel
theorem dX12_draw_8 : decode cX12_draw 8 = .ok (.irem, 1) := by decide +kernel
theorem dX12_draw_9 : decode cX12_draw 9 = .ok (.istore_n 2, 1) := by decide +kernel
theorem dX12_draw_10 : decode cX12_draw 10 = .ok (.aload_n 0, 1) := by decide +kernel
theorem dX12_draw_11 : decode cX12_draw 11 = .ok (.getfield 87, 3) := by decide +kernel
theorem dX12_draw_14 : decode cX12_draw 14 = .ok (.bipush 72, 2) := by decide +kernel
theorem dX12_draw_16 : decode cX12_draw 16 = .ok (.aload_n 0, 1) := by decide +kernel
theorem dX12_draw_17 : decode cX12_draw 17 = .ok (.getfield 87, 3) := by decide +kernel
theorem dX12_draw_20 : decode cX12_draw 20 = .ok (.bipush 72, 2) := by decide +kernel
theorem dX12_draw_22 : decode cX12_draw 22 = .ok (.iaload, 1) := by decide +kernel
theorem dX12_draw_23 : decode cX12_draw 23 = .ok (.sipush 299, 3) := by decide +kernel
theorem dX12_draw_26 : decode cX12_draw 26 = .ok (.imul, 1) := by decide +kernel
theorem dX12_draw_27 : decode cX12_draw 27 = .ok (.sipush 199, 3) := by decide +kernel
theorem dX12_draw_30 : decode cX12_draw 30 = .ok (.iadd, 1) := by decide +kernel
theorem dX12_draw_31 : decode cX12_draw 31 = .ok (.sipush 30323, 3) := by decide +kernel
theorem dX12_draw_34 : decode cX12_draw 34 = .ok (.irem, 1) := by decide +kernel
theorem dX12_draw_35 : decode cX12_draw 35 = .ok (.iastore, 1) := by decide +kernel
theorem dX12_draw_36 : decode cX12_draw 36 = .ok (.iload_n 2, 1) := by decide +kernel
theorem dX12_draw_37 : decode cX12_draw 37 = .ok (.ireturn, 1) := by decide +kernel
theorem dX12_happens_0 : decode cX12_happens 0 = .ok (.aload_n 0, 1) := by decide +kernel
theorem dX12_happens_1 : decode cX12_happens 1 = .ok (.bipush 7, 2) := by decide +kernel
theorem dX12_happens_3 : decode cX12_happens 3 = .ok (.invokevirtual 430, 3) := by decide +kernel
theorem dX12_happens_6 : decode cX12_happens 6 = .ok (.istore_n 1, 1) := by decide +kernel
theorem dX12_happens_7 : decode cX12_happens 7 = .ok (.aload_n 0, 1) := by decide +kernel
theorem dX12_happens_8 : decode cX12_happens 8 = .ok (.aload_n 0, 1) := by decide +kernel
theorem dX12_happens_9 : decode cX12_happens 9 = .ok (.getfield 7, 3) := by decide +kernel
theorem dX12_happens_12 : decode cX12_happens 12 = .ok (.iconst 0, 1) := by decide +kernel
theorem dX12_happens_13 : decode cX12_happens 13 = .ok (.iaload, 1) := by decide +kernel
theorem dX12_happens_14 : decode cX12_happens 14 = .ok (.invokevirtual 430, 3) := by decide +kernel
theorem dX12_happens_17 : decode cX12_happens 17 = .ok (.istore_n 2, 1) := by decide +kernel
theorem dX12_happens_18 : decode cX12_happens 18 = .ok (.iload_n 1, 1) := by decide +kernel
theorem dX12_happens_19 : decode cX12_happens 19 = .ok (.iconst 3, 1) := by decide +kernel
theorem dX12_happens_20 : decode cX12_happens 20 = .ok (.if_icmp .ge 32, 3) := by decide +kernel
theorem dX12_happens_23 : decode cX12_happens 23 = .ok (.aload_n 0, 1) := by decide +kernel
theorem dX12_happens_24 : decode cX12_happens 24 = .ok (.aload_n 0, 1) := by decide +kernel
theorem dX12_happens_25 : decode cX12_happens 25 = .ok (.getfield 7, 3) := by decide +kernel
theorem dX12_happens_28 : decode cX12_happens 28 = .ok (.iconst 0, 1) := by decide +kernel
theorem dX12_happens_29 : decode cX12_happens 29 = .ok (.iaload, 1) := by decide +kernel
theorem dX12_happens_30 : decode cX12_happens 30 = .ok (.invokevirtual 430, 3) := by decide +kernel
theorem dX12_happens_33 : decode cX12_happens 33 = .ok (.istore_n 3, 1) := by decide +kernel
theorem dX12_happens_34 : decode cX12_happens 34 = .ok (.aload_n 0, 1) := by decide +kernel
theorem dX12_happens_35 : decode cX12_happens 35 = .ok (.iload_n 2, 1) := by decide +kernel
theorem dX12_happens_36 : decode cX12_happens 36 = .ok (.iload_n 3, 1) := by decide +kernel
theorem dX12_happens_37 : decode cX12_happens 37 = .ok (.invokevirtual 412, 3) := by decide +kernel
theorem dX12_happens_40 : decode cX12_happens 40 = .ok (.ifCond .eq 9, 3) := by decide +kernel
theorem dX12_happens_43 : decode cX12_happens 43 = .ok (.aload_n 0, 1) := by decide +kernel
theorem dX12_happens_44 : decode cX12_happens 44 = .ok (.iload_n 2, 1) := by decide +kernel
theorem dX12_happens_45 : decode cX12_happens 45 = .ok (.iload_n 3, 1) := by decide +kernel
theorem dX12_happens_46 : decode cX12_happens 46 = .ok (.invokevirtual 418, 3) := by decide +kernel
theorem dX12_happens_49 : decode cX12_happens 49 = .ok (.goto 74, 3) := by decide +kernel
theorem dX12_happens_52 : decode cX12_happens 52 = .ok (.iload_n 1, 1) := by decide +kernel
theorem dX12_happens_53 : decode cX12_happens 53 = .ok (.iconst 3, 1) := by decide +kernel
theorem dX12_happens_54 : decode cX12_happens 54 = .ok (.if_icmp .ne 35, 3) := by decide +kernel
theorem dX12_happens_57 : decode cX12_happens 57 = .ok (.aload_n 0, 1) := by decide +kernel
theorem dX12_happens_58 : decode cX12_happens 58 = .ok (.iconst 2, 1) := by decide +kernel
theorem dX12_happens_59 : decode cX12_happens 59 = .ok (.invokevirtual 430, 3) := by decide +kernel
theorem dX12_happens_62 : decode cX12_happens 62 = .ok (.iconst 1, 1) := by decide +kernel
theorem dX12_happens_63 : decode cX12_happens 63 = .ok (.if_icmp .ne 7, 3) := by decide +kernel
theorem dX12_happens_66 : decode cX12_happens 66 = .ok (.iconst 1, 1) := by decide +kernel
theorem dX12_happens_67 : decode cX12_happens 67 = .ok (.goto 4, 3) := by decide +kernel
theorem dX12_happens_70 : decode cX12_happens 70 = .ok (.iconst (-1), 1) := by decide +kernel
theorem dX12_happens_71 : decode cX12_happens 71 = .ok (.istore_n 3, 1) := by decide +kernel
theorem dX12_happens_72 : decode cX12_happens 72 = .ok (.aload_n 0, 1) := by decide +kernel
theorem dX12_happens_73 : decode cX12_happens 73 = .ok (.iload_n 2, 1) := by decide +kernel
theorem dX12_happens_74 : decode cX12_happens 74 = .ok (.invokevirtual 369, 3) := by decide +kernel
theorem dX12_happens_77 : decode cX12_happens 77 = .ok (.ifCond .eq 9, 3) := by decide +kernel
theorem dX12_happens_80 : decode cX12_happens 80 = .ok (.aload_n 0, 1) := by decide +kernel
theorem dX12_happens_81 : decode cX12_happens 81 = .ok (.iload_n 2, 1) := by decide +kernel
theorem dX12_happens_82 : decode cX12_happens 82 = .ok (.iload_n 3, 1) := by decide +kernel
theorem dX12_happens_83 : decode cX12_happens 83 = .ok (.invokevirtual 424, 3) := by decide +kernel
theorem dX12_happens_86 : decode cX12_happens 86 = .ok (.goto 37, 3) := by decide +kernel
theorem dX12_happens_89 : decode cX12_happens 89 = .ok (.iload_n 1, 1) := by decide +kernel
theorem dX12_happens_90 : decode cX12_happens 90 = .ok (.iconst 4, 1) := by decide +kernel
theorem dX12_happens_91 : decode cX12_happens 91 = .ok (.if_icmp .ne 20, 3) := by decide +kernel
theorem dX12_happens_94 : decode cX12_happens 94 = .ok (.aload_n 0, 1) := by decide +kernel
theorem dX12_happens_95 : decode cX12_happens 95 = .ok (.bipush 9, 2) := by decide +kernel
theorem dX12_happens_97 : decode cX12_happens 97 = .ok (.invokevirtual 430, 3) := by decide +kernel
theorem dX12_happens_100 : decode cX12_happens 100 = .ok (.ifCond .ne 23, 3) := by decide +kernel
theorem dX12_happens_103 : decode cX12_happens 103 = .ok (.aload_n 0, 1) := by decide +kernel
theorem dX12_happens_104 : decode cX12_happens 104 = .ok (.invokevirtual 427, 3) := by decide +kernel
theorem dX12_happens_107 : decode cX12_happens 107 = .ok (.istore_n 3, 1) := by decide +kernel
theorem dX12_happens_108 : decode cX12_happens 108 = .ok (.goto 15, 3) := by decide +kernel
theorem dX12_happens_111 : decode cX12_happens 111 = .ok (.aload_n 0, 1) := by decide +kernel
theorem dX12_happens_112 : decode cX12_happens 112 = .ok (.invokevirtual 402, 3) := by decide +kernel
theorem dX12_happens_115 : decode cX12_happens 115 = .ok (.ifCond .eq 8, 3) := by decide +kernel
theorem dX12_happens_118 : decode cX12_happens 118 = .ok (.aload_n 0, 1) := by decide +kernel
theorem dX12_happens_119 : decode cX12_happens 119 = .ok (.invokevirtual 406, 3) := by decide +kernel
theorem dX12_happens_122 : decode cX12_happens 122 = .ok (.istore_n 3, 1) := by decide +kernel
theorem dX12_happens_123 : decode cX12_happens 123 = .ok (.return_, 1) := by decide +kernel
theorem dX12_weeks_0 : decode cX12_weeks 0 = .ok (.iload_n 1, 1) := by decide +kernel
theorem dX12_weeks_1 : decode cX12_weeks 1 = .ok (.iconst 0, 1) := by decide +kernel
theorem dX12_weeks_2 : decode cX12_weeks 2 = .ok (.sipush 9999, 3) := by decide +kernel
theorem dX12_weeks_5 : decode cX12_weeks 5 = .ok (.invokestatic 107, 3) := by decide +kernel
theorem dX12_weeks_8 : decode cX12_weeks 8 = .ok (.ifCond .eq 22, 3) := by decide +kernel
theorem dX12_weeks_11 : decode cX12_weeks 11 = .ok (.iload_n 2, 1) := by decide +kernel
theorem dX12_weeks_12 : decode cX12_weeks 12 = .ok (.iconst 1, 1) := by decide +kernel
theorem dX12_weeks_13 : decode cX12_weeks 13 = .ok (.bipush 30, 2) := by decide +kernel
theorem dX12_weeks_15 : decode cX12_weeks 15 = .ok (.invokestatic 107, 3) := by decide +kernel
theorem dX12_weeks_18 : decode cX12_weeks 18 = .ok (.ifCond .eq 12, 3) := by decide +kernel
theorem dX12_weeks_21 : decode cX12_weeks 21 = .ok (.aload_n 0, 1) := by decide +kernel
theorem dX12_weeks_22 : decode cX12_weeks 22 = .ok (.getfield 7, 3) := by decide +kernel
theorem dX12_weeks_25 : decode cX12_weeks 25 = .ok (.iconst 0, 1) := by decide +kernel
theorem dX12_weeks_26 : decode cX12_weeks 26 = .ok (.iaload, 1) := by decide +kernel
theorem dX12_weeks_27 : decode cX12_weeks 27 = .ok (.ifCond .ne 5, 3) := by decide +kernel
theorem dX12_weeks_30 : decode cX12_weeks 30 = .ok (.iconst (-1), 1) := by decide +kernel
theorem dX12_weeks_31 : decode cX12_weeks 31 = .ok (.ireturn, 1) := by decide +kernel
theorem dX12_weeks_32 : decode cX12_weeks 32 = .ok (.aload_n 0, 1) := by decide +kernel
theorem dX12_weeks_33 : decode cX12_weeks 33 = .ok (.invokevirtual 415, 3) := by decide +kernel
theorem dX12_weeks_36 : decode cX12_weeks 36 = .ok (.aload_n 0, 1) := by decide +kernel
theorem dX12_weeks_37 : decode cX12_weeks 37 = .ok (.invokevirtual 399, 3) := by decide +kernel
theorem dX12_weeks_40 : decode cX12_weeks 40 = .ok (.aload_n 0, 1) := by decide +kernel
theorem dX12_weeks_41 : decode cX12_weeks 41 = .ok (.getfield 87, 3) := by decide +kernel
theorem dX12_weeks_44 : decode cX12_weeks 44 = .ok (.bipush 72, 2) := by decide +kernel
theorem dX12_weeks_46 : decode cX12_weeks 46 = .ok (.iload_n 1, 1) := by decide +kernel
theorem dX12_weeks_47 : decode cX12_weeks 47 = .ok (.iconst 2, 1) := by decide +kernel
theorem dX12_weeks_48 : decode cX12_weeks 48 = .ok (.imul, 1) := by decide +kernel
theorem dX12_weeks_49 : decode cX12_weeks 49 = .ok (.bipush 97, 2) := by decide +kernel
theorem dX12_weeks_51 : decode cX12_weeks 51 = .ok (.iadd, 1) := by decide +kernel
theorem dX12_weeks_52 : decode cX12_weeks 52 = .ok (.iastore, 1) := by decide +kernel
theorem dX12_weeks_53 : decode cX12_weeks 53 = .ok (.iconst 0, 1) := by decide +kernel
theorem dX12_weeks_54 : decode cX12_weeks 54 = .ok (.istore_n 3, 1) := by decide +kernel
theorem dX12_weeks_55 : decode cX12_weeks 55 = .ok (.iload_n 3, 1) := by decide +kernel
theorem dX12_weeks_56 : decode cX12_weeks 56 = .ok (.iload_n 2, 1) := by decide +kernel
theorem dX12_weeks_57 : decode cX12_weeks 57 = .ok (.if_icmp .ge 13, 3) := by decide +kernel
theorem dX12_weeks_60 : decode cX12_weeks 60 = .ok (.aload_n 0, 1) := by decide +kernel
theorem dX12_weeks_61 : decode cX12_weeks 61 = .ok (.invokevirtual 433, 3) := by decide +kernel
theorem dX12_weeks_64 : decode cX12_weeks 64 = .ok (.iinc 3 1, 3) := by decide +kernel
theorem dX12_weeks_67 : decode cX12_weeks 67 = .ok (.goto (-12), 3) := by decide +kernel
theorem dX12_weeks_70 : decode cX12_weeks 70 = .ok (.aload_n 0, 1) := by decide +kernel
theorem dX12_weeks_71 : decode cX12_weeks 71 = .ok (.invokevirtual 421, 3) := by decide +kernel
theorem dX12_weeks_74 : decode cX12_weeks 74 = .ok (.aload_n 0, 1) := by decide +kernel
theorem dX12_weeks_75 : decode cX12_weeks 75 = .ok (.getfield 87, 3) := by decide +kernel
theorem dX12_weeks_78 : decode cX12_weeks 78 = .ok (.bipush 70, 2) := by decide +kernel
theorem dX12_weeks_80 : decode cX12_weeks 80 = .ok (.iaload, 1) := by decide +kernel
theorem dX12_weeks_81 : decode cX12_weeks 81 = .ok (.ireturn, 1) := by decide +kernel
theorem dX12_hours_0 : decode cX12_hours 0 = .ok (.iconst 0, 1) := by decide +kernel
theorem dX12_hours_1 : decode cX12_hours 1 = .ok (.istore_n 2, 1) := by decide +kernel
theorem dX12_hours_2 : decode cX12_hours 2 = .ok (.iload_n 2, 1) := by decide +kernel
theorem dX12_hours_3 : decode cX12_hours 3 = .ok (.iload_n 1, 1) := by decide +kernel
theorem dX12_hours_4 : decode cX12_hours 4 = .ok (.if_icmp .ge 20, 3) := by decide +kernel
theorem dX12_hours_7 : decode cX12_hours 7 = .ok (.aload_n 0, 1) := by decide +kernel
theorem dX12_hours_8 : decode cX12_hours 8 = .ok (.iconst 1, 1) := by decide +kernel
theorem dX12_hours_9 : decode cX12_hours 9 = .ok (.invokevirtual 436, 3) := by decide +kernel
theorem dX12_hours_12 : decode cX12_hours 12 = .ok (.iconst (-1), 1) := by decide +kernel
theorem dX12_hours_13 : decode cX12_hours 13 = .ok (.if_icmp .ne 5, 3) := by decide +kernel
theorem dX12_hours_16 : decode cX12_hours 16 = .ok (.iconst 0, 1) := by decide +kernel
theorem dX12_hours_17 : decode cX12_hours 17 = .ok (.ireturn, 1) := by decide +kernel
theorem dX12_hours_18 : decode cX12_hours 18 = .ok (.iinc 2 1, 3) := by decide +kernel
theorem dX12_hours_21 : decode cX12_hours 21 = .ok (.goto (-19), 3) := by decide +kernel
theorem dX12_hours_24 : decode cX12_hours 24 = .ok (.iconst 1, 1) := by decide +kernel
theorem dX12_hours_25 : decode cX12_hours 25 = .ok (.ireturn, 1) := by decide +kernel
theorem dX12_played_0 : decode cX12_played 0 = .ok (.iload_n 1, 1) := by decide +kernel
theorem dX12_played_1 : decode cX12_played 1 = .ok (.iconst 0, 1) := by decide +kernel
theorem dX12_played_2 : decode cX12_played 2 = .ok (.aload_n 0, 1) := by decide +kernel
theorem dX12_played_3 : decode cX12_played 3 = .ok (.getfield 7, 3) := by decide +kernel
theorem dX12_played_6 : decode cX12_played 6 = .ok (.iconst 1, 1) := by decide +kernel
theorem dX12_played_7 : decode cX12_played 7 = .ok (.iaload, 1) := by decide +kernel
theorem dX12_played_8 : decode cX12_played 8 = .ok (.iconst 1, 1) := by decide +kernel
theorem dX12_played_9 : decode cX12_played 9 = .ok (.isub, 1) := by decide +kernel
theorem dX12_played_10 : decode cX12_played 10 = .ok (.invokestatic 107, 3) := by decide +kernel
theorem dX12_played_13 : decode cX12_played 13 = .ok (.ifCond .ne 6, 3) := by decide +kernel
theorem dX12_played_16 : decode cX12_played 16 = .ok (.bipush (-2), 2) := by decide +kernel
theorem dX12_played_18 : decode cX12_played 18 = .ok (.ireturn, 1) := by decide +kernel
theorem dX12_played_19 : decode cX12_played 19 = .ok (.iconst 0, 1) := by decide +kernel
theorem dX12_played_20 : decode cX12_played 20 = .ok (.istore_n 2, 1) := by decide +kernel
theorem dX12_played_21 : decode cX12_played 21 = .ok (.iload_n 2, 1) := by decide +kernel
theorem dX12_played_22 : decode cX12_played 22 = .ok (.aload_n 0, 1) := by decide +kernel
theorem dX12_played_23 : decode cX12_played 23 = .ok (.getfield 27, 3) := by decide +kernel
theorem dX12_played_26 : decode cX12_played 26 = .ok (.iload_n 1, 1) := by decide +kernel
theorem dX12_played_27 : decode cX12_played 27 = .ok (.iaload, 1) := by decide +kernel
theorem dX12_played_28 : decode cX12_played 28 = .ok (.if_icmp .ge 257, 3) := by decide +kernel
theorem dX12_played_31 : decode cX12_played 31 = .ok (.bipush 24, 2) := by decide +kernel
theorem dX12_played_33 : decode cX12_played 33 = .ok (.iload_n 1, 1) := by decide +kernel
theorem dX12_played_34 : decode cX12_played 34 = .ok (.imul, 1) := by decide +kernel
theorem dX12_played_35 : decode cX12_played 35 = .ok (.iload_n 2, 1) := by decide +kernel
theorem dX12_played_36 : decode cX12_played 36 = .ok (.iadd, 1) := by decide +kernel
theorem dX12_played_37 : decode cX12_played 37 = .ok (.istore_n 3, 1) := by decide +kernel
theorem dX12_played_38 : decode cX12_played 38 = .ok (.aload_n 0, 1) := by decide +kernel
theorem dX12_played_39 : decode cX12_played 39 = .ok (.getfield 36, 3) := by decide +kernel
theorem dX12_played_42 : decode cX12_played 42 = .ok (.iload_n 3, 1) := by decide +kernel
theorem dX12_played_43 : decode cX12_played 43 = .ok (.iaload, 1) := by decide +kernel
theorem dX12_played_44 : decode cX12_played 44 = .ok (.istore 4, 2) := by decide +kernel
theorem dX12_played_46 : decode cX12_played 46 = .ok (.aload_n 0, 1) := by decide +kernel
theorem dX12_played_47 : decode cX12_played 47 = .ok (.getfield 39, 3) := by decide +kernel
theorem dX12_played_50 : decode cX12_played 50 = .ok (.iload_n 3, 1) := by decide +kernel
theorem dX12_played_51 : decode cX12_played 51 = .ok (.iaload, 1) := by decide +kernel
theorem dX12_played_52 : decode cX12_played 52 = .ok (.istore 5, 2) := by decide +kernel
theorem dX12_played_54 : decode cX12_played 54 = .ok (.aload_n 0, 1) := by decide +kernel
theorem dX12_played_55 : decode cX12_played 55 = .ok (.getfield 42, 3) := by decide +kernel
theorem dX12_played_58 : decode cX12_played 58 = .ok (.iload_n 3, 1) := by decide +kernel
theorem dX12_played_59 : decode cX12_played 59 = .ok (.iaload, 1) := by decide +kernel
theorem dX12_played_60 : decode cX12_played 60 = .ok (.istore 6, 2) := by decide +kernel
theorem dX12_played_62 : decode cX12_played 62 = .ok (.iconst 1, 1) := by decide +kernel
theorem dX12_played_63 : decode cX12_played 63 = .ok (.istore 7, 2) := by decide +kernel
theorem dX12_played_65 : decode cX12_played 65 = .ok (.aload_n 0, 1) := by decide +kernel
theorem dX12_played_66 : decode cX12_played 66 = .ok (.getfield 30, 3) := by decide +kernel
theorem dX12_played_69 : decode cX12_played 69 = .ok (.iload_n 3, 1) := by decide +kernel
theorem dX12_played_70 : decode cX12_played 70 = .ok (.iaload, 1) := by decide +kernel
theorem dX12_played_71 : decode cX12_played 71 = .ok (.tableswitch 201 4 11 #[45, 69, 91, 106, 127, 148, 172, 190], 45) := by decide +kernel
theorem dX12_played_116 : decode cX12_played 116 = .ok (.aload_n 0, 1) := by decide +kernel
theorem dX12_played_117 : decode cX12_played 117 = .ok (.iload 4, 2) := by decide +kernel
theorem dX12_played_119 : decode cX12_played 119 = .ok (.iload 5, 2) := by decide +kernel
theorem dX12_played_121 : decode cX12_played 121 = .ok (.iload 6, 2) := by decide +kernel
theorem dX12_played_123 : decode cX12_played 123 = .ok (.invokevirtual 439, 3) := by decide +kernel
theorem dX12_played_126 : decode cX12_played 126 = .ok (.iconst (-1), 1) := by decide +kernel
theorem dX12_played_127 : decode cX12_played 127 = .ok (.if_icmp .eq 7, 3) := by decide +kernel
theorem dX12_played_130 : decode cX12_played 130 = .ok (.iconst 1, 1) := by decide +kernel
theorem dX12_played_131 : decode cX12_played 131 = .ok (.goto 4, 3) := by decide +kernel
theorem dX12_played_134 : decode cX12_played 134 = .ok (.iconst 0, 1) := by decide +kernel
theorem dX12_played_135 : decode cX12_played 135 = .ok (.istore 7, 2) := by decide +kernel
theorem dX12_played_137 : decode cX12_played 137 = .ok (.goto 135, 3) := by decide +kernel
theorem dX12_played_140 : decode cX12_played 140 = .ok (.aload_n 0, 1) := by decide +kernel
theorem dX12_played_141 : decode cX12_played 141 = .ok (.iload 4, 2) := by decide +kernel
theorem dX12_played_143 : decode cX12_played 143 = .ok (.iload 5, 2) := by decide +kernel
theorem dX12_played_145 : decode cX12_played 145 = .ok (.invokevirtual 442, 3) := by decide +kernel
theorem dX12_played_148 : decode cX12_played 148 = .ok (.iconst (-1), 1) := by decide +kernel
theorem dX12_played_149 : decode cX12_played 149 = .ok (.if_icmp .eq 7, 3) := by decide +kernel
theorem dX12_played_152 : decode cX12_played 152 = .ok (.iconst 1, 1) := by decide +kernel
theorem dX12_played_153 : decode cX12_played 153 = .ok (.goto 4, 3) := by decide +kernel
theorem dX12_played_156 : decode cX12_played 156 = .ok (.iconst 0, 1) := by decide +kernel
theorem dX12_played_157 : decode cX12_played 157 = .ok (.istore 7, 2) := by decide +kernel
theorem dX12_played_159 : decode cX12_played 159 = .ok (.goto 113, 3) := by decide +kernel
theorem dX12_played_162 : decode cX12_played 162 = .ok (.aload_n 0, 1) := by decide +kernel
theorem dX12_played_163 : decode cX12_played 163 = .ok (.iload 4, 2) := by decide +kernel
theorem dX12_played_165 : decode cX12_played 165 = .ok (.iload 5, 2) := by decide +kernel
theorem dX12_played_167 : decode cX12_played 167 = .ok (.iload 6, 2) := by decide +kernel
theorem dX12_played_169 : decode cX12_played 169 = .ok (.invokevirtual 445, 3) := by decide +kernel
theorem dX12_played_172 : decode cX12_played 172 = .ok (.istore 7, 2) := by decide +kernel
theorem dX12_played_174 : decode cX12_played 174 = .ok (.goto 98, 3) := by decide +kernel
theorem dX12_played_177 : decode cX12_played 177 = .ok (.aload_n 0, 1) := by decide +kernel
theorem dX12_played_178 : decode cX12_played 178 = .ok (.iload 4, 2) := by decide +kernel
theorem dX12_played_180 : decode cX12_played 180 = .ok (.iconst 1, 1) := by decide +kernel
theorem dX12_played_181 : decode cX12_played 181 = .ok (.invokevirtual 448, 3) := by decide +kernel
theorem dX12_played_184 : decode cX12_played 184 = .ok (.iconst (-1), 1) := by decide +kernel
theorem dX12_played_185 : decode cX12_played 185 = .ok (.if_icmp .eq 7, 3) := by decide +kernel
theorem dX12_played_188 : decode cX12_played 188 = .ok (.iconst 1, 1) := by decide +kernel
theorem dX12_played_189 : decode cX12_played 189 = .ok (.goto 4, 3) := by decide +kernel
theorem dX12_played_192 : decode cX12_played 192 = .ok (.iconst 0, 1) := by decide +kernel
theorem dX12_played_193 : decode cX12_played 193 = .ok (.istore 7, 2) := by decide +kernel
theorem dX12_played_195 : decode cX12_played 195 = .ok (.goto 77, 3) := by decide +kernel
theorem dX12_played_198 : decode cX12_played 198 = .ok (.aload_n 0, 1) := by decide +kernel
theorem dX12_played_199 : decode cX12_played 199 = .ok (.iload 4, 2) := by decide +kernel
theorem dX12_played_201 : decode cX12_played 201 = .ok (.iconst (-1), 1) := by decide +kernel
theorem dX12_played_202 : decode cX12_played 202 = .ok (.invokevirtual 448, 3) := by decide +kernel
theorem dX12_played_205 : decode cX12_played 205 = .ok (.iconst (-1), 1) := by decide +kernel
theorem dX12_played_206 : decode cX12_played 206 = .ok (.if_icmp .eq 7, 3) := by decide +kernel
theorem dX12_played_209 : decode cX12_played 209 = .ok (.iconst 1, 1) := by decide +kernel
theorem dX12_played_210 : decode cX12_played 210 = .ok (.goto 4, 3) := by decide +kernel
theorem dX12_played_213 : decode cX12_played 213 = .ok (.iconst 0, 1) := by decide +kernel
theorem dX12_played_214 : decode cX12_played 214 = .ok (.istore 7, 2) := by decide +kernel
theorem dX12_played_216 : decode cX12_played 216 = .ok (.goto 56, 3) := by decide +kernel
theorem dX12_played_219 : decode cX12_played 219 = .ok (.aload_n 0, 1) := by decide +kernel
theorem dX12_played_220 : decode cX12_played 220 = .ok (.iload 4, 2) := by decide +kernel
theorem dX12_played_222 : decode cX12_played 222 = .ok (.iload 5, 2) := by decide +kernel
theorem dX12_played_224 : decode cX12_played 224 = .ok (.iload 6, 2) := by decide +kernel
theorem dX12_played_226 : decode cX12_played 226 = .ok (.invokevirtual 451, 3) := by decide +kernel
theorem dX12_played_229 : decode cX12_played 229 = .ok (.iconst (-1), 1) := by decide +kernel
theorem dX12_played_230 : decode cX12_played 230 = .ok (.if_icmp .eq 7, 3) := by decide +kernel
theorem dX12_played_233 : decode cX12_played 233 = .ok (.iconst 1, 1) := by decide +kernel
theorem dX12_played_234 : decode cX12_played 234 = .ok (.goto 4, 3) := by decide +kernel
theorem dX12_played_237 : decode cX12_played 237 = .ok (.iconst 0, 1) := by decide +kernel
theorem dX12_played_238 : decode cX12_played 238 = .ok (.istore 7, 2) := by decide +kernel
theorem dX12_played_240 : decode cX12_played 240 = .ok (.goto 32, 3) := by decide +kernel
theorem dX12_played_243 : decode cX12_played 243 = .ok (.aload_n 0, 1) := by decide +kernel
theorem dX12_played_244 : decode cX12_played 244 = .ok (.invokevirtual 454, 3) := by decide +kernel
theorem dX12_played_247 : decode cX12_played 247 = .ok (.iconst (-1), 1) := by decide +kernel
theorem dX12_played_248 : decode cX12_played 248 = .ok (.if_icmp .eq 7, 3) := by decide +kernel
theorem dX12_played_251 : decode cX12_played 251 = .ok (.iconst 1, 1) := by decide +kernel
theorem dX12_played_252 : decode cX12_played 252 = .ok (.goto 4, 3) := by decide +kernel
theorem dX12_played_255 : decode cX12_played 255 = .ok (.iconst 0, 1) := by decide +kernel
theorem dX12_played_256 : decode cX12_played 256 = .ok (.istore 7, 2) := by decide +kernel
theorem dX12_played_258 : decode cX12_played 258 = .ok (.goto 14, 3) := by decide +kernel
theorem dX12_played_261 : decode cX12_played 261 = .ok (.aload_n 0, 1) := by decide +kernel
theorem dX12_played_262 : decode cX12_played 262 = .ok (.iload 4, 2) := by decide +kernel
theorem dX12_played_264 : decode cX12_played 264 = .ok (.invokevirtual 457, 3) := by decide +kernel
theorem dX12_played_267 : decode cX12_played 267 = .ok (.istore 7, 2) := by decide +kernel
theorem dX12_played_269 : decode cX12_played 269 = .ok (.goto 3, 3) := by decide +kernel
theorem dX12_played_272 : decode cX12_played 272 = .ok (.iload 7, 2) := by decide +kernel
theorem dX12_played_274 : decode cX12_played 274 = .ok (.ifCond .ne 5, 3) := by decide +kernel
theorem dX12_played_277 : decode cX12_played 277 = .ok (.iload_n 2, 1) := by decide +kernel
theorem dX12_played_278 : decode cX12_played 278 = .ok (.ireturn, 1) := by decide +kernel
theorem dX12_played_279 : decode cX12_played 279 = .ok (.iinc 2 1, 3) := by decide +kernel
theorem dX12_played_282 : decode cX12_played 282 = .ok (.goto (-261), 3) := by decide +kernel
theorem dX12_played_285 : decode cX12_played 285 = .ok (.iconst (-1), 1) := by decide +kernel
theorem dX12_played_286 : decode cX12_played 286 = .ok (.ireturn, 1) := by decide +kernel
theorem dX12_of_0 : decode cX12_of 0 = .ok (.aload_n 0, 1) := by decide +kernel
theorem dX12_of_1 : decode cX12_of 1 = .ok (.iload_n 1, 1) := by decide +kernel
theorem dX12_of_2 : decode cX12_of 2 = .ok (.invokevirtual 111, 3) := by decide +kernel
theorem dX12_of_5 : decode cX12_of 5 = .ok (.ifCond .ne 5, 3) := by decide +kernel
theorem dX12_of_8 : decode cX12_of 8 = .ok (.iconst (-1), 1) := by decide +kernel
theorem dX12_of_9 : decode cX12_of 9 = .ok (.ireturn, 1) := by decide +kernel
theorem dX12_of_10 : decode cX12_of 10 = .ok (.aload_n 0, 1) := by decide +kernel
theorem dX12_of_11 : decode cX12_of 11 = .ok (.invokevirtual 399, 3) := by decide +kernel
theorem dX12_of_14 : decode cX12_of 14 = .ok (.iload_n 2, 1) := by decide +kernel
theorem dX12_of_15 : decode cX12_of 15 = .ok (.tableswitch 112 0 7 #[45, 55, 65, 75, 84, 94, 100, 106], 45) := by decide +kernel
theorem dX12_of_60 : decode cX12_of 60 = .ok (.aload_n 0, 1) := by decide +kernel
theorem dX12_of_61 : decode cX12_of 61 = .ok (.getfield 7, 3) := by decide +kernel
theorem dX12_of_64 : decode cX12_of 64 = .ok (.bipush 10, 2) := by decide +kernel
theorem dX12_of_66 : decode cX12_of 66 = .ok (.iload_n 1, 1) := by decide +kernel
theorem dX12_of_67 : decode cX12_of 67 = .ok (.iadd, 1) := by decide +kernel
theorem dX12_of_68 : decode cX12_of 68 = .ok (.iaload, 1) := by decide +kernel
theorem dX12_of_69 : decode cX12_of 69 = .ok (.ireturn, 1) := by decide +kernel
theorem dX12_of_70 : decode cX12_of 70 = .ok (.aload_n 0, 1) := by decide +kernel
theorem dX12_of_71 : decode cX12_of 71 = .ok (.getfield 7, 3) := by decide +kernel
theorem dX12_of_74 : decode cX12_of 74 = .ok (.bipush 17, 2) := by decide +kernel
theorem dX12_of_76 : decode cX12_of 76 = .ok (.iload_n 1, 1) := by decide +kernel
theorem dX12_of_77 : decode cX12_of 77 = .ok (.iadd, 1) := by decide +kernel
theorem dX12_of_78 : decode cX12_of 78 = .ok (.iaload, 1) := by decide +kernel
theorem dX12_of_79 : decode cX12_of 79 = .ok (.ireturn, 1) := by decide +kernel
theorem dX12_of_80 : decode cX12_of 80 = .ok (.aload_n 0, 1) := by decide +kernel
theorem dX12_of_81 : decode cX12_of 81 = .ok (.getfield 87, 3) := by decide +kernel
theorem dX12_of_84 : decode cX12_of 84 = .ok (.bipush 7, 2) := by decide +kernel
theorem dX12_of_86 : decode cX12_of 86 = .ok (.iload_n 1, 1) := by decide +kernel
theorem dX12_of_87 : decode cX12_of 87 = .ok (.iadd, 1) := by decide +kernel
theorem dX12_of_88 : decode cX12_of 88 = .ok (.iaload, 1) := by decide +kernel
theorem dX12_of_89 : decode cX12_of 89 = .ok (.ireturn, 1) := by decide +kernel
theorem dX12_of_90 : decode cX12_of 90 = .ok (.aload_n 0, 1) := by decide +kernel
theorem dX12_of_91 : decode cX12_of 91 = .ok (.getfield 87, 3) := by decide +kernel
theorem dX12_of_94 : decode cX12_of 94 = .ok (.iconst 0, 1) := by decide +kernel
theorem dX12_of_95 : decode cX12_of 95 = .ok (.iload_n 1, 1) := by decide +kernel
theorem dX12_of_96 : decode cX12_of 96 = .ok (.iadd, 1) := by decide +kernel
theorem dX12_of_97 : decode cX12_of 97 = .ok (.iaload, 1) := by decide +kernel
theorem dX12_of_98 : decode cX12_of 98 = .ok (.ireturn, 1) := by decide +kernel
theorem dX12_of_99 : decode cX12_of 99 = .ok (.aload_n 0, 1) := by decide +kernel
theorem dX12_of_100 : decode cX12_of 100 = .ok (.getfield 87, 3) := by decide +kernel
theorem dX12_of_103 : decode cX12_of 103 = .ok (.bipush 14, 2) := by decide +kernel
theorem dX12_of_105 : decode cX12_of 105 = .ok (.iload_n 1, 1) := by decide +kernel
theorem dX12_of_106 : decode cX12_of 106 = .ok (.iadd, 1) := by decide +kernel
theorem dX12_of_107 : decode cX12_of 107 = .ok (.iaload, 1) := by decide +kernel
theorem dX12_of_108 : decode cX12_of 108 = .ok (.ireturn, 1) := by decide +kernel
theorem dX12_of_109 : decode cX12_of 109 = .ok (.aload_n 0, 1) := by decide +kernel
theorem dX12_of_110 : decode cX12_of 110 = .ok (.iload_n 1, 1) := by decide +kernel
theorem dX12_of_111 : decode cX12_of 111 = .ok (.invokevirtual 384, 3) := by decide +kernel
theorem dX12_of_114 : decode cX12_of 114 = .ok (.ireturn, 1) := by decide +kernel
theorem dX12_of_115 : decode cX12_of 115 = .ok (.aload_n 0, 1) := by decide +kernel
theorem dX12_of_116 : decode cX12_of 116 = .ok (.iload_n 1, 1) := by decide +kernel
theorem dX12_of_117 : decode cX12_of 117 = .ok (.invokevirtual 460, 3) := by decide +kernel
theorem dX12_of_120 : decode cX12_of 120 = .ok (.ireturn, 1) := by decide +kernel
theorem dX12_of_121 : decode cX12_of 121 = .ok (.aload_n 0, 1) := by decide +kernel
theorem dX12_of_122 : decode cX12_of 122 = .ok (.iload_n 1, 1) := by decide +kernel
theorem dX12_of_123 : decode cX12_of 123 = .ok (.invokevirtual 387, 3) := by decide +kernel
theorem dX12_of_126 : decode cX12_of 126 = .ok (.ireturn, 1) := by decide +kernel
theorem dX12_of_127 : decode cX12_of 127 = .ok (.iconst (-1), 1) := by decide +kernel
theorem dX12_of_128 : decode cX12_of 128 = .ok (.ireturn, 1) := by decide +kernel
theorem dX12_two_0 : decode cX12_two 0 = .ok (.aload_n 0, 1) := by decide +kernel
theorem dX12_two_1 : decode cX12_two 1 = .ok (.iload_n 1, 1) := by decide +kernel
theorem dX12_two_2 : decode cX12_two 2 = .ok (.iload_n 2, 1) := by decide +kernel
theorem dX12_two_3 : decode cX12_two 3 = .ok (.invokevirtual 409, 3) := by decide +kernel
theorem dX12_two_6 : decode cX12_two 6 = .ok (.ifCond .ne 5, 3) := by decide +kernel
theorem dX12_two_9 : decode cX12_two 9 = .ok (.iconst (-1), 1) := by decide +kernel
theorem dX12_two_10 : decode cX12_two 10 = .ok (.ireturn, 1) := by decide +kernel
theorem dX12_two_11 : decode cX12_two 11 = .ok (.aload_n 0, 1) := by decide +kernel
theorem dX12_two_12 : decode cX12_two 12 = .ok (.invokevirtual 399, 3) := by decide +kernel
theorem dX12_two_15 : decode cX12_two 15 = .ok (.iload_n 3, 1) := by decide +kernel
theorem dX12_two_16 : decode cX12_two 16 = .ok (.tableswitch 89 0 3 #[32, 43, 50, 74], 32) := by decide +kernel
theorem dX12_two_48 : decode cX12_two 48 = .ok (.aload_n 0, 1) := by decide +kernel
theorem dX12_two_49 : decode cX12_two 49 = .ok (.getfield 87, 3) := by decide +kernel
theorem dX12_two_52 : decode cX12_two 52 = .ok (.iload_n 1, 1) := by decide +kernel
theorem dX12_two_53 : decode cX12_two 53 = .ok (.iload_n 2, 1) := by decide +kernel
theorem dX12_two_54 : decode cX12_two 54 = .ok (.invokestatic 335, 3) := by decide +kernel
theorem dX12_two_57 : decode cX12_two 57 = .ok (.iaload, 1) := by decide +kernel
theorem dX12_two_58 : decode cX12_two 58 = .ok (.ireturn, 1) := by decide +kernel
theorem dX12_two_59 : decode cX12_two 59 = .ok (.aload_n 0, 1) := by decide +kernel
theorem dX12_two_60 : decode cX12_two 60 = .ok (.iload_n 1, 1) := by decide +kernel
theorem dX12_two_61 : decode cX12_two 61 = .ok (.iload_n 2, 1) := by decide +kernel
theorem dX12_two_62 : decode cX12_two 62 = .ok (.invokevirtual 375, 3) := by decide +kernel
theorem dX12_two_65 : decode cX12_two 65 = .ok (.ireturn, 1) := by decide +kernel
theorem dX12_two_66 : decode cX12_two 66 = .ok (.aload_n 0, 1) := by decide +kernel
theorem dX12_two_67 : decode cX12_two 67 = .ok (.getfield 87, 3) := by decide +kernel
theorem dX12_two_70 : decode cX12_two 70 = .ok (.iload_n 1, 1) := by decide +kernel
theorem dX12_two_71 : decode cX12_two 71 = .ok (.iload_n 2, 1) := by decide +kernel
theorem dX12_two_72 : decode cX12_two 72 = .ok (.invokestatic 335, 3) := by decide +kernel
theorem dX12_two_75 : decode cX12_two 75 = .ok (.iaload, 1) := by decide +kernel
theorem dX12_two_76 : decode cX12_two 76 = .ok (.ifCond .ne 7, 3) := by decide +kernel
theorem dX12_two_79 : decode cX12_two 79 = .ok (.iconst 0, 1) := by decide +kernel
theorem dX12_two_80 : decode cX12_two 80 = .ok (.goto 9, 3) := by decide +kernel
theorem dX12_two_83 : decode cX12_two 83 = .ok (.aload_n 0, 1) := by decide +kernel
theorem dX12_two_84 : decode cX12_two 84 = .ok (.iload_n 1, 1) := by decide +kernel
theorem dX12_two_85 : decode cX12_two 85 = .ok (.iload_n 2, 1) := by decide +kernel
theorem dX12_two_86 : decode cX12_two 86 = .ok (.invokevirtual 381, 3) := by decide +kernel
theorem dX12_two_89 : decode cX12_two 89 = .ok (.ireturn, 1) := by decide +kernel
theorem dX12_two_90 : decode cX12_two 90 = .ok (.aload_n 0, 1) := by decide +kernel
theorem dX12_two_91 : decode cX12_two 91 = .ok (.iload_n 1, 1) := by decide +kernel
theorem dX12_two_92 : decode cX12_two 92 = .ok (.iload_n 2, 1) := by decide +kernel
theorem dX12_two_93 : decode cX12_two 93 = .ok (.invokevirtual 372, 3) := by decide +kernel
theorem dX12_two_96 : decode cX12_two 96 = .ok (.ifCond .eq 7, 3) := by decide +kernel
theorem dX12_two_99 : decode cX12_two 99 = .ok (.iconst 1, 1) := by decide +kernel
theorem dX12_two_100 : decode cX12_two 100 = .ok (.goto 4, 3) := by decide +kernel
theorem dX12_two_103 : decode cX12_two 103 = .ok (.iconst 0, 1) := by decide +kernel
theorem dX12_two_104 : decode cX12_two 104 = .ok (.ireturn, 1) := by decide +kernel
theorem dX12_two_105 : decode cX12_two 105 = .ok (.iconst (-1), 1) := by decide +kernel
theorem dX12_two_106 : decode cX12_two 106 = .ok (.ireturn, 1) := by decide +kernel
theorem dX12_more_0 : decode cX12_more 0 = .ok (.aload_n 0, 1) := by decide +kernel
theorem dX12_more_1 : decode cX12_more 1 = .ok (.iload_n 1, 1) := by decide +kernel
theorem dX12_more_2 : decode cX12_more 2 = .ok (.iload_n 2, 1) := by decide +kernel
theorem dX12_more_3 : decode cX12_more 3 = .ok (.invokevirtual 409, 3) := by decide +kernel
theorem dX12_more_6 : decode cX12_more 6 = .ok (.ifCond .eq 14, 3) := by decide +kernel
theorem dX12_more_9 : decode cX12_more 9 = .ok (.iload_n 3, 1) := by decide +kernel
theorem dX12_more_10 : decode cX12_more 10 = .ok (.iconst 0, 1) := by decide +kernel
theorem dX12_more_11 : decode cX12_more 11 = .ok (.sipush 9999, 3) := by decide +kernel
theorem dX12_more_14 : decode cX12_more 14 = .ok (.invokestatic 107, 3) := by decide +kernel
theorem dX12_more_17 : decode cX12_more 17 = .ok (.ifCond .ne 5, 3) := by decide +kernel
theorem dX12_more_20 : decode cX12_more 20 = .ok (.iconst (-1), 1) := by decide +kernel
theorem dX12_more_21 : decode cX12_more 21 = .ok (.ireturn, 1) := by decide +kernel
theorem dX12_more_22 : decode cX12_more 22 = .ok (.aload_n 0, 1) := by decide +kernel
theorem dX12_more_23 : decode cX12_more 23 = .ok (.invokevirtual 399, 3) := by decide +kernel
theorem dX12_more_26 : decode cX12_more 26 = .ok (.aload_n 0, 1) := by decide +kernel
theorem dX12_more_27 : decode cX12_more 27 = .ok (.iload_n 1, 1) := by decide +kernel
theorem dX12_more_28 : decode cX12_more 28 = .ok (.iload_n 2, 1) := by decide +kernel
theorem dX12_more_29 : decode cX12_more 29 = .ok (.iload_n 3, 1) := by decide +kernel
theorem dX12_more_30 : decode cX12_more 30 = .ok (.invokevirtual 378, 3) := by decide +kernel
theorem dX12_more_33 : decode cX12_more 33 = .ok (.ireturn, 1) := by decide +kernel
theorem dX12_book_0 : decode cX12_book 0 = .ok (.iload_n 1, 1) := by decide +kernel
theorem dX12_book_1 : decode cX12_book 1 = .ok (.iconst (-1), 1) := by decide +kernel
theorem dX12_book_2 : decode cX12_book 2 = .ok (.if_icmp .ne 11, 3) := by decide +kernel
theorem dX12_book_5 : decode cX12_book 5 = .ok (.aload_n 0, 1) := by decide +kernel
theorem dX12_book_6 : decode cX12_book 6 = .ok (.getfield 7, 3) := by decide +kernel
theorem dX12_book_9 : decode cX12_book 9 = .ok (.bipush 113, 2) := by decide +kernel
theorem dX12_book_11 : decode cX12_book 11 = .ok (.iaload, 1) := by decide +kernel
theorem dX12_book_12 : decode cX12_book 12 = .ok (.ireturn, 1) := by decide +kernel
theorem dX12_book_13 : decode cX12_book 13 = .ok (.iload_n 1, 1) := by decide +kernel
theorem dX12_book_14 : decode cX12_book 14 = .ok (.iconst 0, 1) := by decide +kernel
theorem dX12_book_15 : decode cX12_book 15 = .ok (.aload_n 0, 1) := by decide +kernel
theorem dX12_book_16 : decode cX12_book 16 = .ok (.getfield 7, 3) := by decide +kernel
theorem dX12_book_19 : decode cX12_book 19 = .ok (.bipush 113, 2) := by decide +kernel
theorem dX12_book_21 : decode cX12_book 21 = .ok (.iaload, 1) := by decide +kernel
theorem dX12_book_22 : decode cX12_book 22 = .ok (.iconst 1, 1) := by decide +kernel
theorem dX12_book_23 : decode cX12_book 23 = .ok (.isub, 1) := by decide +kernel
theorem dX12_book_24 : decode cX12_book 24 = .ok (.invokestatic 107, 3) := by decide +kernel
theorem dX12_book_27 : decode cX12_book 27 = .ok (.ifCond .eq 28, 3) := by decide +kernel
theorem dX12_book_30 : decode cX12_book 30 = .ok (.iload_n 2, 1) := by decide +kernel
theorem dX12_book_31 : decode cX12_book 31 = .ok (.iconst 0, 1) := by decide +kernel
theorem dX12_book_32 : decode cX12_book 32 = .ok (.iconst 2, 1) := by decide +kernel
theorem dX12_book_33 : decode cX12_book 33 = .ok (.invokestatic 107, 3) := by decide +kernel
theorem dX12_book_36 : decode cX12_book 36 = .ok (.ifCond .eq 19, 3) := by decide +kernel
theorem dX12_book_39 : decode cX12_book 39 = .ok (.aload_n 0, 1) := by decide +kernel
theorem dX12_book_40 : decode cX12_book 40 = .ok (.getfield 7, 3) := by decide +kernel
theorem dX12_book_43 : decode cX12_book 43 = .ok (.bipush 114, 2) := by decide +kernel
theorem dX12_book_45 : decode cX12_book 45 = .ok (.iconst 3, 1) := by decide +kernel
theorem dX12_book_46 : decode cX12_book 46 = .ok (.iload_n 1, 1) := by decide +kernel
theorem dX12_book_47 : decode cX12_book 47 = .ok (.imul, 1) := by decide +kernel
theorem dX12_book_48 : decode cX12_book 48 = .ok (.iadd, 1) := by decide +kernel
theorem dX12_book_49 : decode cX12_book 49 = .ok (.iload_n 2, 1) := by decide +kernel
theorem dX12_book_50 : decode cX12_book 50 = .ok (.iadd, 1) := by decide +kernel
theorem dX12_book_51 : decode cX12_book 51 = .ok (.iaload, 1) := by decide +kernel
theorem dX12_book_52 : decode cX12_book 52 = .ok (.goto 5, 3) := by decide +kernel
theorem dX12_book_55 : decode cX12_book 55 = .ok (.bipush (-2), 2) := by decide +kernel
theorem dX12_book_57 : decode cX12_book 57 = .ok (.ireturn, 1) := by decide +kernel
theorem dX12_foretold_0 : decode cX12_foretold 0 = .ok (.iload_n 1, 1) := by decide +kernel
theorem dX12_foretold_1 : decode cX12_foretold 1 = .ok (.iconst 1, 1) := by decide +kernel
theorem dX12_foretold_2 : decode cX12_foretold 2 = .ok (.bipush 60, 2) := by decide +kernel
theorem dX12_foretold_4 : decode cX12_foretold 4 = .ok (.invokestatic 107, 3) := by decide +kernel
theorem dX12_foretold_7 : decode cX12_foretold 7 = .ok (.ifCond .eq 25, 3) := by decide +kernel
theorem dX12_foretold_10 : decode cX12_foretold 10 = .ok (.aload_n 0, 1) := by decide +kernel
theorem dX12_foretold_11 : decode cX12_foretold 11 = .ok (.iload_n 2, 1) := by decide +kernel
theorem dX12_foretold_12 : decode cX12_foretold 12 = .ok (.invokevirtual 111, 3) := by decide +kernel
theorem dX12_foretold_15 : decode cX12_foretold 15 = .ok (.ifCond .eq 17, 3) := by decide +kernel
theorem dX12_foretold_18 : decode cX12_foretold 18 = .ok (.iload_n 3, 1) := by decide +kernel
theorem dX12_foretold_19 : decode cX12_foretold 19 = .ok (.iconst (-1), 1) := by decide +kernel
theorem dX12_foretold_20 : decode cX12_foretold 20 = .ok (.if_icmp .eq 15, 3) := by decide +kernel
theorem dX12_foretold_23 : decode cX12_foretold 23 = .ok (.aload_n 0, 1) := by decide +kernel
theorem dX12_foretold_24 : decode cX12_foretold 24 = .ok (.iload_n 2, 1) := by decide +kernel
theorem dX12_foretold_25 : decode cX12_foretold 25 = .ok (.iload_n 3, 1) := by decide +kernel
theorem dX12_foretold_26 : decode cX12_foretold 26 = .ok (.invokevirtual 409, 3) := by decide +kernel
theorem dX12_foretold_29 : decode cX12_foretold 29 = .ok (.ifCond .ne 6, 3) := by decide +kernel
theorem dX12_foretold_32 : decode cX12_foretold 32 = .ok (.bipush (-2), 2) := by decide +kernel
theorem dX12_foretold_34 : decode cX12_foretold 34 = .ok (.ireturn, 1) := by decide +kernel
theorem dX12_foretold_35 : decode cX12_foretold 35 = .ok (.aload_n 0, 1) := by decide +kernel
theorem dX12_foretold_36 : decode cX12_foretold 36 = .ok (.iload_n 1, 1) := by decide +kernel
theorem dX12_foretold_37 : decode cX12_foretold 37 = .ok (.invokevirtual 463, 3) := by decide +kernel
theorem dX12_foretold_40 : decode cX12_foretold 40 = .ok (.istore 4, 2) := by decide +kernel
theorem dX12_foretold_42 : decode cX12_foretold 42 = .ok (.iload_n 3, 1) := by decide +kernel
theorem dX12_foretold_43 : decode cX12_foretold 43 = .ok (.iconst (-1), 1) := by decide +kernel
theorem dX12_foretold_44 : decode cX12_foretold 44 = .ok (.if_icmp .ne 11, 3) := by decide +kernel
theorem dX12_foretold_47 : decode cX12_foretold 47 = .ok (.aload_n 0, 1) := by decide +kernel
theorem dX12_foretold_48 : decode cX12_foretold 48 = .ok (.iload_n 2, 1) := by decide +kernel
theorem dX12_foretold_49 : decode cX12_foretold 49 = .ok (.invokevirtual 384, 3) := by decide +kernel
theorem dX12_foretold_52 : decode cX12_foretold 52 = .ok (.goto 13, 3) := by decide +kernel
theorem dX12_foretold_55 : decode cX12_foretold 55 = .ok (.aload_n 0, 1) := by decide +kernel
theorem dX12_foretold_56 : decode cX12_foretold 56 = .ok (.getfield 87, 3) := by decide +kernel
theorem dX12_foretold_59 : decode cX12_foretold 59 = .ok (.iload_n 2, 1) := by decide +kernel
theorem dX12_foretold_60 : decode cX12_foretold 60 = .ok (.iload_n 3, 1) := by decide +kernel
theorem dX12_foretold_61 : decode cX12_foretold 61 = .ok (.invokestatic 335, 3) := by decide +kernel
theorem dX12_foretold_64 : decode cX12_foretold 64 = .ok (.iaload, 1) := by decide +kernel
theorem dX12_foretold_65 : decode cX12_foretold 65 = .ok (.ireturn, 1) := by decide +kernel
theorem dX12_indoors_0 : decode cX12_indoors 0 = .ok (.iload_n 1, 1) := by decide +kernel
theorem dX12_indoors_1 : decode cX12_indoors 1 = .ok (.iconst 1, 1) := by decide +kernel
theorem dX12_indoors_2 : decode cX12_indoors 2 = .ok (.bipush 60, 2) := by decide +kernel
theorem dX12_indoors_4 : decode cX12_indoors 4 = .ok (.invokestatic 107, 3) := by decide +kernel
theorem dX12_indoors_7 : decode cX12_indoors 7 = .ok (.ifCond .eq 11, 3) := by decide +kernel
theorem dX12_indoors_10 : decode cX12_indoors 10 = .ok (.aload_n 0, 1) := by decide +kernel
theorem dX12_indoors_11 : decode cX12_indoors 11 = .ok (.iload_n 2, 1) := by decide +kernel
theorem dX12_indoors_12 : decode cX12_indoors 12 = .ok (.invokevirtual 111, 3) := by decide +kernel
theorem dX12_indoors_15 : decode cX12_indoors 15 = .ok (.ifCond .ne 6, 3) := by decide +kernel
theorem dX12_indoors_18 : decode cX12_indoors 18 = .ok (.bipush (-2), 2) := by decide +kernel
theorem dX12_indoors_20 : decode cX12_indoors 20 = .ok (.ireturn, 1) := by decide +kernel
theorem dX12_indoors_21 : decode cX12_indoors 21 = .ok (.aload_n 0, 1) := by decide +kernel
theorem dX12_indoors_22 : decode cX12_indoors 22 = .ok (.iload_n 1, 1) := by decide +kernel
theorem dX12_indoors_23 : decode cX12_indoors 23 = .ok (.invokevirtual 463, 3) := by decide +kernel
theorem dX12_indoors_26 : decode cX12_indoors 26 = .ok (.istore_n 3, 1) := by decide +kernel
theorem dX12_indoors_27 : decode cX12_indoors 27 = .ok (.aload_n 0, 1) := by decide +kernel
theorem dX12_indoors_28 : decode cX12_indoors 28 = .ok (.getfield 87, 3) := by decide +kernel
theorem dX12_indoors_31 : decode cX12_indoors 31 = .ok (.bipush 14, 2) := by decide +kernel
theorem dX12_indoors_33 : decode cX12_indoors 33 = .ok (.iload_n 2, 1) := by decide +kernel
theorem dX12_indoors_34 : decode cX12_indoors 34 = .ok (.iadd, 1) := by decide +kernel
theorem dX12_indoors_35 : decode cX12_indoors 35 = .ok (.iaload, 1) := by decide +kernel
theorem dX12_indoors_36 : decode cX12_indoors 36 = .ok (.ireturn, 1) := by decide +kernel
theorem dX12_first_0 : decode cX12_first 0 = .ok (.iload_n 1, 1) := by decide +kernel
theorem dX12_first_1 : decode cX12_first 1 = .ok (.iconst 1, 1) := by decide +kernel
theorem dX12_first_2 : decode cX12_first 2 = .ok (.bipush 60, 2) := by decide +kernel
theorem dX12_first_4 : decode cX12_first 4 = .ok (.invokestatic 107, 3) := by decide +kernel
theorem dX12_first_7 : decode cX12_first 7 = .ok (.ifCond .ne 5, 3) := by decide +kernel
theorem dX12_first_10 : decode cX12_first 10 = .ok (.iconst (-1), 1) := by decide +kernel
theorem dX12_first_11 : decode cX12_first 11 = .ok (.ireturn, 1) := by decide +kernel
theorem dX12_first_12 : decode cX12_first 12 = .ok (.aload_n 0, 1) := by decide +kernel
theorem dX12_first_13 : decode cX12_first 13 = .ok (.iload_n 1, 1) := by decide +kernel
theorem dX12_first_14 : decode cX12_first 14 = .ok (.invokevirtual 463, 3) := by decide +kernel
theorem dX12_first_17 : decode cX12_first 17 = .ok (.istore_n 2, 1) := by decide +kernel
theorem dX12_first_18 : decode cX12_first 18 = .ok (.aload_n 0, 1) := by decide +kernel
theorem dX12_first_19 : decode cX12_first 19 = .ok (.getfield 393, 3) := by decide +kernel
theorem dX12_first_22 : decode cX12_first 22 = .ok (.ireturn, 1) := by decide +kernel
theorem dX12_whose_0 : decode cX12_whose 0 = .ok (.iload_n 1, 1) := by decide +kernel
theorem dX12_whose_1 : decode cX12_whose 1 = .ok (.iconst 1, 1) := by decide +kernel
theorem dX12_whose_2 : decode cX12_whose 2 = .ok (.bipush 60, 2) := by decide +kernel
theorem dX12_whose_4 : decode cX12_whose 4 = .ok (.invokestatic 107, 3) := by decide +kernel
theorem dX12_whose_7 : decode cX12_whose 7 = .ok (.ifCond .ne 5, 3) := by decide +kernel
theorem dX12_whose_10 : decode cX12_whose 10 = .ok (.iconst (-1), 1) := by decide +kernel
theorem dX12_whose_11 : decode cX12_whose 11 = .ok (.ireturn, 1) := by decide +kernel
theorem dX12_whose_12 : decode cX12_whose 12 = .ok (.aload_n 0, 1) := by decide +kernel
theorem dX12_whose_13 : decode cX12_whose 13 = .ok (.getfield 7, 3) := by decide +kernel
theorem dX12_whose_16 : decode cX12_whose 16 = .ok (.iconst 2, 1) := by decide +kernel
theorem dX12_whose_17 : decode cX12_whose 17 = .ok (.iaload, 1) := by decide +kernel
theorem dX12_whose_18 : decode cX12_whose 18 = .ok (.istore_n 2, 1) := by decide +kernel
theorem dX12_whose_19 : decode cX12_whose 19 = .ok (.iconst (-1), 1) := by decide +kernel
theorem dX12_whose_20 : decode cX12_whose 20 = .ok (.istore_n 3, 1) := by decide +kernel
theorem dX12_whose_21 : decode cX12_whose 21 = .ok (.iconst 0, 1) := by decide +kernel
theorem dX12_whose_22 : decode cX12_whose 22 = .ok (.istore 4, 2) := by decide +kernel
theorem dX12_whose_24 : decode cX12_whose 24 = .ok (.iconst 0, 1) := by decide +kernel
theorem dX12_whose_25 : decode cX12_whose 25 = .ok (.istore 5, 2) := by decide +kernel
theorem dX12_whose_27 : decode cX12_whose 27 = .ok (.iload 5, 2) := by decide +kernel
theorem dX12_whose_29 : decode cX12_whose 29 = .ok (.aload_n 0, 1) := by decide +kernel
theorem dX12_whose_30 : decode cX12_whose 30 = .ok (.getfield 7, 3) := by decide +kernel
theorem dX12_whose_33 : decode cX12_whose 33 = .ok (.iconst 1, 1) := by decide +kernel
theorem dX12_whose_34 : decode cX12_whose 34 = .ok (.iaload, 1) := by decide +kernel
theorem dX12_whose_35 : decode cX12_whose 35 = .ok (.if_icmp .ge 43, 3) := by decide +kernel
theorem dX12_whose_38 : decode cX12_whose 38 = .ok (.aload_n 0, 1) := by decide +kernel
theorem dX12_whose_39 : decode cX12_whose 39 = .ok (.getfield 7, 3) := by decide +kernel
theorem dX12_whose_42 : decode cX12_whose 42 = .ok (.iconst 2, 1) := by decide +kernel
theorem dX12_whose_43 : decode cX12_whose 43 = .ok (.iload 5, 2) := by decide +kernel
theorem dX12_whose_45 : decode cX12_whose 45 = .ok (.iastore, 1) := by decide +kernel
theorem dX12_whose_46 : decode cX12_whose 46 = .ok (.aload_n 0, 1) := by decide +kernel
theorem dX12_whose_47 : decode cX12_whose 47 = .ok (.iload_n 1, 1) := by decide +kernel
theorem dX12_whose_48 : decode cX12_whose 48 = .ok (.invokevirtual 463, 3) := by decide +kernel
theorem dX12_whose_51 : decode cX12_whose 51 = .ok (.istore 6, 2) := by decide +kernel
theorem dX12_whose_53 : decode cX12_whose 53 = .ok (.iload_n 3, 1) := by decide +kernel
theorem dX12_whose_54 : decode cX12_whose 54 = .ok (.iconst (-1), 1) := by decide +kernel
theorem dX12_whose_55 : decode cX12_whose 55 = .ok (.if_icmp .eq 10, 3) := by decide +kernel
theorem dX12_whose_58 : decode cX12_whose 58 = .ok (.iload 6, 2) := by decide +kernel
theorem dX12_whose_60 : decode cX12_whose 60 = .ok (.iload 4, 2) := by decide +kernel
theorem dX12_whose_62 : decode cX12_whose 62 = .ok (.if_icmp .ge 10, 3) := by decide +kernel
theorem dX12_whose_65 : decode cX12_whose 65 = .ok (.iload 5, 2) := by decide +kernel
theorem dX12_whose_67 : decode cX12_whose 67 = .ok (.istore_n 3, 1) := by decide +kernel
theorem dX12_whose_68 : decode cX12_whose 68 = .ok (.iload 6, 2) := by decide +kernel
theorem dX12_whose_70 : decode cX12_whose 70 = .ok (.istore 4, 2) := by decide +kernel
theorem dX12_whose_72 : decode cX12_whose 72 = .ok (.iinc 5 1, 3) := by decide +kernel
theorem dX12_whose_75 : decode cX12_whose 75 = .ok (.goto (-48), 3) := by decide +kernel
theorem dX12_whose_78 : decode cX12_whose 78 = .ok (.aload_n 0, 1) := by decide +kernel
theorem dX12_whose_79 : decode cX12_whose 79 = .ok (.getfield 7, 3) := by decide +kernel
theorem dX12_whose_82 : decode cX12_whose 82 = .ok (.iconst 2, 1) := by decide +kernel
theorem dX12_whose_83 : decode cX12_whose 83 = .ok (.iload_n 2, 1) := by decide +kernel
theorem dX12_whose_84 : decode cX12_whose 84 = .ok (.iastore, 1) := by decide +kernel
theorem dX12_whose_85 : decode cX12_whose 85 = .ok (.iload_n 3, 1) := by decide +kernel
theorem dX12_whose_86 : decode cX12_whose 86 = .ok (.ireturn, 1) := by decide +kernel
theorem dX12_placesOf_0 : decode cX12_placesOf 0 = .ok (.iconst 0, 1) := by decide +kernel
theorem dX12_placesOf_1 : decode cX12_placesOf 1 = .ok (.istore_n 3, 1) := by decide +kernel
theorem dX12_placesOf_2 : decode cX12_placesOf 2 = .ok (.iconst 0, 1) := by decide +kernel
theorem dX12_placesOf_3 : decode cX12_placesOf 3 = .ok (.istore 4, 2) := by decide +kernel
theorem dX12_placesOf_5 : decode cX12_placesOf 5 = .ok (.iconst 0, 1) := by decide +kernel
theorem dX12_placesOf_6 : decode cX12_placesOf 6 = .ok (.istore 5, 2) := by decide +kernel
theorem dX12_placesOf_8 : decode cX12_placesOf 8 = .ok (.iload 5, 2) := by decide +kernel
theorem dX12_placesOf_10 : decode cX12_placesOf 10 = .ok (.aload_n 0, 1) := by decide +kernel
theorem dX12_placesOf_11 : decode cX12_placesOf 11 = .ok (.getfield 7, 3) := by decide +kernel
theorem dX12_placesOf_14 : decode cX12_placesOf 14 = .ok (.iconst 0, 1) := by decide +kernel
theorem dX12_placesOf_15 : decode cX12_placesOf 15 = .ok (.iaload, 1) := by decide +kernel
theorem dX12_placesOf_16 : decode cX12_placesOf 16 = .ok (.if_icmp .ge 74, 3) := by decide +kernel
theorem dX12_placesOf_19 : decode cX12_placesOf 19 = .ok (.iload 5, 2) := by decide +kernel
theorem dX12_placesOf_21 : decode cX12_placesOf 21 = .ok (.iload_n 1, 1) := by decide +kernel
theorem dX12_placesOf_22 : decode cX12_placesOf 22 = .ok (.if_icmp .eq 62, 3) := by decide +kernel
theorem dX12_placesOf_25 : decode cX12_placesOf 25 = .ok (.aload_n 0, 1) := by decide +kernel
theorem dX12_placesOf_26 : decode cX12_placesOf 26 = .ok (.iload 5, 2) := by decide +kernel
theorem dX12_placesOf_28 : decode cX12_placesOf 28 = .ok (.invokevirtual 369, 3) := by decide +kernel
theorem dX12_placesOf_31 : decode cX12_placesOf 31 = .ok (.ifCond .eq 53, 3) := by decide +kernel
theorem dX12_placesOf_34 : decode cX12_placesOf 34 = .ok (.iload 4, 2) := by decide +kernel
theorem dX12_placesOf_36 : decode cX12_placesOf 36 = .ok (.iconst 1, 1) := by decide +kernel
theorem dX12_placesOf_37 : decode cX12_placesOf 37 = .ok (.aload_n 0, 1) := by decide +kernel
theorem dX12_placesOf_38 : decode cX12_placesOf 38 = .ok (.getfield 87, 3) := by decide +kernel
theorem dX12_placesOf_41 : decode cX12_placesOf 41 = .ok (.bipush 7, 2) := by decide +kernel
theorem dX12_placesOf_43 : decode cX12_placesOf 43 = .ok (.iload 5, 2) := by decide +kernel
theorem dX12_placesOf_45 : decode cX12_placesOf 45 = .ok (.iadd, 1) := by decide +kernel
theorem dX12_placesOf_46 : decode cX12_placesOf 46 = .ok (.iaload, 1) := by decide +kernel
theorem dX12_placesOf_47 : decode cX12_placesOf 47 = .ok (.ishl, 1) := by decide +kernel
theorem dX12_placesOf_48 : decode cX12_placesOf 48 = .ok (.ior, 1) := by decide +kernel
theorem dX12_placesOf_49 : decode cX12_placesOf 49 = .ok (.istore 4, 2) := by decide +kernel
theorem dX12_placesOf_51 : decode cX12_placesOf 51 = .ok (.iload_n 3, 1) := by decide +kernel
theorem dX12_placesOf_52 : decode cX12_placesOf 52 = .ok (.aload_n 0, 1) := by decide +kernel
theorem dX12_placesOf_53 : decode cX12_placesOf 53 = .ok (.getfield 87, 3) := by decide +kernel
theorem dX12_placesOf_56 : decode cX12_placesOf 56 = .ok (.iload_n 1, 1) := by decide +kernel
theorem dX12_placesOf_57 : decode cX12_placesOf 57 = .ok (.iload 5, 2) := by decide +kernel
theorem dX12_placesOf_59 : decode cX12_placesOf 59 = .ok (.invokestatic 335, 3) := by decide +kernel
theorem dX12_placesOf_62 : decode cX12_placesOf 62 = .ok (.iaload, 1) := by decide +kernel
theorem dX12_placesOf_63 : decode cX12_placesOf 63 = .ok (.ifCond .le 18, 3) := by decide +kernel
theorem dX12_placesOf_66 : decode cX12_placesOf 66 = .ok (.iconst 1, 1) := by decide +kernel
theorem dX12_placesOf_67 : decode cX12_placesOf 67 = .ok (.aload_n 0, 1) := by decide +kernel
theorem dX12_placesOf_68 : decode cX12_placesOf 68 = .ok (.getfield 87, 3) := by decide +kernel
theorem dX12_placesOf_71 : decode cX12_placesOf 71 = .ok (.bipush 7, 2) := by decide +kernel
theorem dX12_placesOf_73 : decode cX12_placesOf 73 = .ok (.iload 5, 2) := by decide +kernel
theorem dX12_placesOf_75 : decode cX12_placesOf 75 = .ok (.iadd, 1) := by decide +kernel
theorem dX12_placesOf_76 : decode cX12_placesOf 76 = .ok (.iaload, 1) := by decide +kernel
theorem dX12_placesOf_77 : decode cX12_placesOf 77 = .ok (.ishl, 1) := by decide +kernel
theorem dX12_placesOf_78 : decode cX12_placesOf 78 = .ok (.goto 4, 3) := by decide +kernel
theorem dX12_placesOf_81 : decode cX12_placesOf 81 = .ok (.iconst 0, 1) := by decide +kernel
theorem dX12_placesOf_82 : decode cX12_placesOf 82 = .ok (.ior, 1) := by decide +kernel
theorem dX12_placesOf_83 : decode cX12_placesOf 83 = .ok (.istore_n 3, 1) := by decide +kernel
theorem dX12_placesOf_84 : decode cX12_placesOf 84 = .ok (.iinc 5 1, 3) := by decide +kernel
theorem dX12_placesOf_87 : decode cX12_placesOf 87 = .ok (.goto (-79), 3) := by decide +kernel
theorem dX12_placesOf_90 : decode cX12_placesOf 90 = .ok (.iload_n 2, 1) := by decide +kernel
theorem dX12_placesOf_91 : decode cX12_placesOf 91 = .ok (.ifCond .eq 7, 3) := by decide +kernel
theorem dX12_placesOf_94 : decode cX12_placesOf 94 = .ok (.iload_n 3, 1) := by decide +kernel
theorem dX12_placesOf_95 : decode cX12_placesOf 95 = .ok (.goto 11, 3) := by decide +kernel
theorem dX12_placesOf_98 : decode cX12_placesOf 98 = .ok (.iload 4, 2) := by decide +kernel
theorem dX12_placesOf_100 : decode cX12_placesOf 100 = .ok (.sipush 255, 3) := by decide +kernel
theorem dX12_placesOf_103 : decode cX12_placesOf 103 = .ok (.iload_n 3, 1) := by decide +kernel
theorem dX12_placesOf_104 : decode cX12_placesOf 104 = .ok (.isub, 1) := by decide +kernel
theorem dX12_placesOf_105 : decode cX12_placesOf 105 = .ok (.iand, 1) := by decide +kernel
theorem dX12_placesOf_106 : decode cX12_placesOf 106 = .ok (.ireturn, 1) := by decide +kernel
theorem dX12_stepTo_0 : decode cX12_stepTo 0 = .ok (.iload_n 0, 1) := by decide +kernel
theorem dX12_stepTo_1 : decode cX12_stepTo 1 = .ok (.sipush 256, 3) := by decide +kernel
theorem dX12_stepTo_4 : decode cX12_stepTo 4 = .ok (.idiv, 1) := by decide +kernel
theorem dX12_stepTo_5 : decode cX12_stepTo 5 = .ok (.iload_n 1, 1) := by decide +kernel
theorem dX12_stepTo_6 : decode cX12_stepTo 6 = .ok (.iadd, 1) := by decide +kernel
theorem dX12_stepTo_7 : decode cX12_stepTo 7 = .ok (.bipush 8, 2) := by decide +kernel
theorem dX12_stepTo_9 : decode cX12_stepTo 9 = .ok (.iadd, 1) := by decide +kernel
theorem dX12_stepTo_10 : decode cX12_stepTo 10 = .ok (.bipush 8, 2) := by decide +kernel
theorem dX12_stepTo_12 : decode cX12_stepTo 12 = .ok (.irem, 1) := by decide +kernel
theorem dX12_stepTo_13 : decode cX12_stepTo 13 = .ok (.istore_n 2, 1) := by decide +kernel
theorem dX12_stepTo_14 : decode cX12_stepTo 14 = .ok (.sipush 256, 3) := by decide +kernel
theorem dX12_stepTo_17 : decode cX12_stepTo 17 = .ok (.iload_n 2, 1) := by decide +kernel
theorem dX12_stepTo_18 : decode cX12_stepTo 18 = .ok (.imul, 1) := by decide +kernel
theorem dX12_stepTo_19 : decode cX12_stepTo 19 = .ok (.iload_n 0, 1) := by decide +kernel
theorem dX12_stepTo_20 : decode cX12_stepTo 20 = .ok (.sipush 256, 3) := by decide +kernel
theorem dX12_stepTo_23 : decode cX12_stepTo 23 = .ok (.irem, 1) := by decide +kernel
theorem dX12_stepTo_24 : decode cX12_stepTo 24 = .ok (.iconst 1, 1) := by decide +kernel
theorem dX12_stepTo_25 : decode cX12_stepTo 25 = .ok (.iload_n 2, 1) := by decide +kernel
theorem dX12_stepTo_26 : decode cX12_stepTo 26 = .ok (.ishl, 1) := by decide +kernel
theorem dX12_stepTo_27 : decode cX12_stepTo 27 = .ok (.ior, 1) := by decide +kernel
theorem dX12_stepTo_28 : decode cX12_stepTo 28 = .ok (.iadd, 1) := by decide +kernel
theorem dX12_stepTo_29 : decode cX12_stepTo 29 = .ok (.ireturn, 1) := by decide +kernel
theorem dX12_laysYet_0 : decode cX12_laysYet 0 = .ok (.iconst 0, 1) := by decide +kernel
theorem dX12_laysYet_1 : decode cX12_laysYet 1 = .ok (.istore_n 3, 1) := by decide +kernel
theorem dX12_laysYet_2 : decode cX12_laysYet 2 = .ok (.iload_n 3, 1) := by decide +kernel
theorem dX12_laysYet_3 : decode cX12_laysYet 3 = .ok (.sipush 2048, 3) := by decide +kernel
theorem dX12_laysYet_6 : decode cX12_laysYet 6 = .ok (.if_icmp .ge 32, 3) := by decide +kernel
theorem dX12_laysYet_9 : decode cX12_laysYet 9 = .ok (.aload_n 0, 1) := by decide +kernel
theorem dX12_laysYet_10 : decode cX12_laysYet 10 = .ok (.getfield 97, 3) := by decide +kernel
theorem dX12_laysYet_13 : decode cX12_laysYet 13 = .ok (.iload_n 3, 1) := by decide +kernel
theorem dX12_laysYet_14 : decode cX12_laysYet 14 = .ok (.iload_n 3, 1) := by decide +kernel
theorem dX12_laysYet_15 : decode cX12_laysYet 15 = .ok (.sipush 256, 3) := by decide +kernel
theorem dX12_laysYet_18 : decode cX12_laysYet 18 = .ok (.irem, 1) := by decide +kernel
theorem dX12_laysYet_19 : decode cX12_laysYet 19 = .ok (.iload_n 1, 1) := by decide +kernel
theorem dX12_laysYet_20 : decode cX12_laysYet 20 = .ok (.iand, 1) := by decide +kernel
theorem dX12_laysYet_21 : decode cX12_laysYet 21 = .ok (.iload_n 1, 1) := by decide +kernel
theorem dX12_laysYet_22 : decode cX12_laysYet 22 = .ok (.if_icmp .ne 7, 3) := by decide +kernel
theorem dX12_laysYet_25 : decode cX12_laysYet 25 = .ok (.iconst 0, 1) := by decide +kernel
theorem dX12_laysYet_26 : decode cX12_laysYet 26 = .ok (.goto 5, 3) := by decide +kernel
theorem dX12_laysYet_29 : decode cX12_laysYet 29 = .ok (.bipush 99, 2) := by decide +kernel
theorem dX12_laysYet_31 : decode cX12_laysYet 31 = .ok (.iastore, 1) := by decide +kernel
theorem dX12_laysYet_32 : decode cX12_laysYet 32 = .ok (.iinc 3 1, 3) := by decide +kernel
theorem dX12_laysYet_35 : decode cX12_laysYet 35 = .ok (.goto (-33), 3) := by decide +kernel
theorem dX12_laysYet_38 : decode cX12_laysYet 38 = .ok (.iconst 1, 1) := by decide +kernel
theorem dX12_laysYet_39 : decode cX12_laysYet 39 = .ok (.istore_n 3, 1) := by decide +kernel
theorem dX12_laysYet_40 : decode cX12_laysYet 40 = .ok (.iload_n 3, 1) := by decide +kernel
theorem dX12_laysYet_41 : decode cX12_laysYet 41 = .ok (.ifCond .eq 99, 3) := by decide +kernel
theorem dX12_laysYet_44 : decode cX12_laysYet 44 = .ok (.iconst 0, 1) := by decide +kernel
theorem dX12_laysYet_45 : decode cX12_laysYet 45 = .ok (.istore_n 3, 1) := by decide +kernel
theorem dX12_laysYet_46 : decode cX12_laysYet 46 = .ok (.iconst 0, 1) := by decide +kernel
theorem dX12_laysYet_47 : decode cX12_laysYet 47 = .ok (.istore 4, 2) := by decide +kernel
theorem dX12_laysYet_49 : decode cX12_laysYet 49 = .ok (.iload 4, 2) := by decide +kernel
theorem dX12_laysYet_51 : decode cX12_laysYet 51 = .ok (.sipush 2048, 3) := by decide +kernel
theorem dX12_laysYet_54 : decode cX12_laysYet 54 = .ok (.if_icmp .ge 83, 3) := by decide +kernel
theorem dX12_laysYet_57 : decode cX12_laysYet 57 = .ok (.iconst (-1), 1) := by decide +kernel
theorem dX12_laysYet_58 : decode cX12_laysYet 58 = .ok (.istore 5, 2) := by decide +kernel
theorem dX12_laysYet_60 : decode cX12_laysYet 60 = .ok (.iload 5, 2) := by decide +kernel
theorem dX12_laysYet_62 : decode cX12_laysYet 62 = .ok (.iconst 2, 1) := by decide +kernel
theorem dX12_laysYet_63 : decode cX12_laysYet 63 = .ok (.if_icmp .ge 68, 3) := by decide +kernel
theorem dX12_laysYet_66 : decode cX12_laysYet 66 = .ok (.iload 4, 2) := by decide +kernel
theorem dX12_laysYet_68 : decode cX12_laysYet 68 = .ok (.iload 5, 2) := by decide +kernel
theorem dX12_laysYet_70 : decode cX12_laysYet 70 = .ok (.invokestatic 466, 3) := by decide +kernel
theorem dX12_laysYet_73 : decode cX12_laysYet 73 = .ok (.istore 6, 2) := by decide +kernel
theorem dX12_laysYet_75 : decode cX12_laysYet 75 = .ok (.iload_n 2, 1) := by decide +kernel
theorem dX12_laysYet_76 : decode cX12_laysYet 76 = .ok (.iload 6, 2) := by decide +kernel
theorem dX12_laysYet_78 : decode cX12_laysYet 78 = .ok (.sipush 256, 3) := by decide +kernel
theorem dX12_laysYet_81 : decode cX12_laysYet 81 = .ok (.idiv, 1) := by decide +kernel
theorem dX12_laysYet_82 : decode cX12_laysYet 82 = .ok (.invokestatic 469, 3) := by decide +kernel
theorem dX12_laysYet_85 : decode cX12_laysYet 85 = .ok (.ifCond .ne 40, 3) := by decide +kernel
theorem dX12_laysYet_88 : decode cX12_laysYet 88 = .ok (.aload_n 0, 1) := by decide +kernel
theorem dX12_laysYet_89 : decode cX12_laysYet 89 = .ok (.getfield 97, 3) := by decide +kernel
theorem dX12_laysYet_92 : decode cX12_laysYet 92 = .ok (.iload 6, 2) := by decide +kernel
theorem dX12_laysYet_94 : decode cX12_laysYet 94 = .ok (.iaload, 1) := by decide +kernel
theorem dX12_laysYet_95 : decode cX12_laysYet 95 = .ok (.iconst 1, 1) := by decide +kernel
theorem dX12_laysYet_96 : decode cX12_laysYet 96 = .ok (.iadd, 1) := by decide +kernel
theorem dX12_laysYet_97 : decode cX12_laysYet 97 = .ok (.aload_n 0, 1) := by decide +kernel
theorem dX12_laysYet_98 : decode cX12_laysYet 98 = .ok (.getfield 97, 3) := by decide +kernel
theorem dX12_laysYet_101 : decode cX12_laysYet 101 = .ok (.iload 4, 2) := by decide +kernel
theorem dX12_laysYet_103 : decode cX12_laysYet 103 = .ok (.iaload, 1) := by decide +kernel
theorem dX12_laysYet_104 : decode cX12_laysYet 104 = .ok (.if_icmp .ge 21, 3) := by decide +kernel
theorem dX12_laysYet_107 : decode cX12_laysYet 107 = .ok (.aload_n 0, 1) := by decide +kernel
theorem dX12_laysYet_108 : decode cX12_laysYet 108 = .ok (.getfield 97, 3) := by decide +kernel
theorem dX12_laysYet_111 : decode cX12_laysYet 111 = .ok (.iload 4, 2) := by decide +kernel
theorem dX12_laysYet_113 : decode cX12_laysYet 113 = .ok (.aload_n 0, 1) := by decide +kernel
theorem dX12_laysYet_114 : decode cX12_laysYet 114 = .ok (.getfield 97, 3) := by decide +kernel
theorem dX12_laysYet_117 : decode cX12_laysYet 117 = .ok (.iload 6, 2) := by decide +kernel
theorem dX12_laysYet_119 : decode cX12_laysYet 119 = .ok (.iaload, 1) := by decide +kernel
theorem dX12_laysYet_120 : decode cX12_laysYet 120 = .ok (.iconst 1, 1) := by decide +kernel
theorem dX12_laysYet_121 : decode cX12_laysYet 121 = .ok (.iadd, 1) := by decide +kernel
theorem dX12_laysYet_122 : decode cX12_laysYet 122 = .ok (.iastore, 1) := by decide +kernel
theorem dX12_laysYet_123 : decode cX12_laysYet 123 = .ok (.iconst 1, 1) := by decide +kernel
theorem dX12_laysYet_124 : decode cX12_laysYet 124 = .ok (.istore_n 3, 1) := by decide +kernel
theorem dX12_laysYet_125 : decode cX12_laysYet 125 = .ok (.iinc 5 2, 3) := by decide +kernel
theorem dX12_laysYet_128 : decode cX12_laysYet 128 = .ok (.goto (-68), 3) := by decide +kernel
theorem dX12_laysYet_131 : decode cX12_laysYet 131 = .ok (.iinc 4 1, 3) := by decide +kernel
theorem dX12_laysYet_134 : decode cX12_laysYet 134 = .ok (.goto (-85), 3) := by decide +kernel
theorem dX12_laysYet_137 : decode cX12_laysYet 137 = .ok (.goto (-97), 3) := by decide +kernel
theorem dX12_laysYet_140 : decode cX12_laysYet 140 = .ok (.return_, 1) := by decide +kernel
theorem dX12_route_0 : decode cX12_route 0 = .ok (.aload_n 0, 1) := by decide +kernel
theorem dX12_route_1 : decode cX12_route 1 = .ok (.iload_n 1, 1) := by decide +kernel
theorem dX12_route_2 : decode cX12_route 2 = .ok (.invokevirtual 111, 3) := by decide +kernel
theorem dX12_route_5 : decode cX12_route 5 = .ok (.ifCond .eq 20, 3) := by decide +kernel
theorem dX12_route_8 : decode cX12_route 8 = .ok (.iload_n 2, 1) := by decide +kernel
theorem dX12_route_9 : decode cX12_route 9 = .ok (.iconst (-1), 1) := by decide +kernel
theorem dX12_route_10 : decode cX12_route 10 = .ok (.if_icmp .lt 15, 3) := by decide +kernel
theorem dX12_route_13 : decode cX12_route 13 = .ok (.aload_n 0, 1) := by decide +kernel
theorem dX12_route_14 : decode cX12_route 14 = .ok (.getfield 7, 3) := by decide +kernel
theorem dX12_route_17 : decode cX12_route 17 = .ok (.bipush 54, 2) := by decide +kernel
theorem dX12_route_19 : decode cX12_route 19 = .ok (.iload_n 1, 1) := by decide +kernel
theorem dX12_route_20 : decode cX12_route 20 = .ok (.iadd, 1) := by decide +kernel
theorem dX12_route_21 : decode cX12_route 21 = .ok (.iaload, 1) := by decide +kernel
theorem dX12_route_22 : decode cX12_route 22 = .ok (.ifCond .le 6, 3) := by decide +kernel
theorem dX12_route_25 : decode cX12_route 25 = .ok (.bipush (-2), 2) := by decide +kernel
theorem dX12_route_27 : decode cX12_route 27 = .ok (.ireturn, 1) := by decide +kernel
theorem dX12_route_28 : decode cX12_route 28 = .ok (.aload_n 0, 1) := by decide +kernel
theorem dX12_route_29 : decode cX12_route 29 = .ok (.invokevirtual 399, 3) := by decide +kernel
theorem dX12_route_32 : decode cX12_route 32 = .ok (.aload_n 0, 1) := by decide +kernel
theorem dX12_route_33 : decode cX12_route 33 = .ok (.iload_n 1, 1) := by decide +kernel
theorem dX12_route_34 : decode cX12_route 34 = .ok (.iconst 0, 1) := by decide +kernel
theorem dX12_route_35 : decode cX12_route 35 = .ok (.invokevirtual 472, 3) := by decide +kernel
theorem dX12_route_38 : decode cX12_route 38 = .ok (.istore_n 3, 1) := by decide +kernel
theorem dX12_route_39 : decode cX12_route 39 = .ok (.aload_n 0, 1) := by decide +kernel
theorem dX12_route_40 : decode cX12_route 40 = .ok (.aload_n 0, 1) := by decide +kernel
theorem dX12_route_41 : decode cX12_route 41 = .ok (.iload_n 1, 1) := by decide +kernel
theorem dX12_route_42 : decode cX12_route 42 = .ok (.iconst 1, 1) := by decide +kernel
theorem dX12_route_43 : decode cX12_route 43 = .ok (.invokevirtual 472, 3) := by decide +kernel
theorem dX12_route_46 : decode cX12_route 46 = .ok (.iload_n 3, 1) := by decide +kernel
theorem dX12_route_47 : decode cX12_route 47 = .ok (.invokevirtual 476, 3) := by decide +kernel
theorem dX12_route_50 : decode cX12_route 50 = .ok (.sipush 256, 3) := by decide +kernel
theorem dX12_route_53 : decode cX12_route 53 = .ok (.aload_n 0, 1) := by decide +kernel
theorem dX12_route_54 : decode cX12_route 54 = .ok (.getfield 87, 3) := by decide +kernel
theorem dX12_route_57 : decode cX12_route 57 = .ok (.bipush 7, 2) := by decide +kernel
theorem dX12_route_59 : decode cX12_route 59 = .ok (.iload_n 1, 1) := by decide +kernel
theorem dX12_route_60 : decode cX12_route 60 = .ok (.iadd, 1) := by decide +kernel
theorem dX12_route_61 : decode cX12_route 61 = .ok (.iaload, 1) := by decide +kernel
theorem dX12_route_62 : decode cX12_route 62 = .ok (.imul, 1) := by decide +kernel
theorem dX12_route_63 : decode cX12_route 63 = .ok (.iconst 1, 1) := by decide +kernel
theorem dX12_route_64 : decode cX12_route 64 = .ok (.aload_n 0, 1) := by decide +kernel
theorem dX12_route_65 : decode cX12_route 65 = .ok (.getfield 87, 3) := by decide +kernel
theorem dX12_route_68 : decode cX12_route 68 = .ok (.bipush 7, 2) := by decide +kernel
theorem dX12_route_70 : decode cX12_route 70 = .ok (.iload_n 1, 1) := by decide +kernel
theorem dX12_route_71 : decode cX12_route 71 = .ok (.iadd, 1) := by decide +kernel
theorem dX12_route_72 : decode cX12_route 72 = .ok (.iaload, 1) := by decide +kernel
theorem dX12_route_73 : decode cX12_route 73 = .ok (.ishl, 1) := by decide +kernel
theorem dX12_route_74 : decode cX12_route 74 = .ok (.iadd, 1) := by decide +kernel
theorem dX12_route_75 : decode cX12_route 75 = .ok (.istore 4, 2) := by decide +kernel
theorem dX12_route_77 : decode cX12_route 77 = .ok (.aload_n 0, 1) := by decide +kernel
theorem dX12_route_78 : decode cX12_route 78 = .ok (.getfield 97, 3) := by decide +kernel
theorem dX12_route_81 : decode cX12_route 81 = .ok (.iload 4, 2) := by decide +kernel
theorem dX12_route_83 : decode cX12_route 83 = .ok (.iaload, 1) := by decide +kernel
theorem dX12_route_84 : decode cX12_route 84 = .ok (.bipush 99, 2) := by decide +kernel
theorem dX12_route_86 : decode cX12_route 86 = .ok (.if_icmp .eq 14, 3) := by decide +kernel
theorem dX12_route_89 : decode cX12_route 89 = .ok (.iload_n 2, 1) := by decide +kernel
theorem dX12_route_90 : decode cX12_route 90 = .ok (.aload_n 0, 1) := by decide +kernel
theorem dX12_route_91 : decode cX12_route 91 = .ok (.getfield 97, 3) := by decide +kernel
theorem dX12_route_94 : decode cX12_route 94 = .ok (.iload 4, 2) := by decide +kernel
theorem dX12_route_96 : decode cX12_route 96 = .ok (.iaload, 1) := by decide +kernel
theorem dX12_route_97 : decode cX12_route 97 = .ok (.if_icmp .lt 6, 3) := by decide +kernel
theorem dX12_route_100 : decode cX12_route 100 = .ok (.bipush (-2), 2) := by decide +kernel
theorem dX12_route_102 : decode cX12_route 102 = .ok (.ireturn, 1) := by decide +kernel
theorem dX12_route_103 : decode cX12_route 103 = .ok (.iload_n 2, 1) := by decide +kernel
theorem dX12_route_104 : decode cX12_route 104 = .ok (.iconst (-1), 1) := by decide +kernel
theorem dX12_route_105 : decode cX12_route 105 = .ok (.if_icmp .ne 11, 3) := by decide +kernel
theorem dX12_route_108 : decode cX12_route 108 = .ok (.aload_n 0, 1) := by decide +kernel
theorem dX12_route_109 : decode cX12_route 109 = .ok (.getfield 97, 3) := by decide +kernel
theorem dX12_route_112 : decode cX12_route 112 = .ok (.iload 4, 2) := by decide +kernel
theorem dX12_route_114 : decode cX12_route 114 = .ok (.iaload, 1) := by decide +kernel
theorem dX12_route_115 : decode cX12_route 115 = .ok (.ireturn, 1) := by decide +kernel
theorem dX12_route_116 : decode cX12_route 116 = .ok (.iconst 1, 1) := by decide +kernel
theorem dX12_route_117 : decode cX12_route 117 = .ok (.istore 5, 2) := by decide +kernel
theorem dX12_route_119 : decode cX12_route 119 = .ok (.iconst 0, 1) := by decide +kernel
theorem dX12_route_120 : decode cX12_route 120 = .ok (.istore 6, 2) := by decide +kernel
theorem dX12_route_122 : decode cX12_route 122 = .ok (.iload 6, 2) := by decide +kernel
theorem dX12_route_124 : decode cX12_route 124 = .ok (.iload_n 2, 1) := by decide +kernel
theorem dX12_route_125 : decode cX12_route 125 = .ok (.if_icmp .gt 65, 3) := by decide +kernel
theorem dX12_route_128 : decode cX12_route 128 = .ok (.iload 4, 2) := by decide +kernel
theorem dX12_route_130 : decode cX12_route 130 = .ok (.iconst 1, 1) := by decide +kernel
theorem dX12_route_131 : decode cX12_route 131 = .ok (.invokestatic 466, 3) := by decide +kernel
theorem dX12_route_134 : decode cX12_route 134 = .ok (.istore 7, 2) := by decide +kernel
theorem dX12_route_136 : decode cX12_route 136 = .ok (.iload_n 3, 1) := by decide +kernel
theorem dX12_route_137 : decode cX12_route 137 = .ok (.iload 7, 2) := by decide +kernel
theorem dX12_route_139 : decode cX12_route 139 = .ok (.sipush 256, 3) := by decide +kernel
theorem dX12_route_142 : decode cX12_route 142 = .ok (.idiv, 1) := by decide +kernel
theorem dX12_route_143 : decode cX12_route 143 = .ok (.invokestatic 469, 3) := by decide +kernel
theorem dX12_route_146 : decode cX12_route 146 = .ok (.ifCond .ne 26, 3) := by decide +kernel
theorem dX12_route_149 : decode cX12_route 149 = .ok (.aload_n 0, 1) := by decide +kernel
theorem dX12_route_150 : decode cX12_route 150 = .ok (.getfield 97, 3) := by decide +kernel
theorem dX12_route_153 : decode cX12_route 153 = .ok (.iload 7, 2) := by decide +kernel
theorem dX12_route_155 : decode cX12_route 155 = .ok (.iaload, 1) := by decide +kernel
theorem dX12_route_156 : decode cX12_route 156 = .ok (.aload_n 0, 1) := by decide +kernel
theorem dX12_route_157 : decode cX12_route 157 = .ok (.getfield 97, 3) := by decide +kernel
theorem dX12_route_160 : decode cX12_route 160 = .ok (.iload 4, 2) := by decide +kernel
theorem dX12_route_162 : decode cX12_route 162 = .ok (.iaload, 1) := by decide +kernel
theorem dX12_route_163 : decode cX12_route 163 = .ok (.iconst 1, 1) := by decide +kernel
theorem dX12_route_164 : decode cX12_route 164 = .ok (.isub, 1) := by decide +kernel
theorem dX12_route_165 : decode cX12_route 165 = .ok (.if_icmp .ne 7, 3) := by decide +kernel
theorem dX12_route_168 : decode cX12_route 168 = .ok (.iconst 1, 1) := by decide +kernel
theorem dX12_route_169 : decode cX12_route 169 = .ok (.goto 4, 3) := by decide +kernel
theorem dX12_route_172 : decode cX12_route 172 = .ok (.iconst (-1), 1) := by decide +kernel
theorem dX12_route_173 : decode cX12_route 173 = .ok (.istore 5, 2) := by decide +kernel
theorem dX12_route_175 : decode cX12_route 175 = .ok (.iload 4, 2) := by decide +kernel
theorem dX12_route_177 : decode cX12_route 177 = .ok (.iload 5, 2) := by decide +kernel
theorem dX12_route_179 : decode cX12_route 179 = .ok (.invokestatic 466, 3) := by decide +kernel
theorem dX12_route_182 : decode cX12_route 182 = .ok (.istore 4, 2) := by decide +kernel
theorem dX12_route_184 : decode cX12_route 184 = .ok (.iinc 6 1, 3) := by decide +kernel
theorem dX12_route_187 : decode cX12_route 187 = .ok (.goto (-65), 3) := by decide +kernel
theorem dX12_route_190 : decode cX12_route 190 = .ok (.iload 5, 2) := by decide +kernel
theorem dX12_route_192 : decode cX12_route 192 = .ok (.ireturn, 1) := by decide +kernel
theorem dX12_settled_0 : decode cX12_settled 0 = .ok (.aload_n 0, 1) := by decide +kernel
theorem dX12_settled_1 : decode cX12_settled 1 = .ok (.invokevirtual 399, 3) := by decide +kernel
theorem dX12_settled_4 : decode cX12_settled 4 = .ok (.aload_n 0, 1) := by decide +kernel
theorem dX12_settled_5 : decode cX12_settled 5 = .ok (.getfield 7, 3) := by decide +kernel
theorem dX12_settled_8 : decode cX12_settled 8 = .ok (.iconst 0, 1) := by decide +kernel
theorem dX12_settled_9 : decode cX12_settled 9 = .ok (.iaload, 1) := by decide +kernel
theorem dX12_settled_10 : decode cX12_settled 10 = .ok (.istore_n 2, 1) := by decide +kernel
theorem dX12_settled_11 : decode cX12_settled 11 = .ok (.aload_n 0, 1) := by decide +kernel
theorem dX12_settled_12 : decode cX12_settled 12 = .ok (.getfield 100, 3) := by decide +kernel
theorem dX12_settled_15 : decode cX12_settled 15 = .ok (.iconst 0, 1) := by decide +kernel
theorem dX12_settled_16 : decode cX12_settled 16 = .ok (.iconst 0, 1) := by decide +kernel
theorem dX12_settled_17 : decode cX12_settled 17 = .ok (.iastore, 1) := by decide +kernel
theorem dX12_settled_18 : decode cX12_settled 18 = .ok (.iconst 1, 1) := by decide +kernel
theorem dX12_settled_19 : decode cX12_settled 19 = .ok (.istore_n 3, 1) := by decide +kernel
theorem dX12_settled_20 : decode cX12_settled 20 = .ok (.iload_n 3, 1) := by decide +kernel
theorem dX12_settled_21 : decode cX12_settled 21 = .ok (.iconst 1, 1) := by decide +kernel
theorem dX12_settled_22 : decode cX12_settled 22 = .ok (.iload_n 2, 1) := by decide +kernel
theorem dX12_settled_23 : decode cX12_settled 23 = .ok (.ishl, 1) := by decide +kernel
theorem dX12_settled_24 : decode cX12_settled 24 = .ok (.if_icmp .ge 105, 3) := by decide +kernel
theorem dX12_settled_27 : decode cX12_settled 27 = .ok (.iconst 0, 1) := by decide +kernel
theorem dX12_settled_28 : decode cX12_settled 28 = .ok (.istore 4, 2) := by decide +kernel
theorem dX12_settled_30 : decode cX12_settled 30 = .ok (.iconst 0, 1) := by decide +kernel
theorem dX12_settled_31 : decode cX12_settled 31 = .ok (.istore 5, 2) := by decide +kernel
theorem dX12_settled_33 : decode cX12_settled 33 = .ok (.iconst 0, 1) := by decide +kernel
theorem dX12_settled_34 : decode cX12_settled 34 = .ok (.istore 6, 2) := by decide +kernel
theorem dX12_settled_36 : decode cX12_settled 36 = .ok (.iload 6, 2) := by decide +kernel
theorem dX12_settled_38 : decode cX12_settled 38 = .ok (.iload_n 2, 1) := by decide +kernel
theorem dX12_settled_39 : decode cX12_settled 39 = .ok (.if_icmp .ge 65, 3) := by decide +kernel
theorem dX12_settled_42 : decode cX12_settled 42 = .ok (.iload_n 3, 1) := by decide +kernel
theorem dX12_settled_43 : decode cX12_settled 43 = .ok (.iload 6, 2) := by decide +kernel
theorem dX12_settled_45 : decode cX12_settled 45 = .ok (.invokestatic 469, 3) := by decide +kernel
theorem dX12_settled_48 : decode cX12_settled 48 = .ok (.ifCond .eq 50, 3) := by decide +kernel
theorem dX12_settled_51 : decode cX12_settled 51 = .ok (.iload 4, 2) := by decide +kernel
theorem dX12_settled_53 : decode cX12_settled 53 = .ok (.aload_n 0, 1) := by decide +kernel
theorem dX12_settled_54 : decode cX12_settled 54 = .ok (.iload 6, 2) := by decide +kernel
theorem dX12_settled_56 : decode cX12_settled 56 = .ok (.invokevirtual 460, 3) := by decide +kernel
theorem dX12_settled_59 : decode cX12_settled 59 = .ok (.aload_n 0, 1) := by decide +kernel
theorem dX12_settled_60 : decode cX12_settled 60 = .ok (.iload 6, 2) := by decide +kernel
theorem dX12_settled_62 : decode cX12_settled 62 = .ok (.invokevirtual 384, 3) := by decide +kernel
theorem dX12_settled_65 : decode cX12_settled 65 = .ok (.isub, 1) := by decide +kernel
theorem dX12_settled_66 : decode cX12_settled 66 = .ok (.iadd, 1) := by decide +kernel
theorem dX12_settled_67 : decode cX12_settled 67 = .ok (.istore 4, 2) := by decide +kernel
theorem dX12_settled_69 : decode cX12_settled 69 = .ok (.aload_n 0, 1) := by decide +kernel
theorem dX12_settled_70 : decode cX12_settled 70 = .ok (.getfield 100, 3) := by decide +kernel
theorem dX12_settled_73 : decode cX12_settled 73 = .ok (.iload_n 3, 1) := by decide +kernel
theorem dX12_settled_74 : decode cX12_settled 74 = .ok (.iconst 1, 1) := by decide +kernel
theorem dX12_settled_75 : decode cX12_settled 75 = .ok (.iload 6, 2) := by decide +kernel
theorem dX12_settled_77 : decode cX12_settled 77 = .ok (.ishl, 1) := by decide +kernel
theorem dX12_settled_78 : decode cX12_settled 78 = .ok (.isub, 1) := by decide +kernel
theorem dX12_settled_79 : decode cX12_settled 79 = .ok (.iaload, 1) := by decide +kernel
theorem dX12_settled_80 : decode cX12_settled 80 = .ok (.istore 7, 2) := by decide +kernel
theorem dX12_settled_82 : decode cX12_settled 82 = .ok (.iload 7, 2) := by decide +kernel
theorem dX12_settled_84 : decode cX12_settled 84 = .ok (.iload 5, 2) := by decide +kernel
theorem dX12_settled_86 : decode cX12_settled 86 = .ok (.if_icmp .le 8, 3) := by decide +kernel
theorem dX12_settled_89 : decode cX12_settled 89 = .ok (.iload 7, 2) := by decide +kernel
theorem dX12_settled_91 : decode cX12_settled 91 = .ok (.goto 5, 3) := by decide +kernel
theorem dX12_settled_94 : decode cX12_settled 94 = .ok (.iload 5, 2) := by decide +kernel
theorem dX12_settled_96 : decode cX12_settled 96 = .ok (.istore 5, 2) := by decide +kernel
theorem dX12_settled_98 : decode cX12_settled 98 = .ok (.iinc 6 1, 3) := by decide +kernel
theorem dX12_settled_101 : decode cX12_settled 101 = .ok (.goto (-65), 3) := by decide +kernel
theorem dX12_settled_104 : decode cX12_settled 104 = .ok (.aload_n 0, 1) := by decide +kernel
theorem dX12_settled_105 : decode cX12_settled 105 = .ok (.getfield 100, 3) := by decide +kernel
theorem dX12_settled_108 : decode cX12_settled 108 = .ok (.iload_n 3, 1) := by decide +kernel
theorem dX12_settled_109 : decode cX12_settled 109 = .ok (.iload 5, 2) := by decide +kernel
theorem dX12_settled_111 : decode cX12_settled 111 = .ok (.iload 4, 2) := by decide +kernel
theorem dX12_settled_113 : decode cX12_settled 113 = .ok (.ifCond .ne 7, 3) := by decide +kernel
theorem dX12_settled_116 : decode cX12_settled 116 = .ok (.iconst 1, 1) := by decide +kernel
theorem dX12_settled_117 : decode cX12_settled 117 = .ok (.goto 4, 3) := by decide +kernel
theorem dX12_settled_120 : decode cX12_settled 120 = .ok (.iconst 0, 1) := by decide +kernel
theorem dX12_settled_121 : decode cX12_settled 121 = .ok (.iadd, 1) := by decide +kernel
theorem dX12_settled_122 : decode cX12_settled 122 = .ok (.iastore, 1) := by decide +kernel
theorem dX12_settled_123 : decode cX12_settled 123 = .ok (.iinc 3 1, 3) := by decide +kernel
theorem dX12_settled_126 : decode cX12_settled 126 = .ok (.goto (-106), 3) := by decide +kernel
theorem dX12_settled_129 : decode cX12_settled 129 = .ok (.aload_n 0, 1) := by decide +kernel
theorem dX12_settled_130 : decode cX12_settled 130 = .ok (.getfield 100, 3) := by decide +kernel
theorem dX12_settled_133 : decode cX12_settled 133 = .ok (.iconst 1, 1) := by decide +kernel
theorem dX12_settled_134 : decode cX12_settled 134 = .ok (.iload_n 2, 1) := by decide +kernel
theorem dX12_settled_135 : decode cX12_settled 135 = .ok (.ishl, 1) := by decide +kernel
theorem dX12_settled_136 : decode cX12_settled 136 = .ok (.iconst 1, 1) := by decide +kernel
theorem dX12_settled_137 : decode cX12_settled 137 = .ok (.isub, 1) := by decide +kernel
theorem dX12_settled_138 : decode cX12_settled 138 = .ok (.iaload, 1) := by decide +kernel
theorem dX12_settled_139 : decode cX12_settled 139 = .ok (.istore_n 3, 1) := by decide +kernel
theorem dX12_settled_140 : decode cX12_settled 140 = .ok (.iload_n 1, 1) := by decide +kernel
theorem dX12_settled_141 : decode cX12_settled 141 = .ok (.ifCond .eq 7, 3) := by decide +kernel
theorem dX12_settled_144 : decode cX12_settled 144 = .ok (.iload_n 3, 1) := by decide +kernel
theorem dX12_settled_145 : decode cX12_settled 145 = .ok (.goto 6, 3) := by decide +kernel
theorem dX12_settled_148 : decode cX12_settled 148 = .ok (.iload_n 2, 1) := by decide +kernel
theorem dX12_settled_149 : decode cX12_settled 149 = .ok (.iload_n 3, 1) := by decide +kernel
theorem dX12_settled_150 : decode cX12_settled 150 = .ok (.isub, 1) := by decide +kernel
theorem dX12_settled_151 : decode cX12_settled 151 = .ok (.ireturn, 1) := by decide +kernel
theorem dX12_lane_0 : decode cX12_lane 0 = .ok (.iload_n 1, 1) := by decide +kernel
theorem dX12_lane_1 : decode cX12_lane 1 = .ok (.iconst 1, 1) := by decide +kernel
theorem dX12_lane_2 : decode cX12_lane 2 = .ok (.bipush 20, 2) := by decide +kernel
theorem dX12_lane_4 : decode cX12_lane 4 = .ok (.invokestatic 107, 3) := by decide +kernel
theorem dX12_lane_7 : decode cX12_lane 7 = .ok (.ifCond .eq 57, 3) := by decide +kernel
theorem dX12_lane_10 : decode cX12_lane 10 = .ok (.iload_n 2, 1) := by decide +kernel
theorem dX12_lane_11 : decode cX12_lane 11 = .ok (.iconst 0, 1) := by decide +kernel
theorem dX12_lane_12 : decode cX12_lane 12 = .ok (.bipush 99, 2) := by decide +kernel
theorem dX12_lane_14 : decode cX12_lane 14 = .ok (.invokestatic 107, 3) := by decide +kernel
theorem dX12_lane_17 : decode cX12_lane 17 = .ok (.ifCond .eq 47, 3) := by decide +kernel
theorem dX12_lane_20 : decode cX12_lane 20 = .ok (.iload_n 3, 1) := by decide +kernel
theorem dX12_lane_21 : decode cX12_lane 21 = .ok (.iconst 0, 1) := by decide +kernel
theorem dX12_lane_22 : decode cX12_lane 22 = .ok (.bipush 99, 2) := by decide +kernel
theorem dX12_lane_24 : decode cX12_lane 24 = .ok (.invokestatic 107, 3) := by decide +kernel
theorem dX12_lane_27 : decode cX12_lane 27 = .ok (.ifCond .eq 37, 3) := by decide +kernel
theorem dX12_lane_30 : decode cX12_lane 30 = .ok (.iload 4, 2) := by decide +kernel
theorem dX12_lane_32 : decode cX12_lane 32 = .ok (.iconst 0, 1) := by decide +kernel
theorem dX12_lane_33 : decode cX12_lane 33 = .ok (.sipush 999, 3) := by decide +kernel
theorem dX12_lane_36 : decode cX12_lane 36 = .ok (.invokestatic 107, 3) := by decide +kernel
theorem dX12_lane_39 : decode cX12_lane 39 = .ok (.ifCond .eq 25, 3) := by decide +kernel
theorem dX12_lane_42 : decode cX12_lane 42 = .ok (.iload 5, 2) := by decide +kernel
theorem dX12_lane_44 : decode cX12_lane 44 = .ok (.iconst 0, 1) := by decide +kernel
theorem dX12_lane_45 : decode cX12_lane 45 = .ok (.sipush 9999, 3) := by decide +kernel
theorem dX12_lane_48 : decode cX12_lane 48 = .ok (.invokestatic 107, 3) := by decide +kernel
theorem dX12_lane_51 : decode cX12_lane 51 = .ok (.ifCond .eq 13, 3) := by decide +kernel
theorem dX12_lane_54 : decode cX12_lane 54 = .ok (.iload 6, 2) := by decide +kernel
theorem dX12_lane_56 : decode cX12_lane 56 = .ok (.iconst 0, 1) := by decide +kernel
theorem dX12_lane_57 : decode cX12_lane 57 = .ok (.iconst 2, 1) := by decide +kernel
theorem dX12_lane_58 : decode cX12_lane 58 = .ok (.invokestatic 107, 3) := by decide +kernel
theorem dX12_lane_61 : decode cX12_lane 61 = .ok (.ifCond .ne 5, 3) := by decide +kernel
theorem dX12_lane_64 : decode cX12_lane 64 = .ok (.iconst (-1), 1) := by decide +kernel
theorem dX12_lane_65 : decode cX12_lane 65 = .ok (.ireturn, 1) := by decide +kernel
theorem dX12_lane_66 : decode cX12_lane 66 = .ok (.iload_n 1, 1) := by decide +kernel
theorem dX12_lane_67 : decode cX12_lane 67 = .ok (.istore 7, 2) := by decide +kernel
theorem dX12_lane_69 : decode cX12_lane 69 = .ok (.iload 5, 2) := by decide +kernel
theorem dX12_lane_71 : decode cX12_lane 71 = .ok (.istore 8, 2) := by decide +kernel
theorem dX12_lane_73 : decode cX12_lane 73 = .ok (.iload 5, 2) := by decide +kernel
theorem dX12_lane_75 : decode cX12_lane 75 = .ok (.istore 9, 2) := by decide +kernel
theorem dX12_lane_77 : decode cX12_lane 77 = .ok (.iload_n 1, 1) := by decide +kernel
theorem dX12_lane_78 : decode cX12_lane 78 = .ok (.iconst 1, 1) := by decide +kernel
theorem dX12_lane_79 : decode cX12_lane 79 = .ok (.isub, 1) := by decide +kernel
theorem dX12_lane_80 : decode cX12_lane 80 = .ok (.istore 10, 2) := by decide +kernel
theorem dX12_lane_82 : decode cX12_lane 82 = .ok (.iload 10, 2) := by decide +kernel
theorem dX12_lane_84 : decode cX12_lane 84 = .ok (.ifCond .lt 95, 3) := by decide +kernel
theorem dX12_lane_87 : decode cX12_lane 87 = .ok (.iload_n 2, 1) := by decide +kernel
theorem dX12_lane_88 : decode cX12_lane 88 = .ok (.iload 10, 2) := by decide +kernel
theorem dX12_lane_90 : decode cX12_lane 90 = .ok (.iload_n 3, 1) := by decide +kernel
theorem dX12_lane_91 : decode cX12_lane 91 = .ok (.imul, 1) := by decide +kernel
theorem dX12_lane_92 : decode cX12_lane 92 = .ok (.iadd, 1) := by decide +kernel
theorem dX12_lane_93 : decode cX12_lane 93 = .ok (.istore 11, 2) := by decide +kernel
theorem dX12_lane_95 : decode cX12_lane 95 = .ok (.iload 4, 2) := by decide +kernel
theorem dX12_lane_97 : decode cX12_lane 97 = .ok (.iload 10, 2) := by decide +kernel
theorem dX12_lane_99 : decode cX12_lane 99 = .ok (.iload_n 3, 1) := by decide +kernel
theorem dX12_lane_100 : decode cX12_lane 100 = .ok (.imul, 1) := by decide +kernel
theorem dX12_lane_101 : decode cX12_lane 101 = .ok (.isub, 1) := by decide +kernel
theorem dX12_lane_102 : decode cX12_lane 102 = .ok (.ifCond .ge 7, 3) := by decide +kernel
theorem dX12_lane_105 : decode cX12_lane 105 = .ok (.iconst 0, 1) := by decide +kernel
theorem dX12_lane_106 : decode cX12_lane 106 = .ok (.goto 10, 3) := by decide +kernel
theorem dX12_lane_109 : decode cX12_lane 109 = .ok (.iload 4, 2) := by decide +kernel
theorem dX12_lane_111 : decode cX12_lane 111 = .ok (.iload 10, 2) := by decide +kernel
theorem dX12_lane_113 : decode cX12_lane 113 = .ok (.iload_n 3, 1) := by decide +kernel
theorem dX12_lane_114 : decode cX12_lane 114 = .ok (.imul, 1) := by decide +kernel
theorem dX12_lane_115 : decode cX12_lane 115 = .ok (.isub, 1) := by decide +kernel
theorem dX12_lane_116 : decode cX12_lane 116 = .ok (.istore 12, 2) := by decide +kernel
theorem dX12_lane_118 : decode cX12_lane 118 = .ok (.iload 11, 2) := by decide +kernel
theorem dX12_lane_120 : decode cX12_lane 120 = .ok (.iload 10, 2) := by decide +kernel
theorem dX12_lane_122 : decode cX12_lane 122 = .ok (.iconst 2, 1) := by decide +kernel
theorem dX12_lane_123 : decode cX12_lane 123 = .ok (.irem, 1) := by decide +kernel
theorem dX12_lane_124 : decode cX12_lane 124 = .ok (.ifCond .ne 8, 3) := by decide +kernel
theorem dX12_lane_127 : decode cX12_lane 127 = .ok (.iload 8, 2) := by decide +kernel
theorem dX12_lane_129 : decode cX12_lane 129 = .ok (.goto 5, 3) := by decide +kernel
theorem dX12_lane_132 : decode cX12_lane 132 = .ok (.iload 9, 2) := by decide +kernel
theorem dX12_lane_134 : decode cX12_lane 134 = .ok (.if_icmp .gt 39, 3) := by decide +kernel
theorem dX12_lane_137 : decode cX12_lane 137 = .ok (.iload 10, 2) := by decide +kernel
theorem dX12_lane_139 : decode cX12_lane 139 = .ok (.istore 7, 2) := by decide +kernel
theorem dX12_lane_141 : decode cX12_lane 141 = .ok (.iload 10, 2) := by decide +kernel
theorem dX12_lane_143 : decode cX12_lane 143 = .ok (.iconst 2, 1) := by decide +kernel
theorem dX12_lane_144 : decode cX12_lane 144 = .ok (.irem, 1) := by decide +kernel
theorem dX12_lane_145 : decode cX12_lane 145 = .ok (.ifCond .ne 8, 3) := by decide +kernel
theorem dX12_lane_148 : decode cX12_lane 148 = .ok (.iload 11, 2) := by decide +kernel
theorem dX12_lane_150 : decode cX12_lane 150 = .ok (.goto 5, 3) := by decide +kernel
theorem dX12_lane_153 : decode cX12_lane 153 = .ok (.iload 12, 2) := by decide +kernel
theorem dX12_lane_155 : decode cX12_lane 155 = .ok (.istore 8, 2) := by decide +kernel
theorem dX12_lane_157 : decode cX12_lane 157 = .ok (.iload 10, 2) := by decide +kernel
theorem dX12_lane_159 : decode cX12_lane 159 = .ok (.iconst 2, 1) := by decide +kernel
theorem dX12_lane_160 : decode cX12_lane 160 = .ok (.irem, 1) := by decide +kernel
theorem dX12_lane_161 : decode cX12_lane 161 = .ok (.ifCond .ne 8, 3) := by decide +kernel
theorem dX12_lane_164 : decode cX12_lane 164 = .ok (.iload 12, 2) := by decide +kernel
theorem dX12_lane_166 : decode cX12_lane 166 = .ok (.goto 5, 3) := by decide +kernel
theorem dX12_lane_169 : decode cX12_lane 169 = .ok (.iload 11, 2) := by decide +kernel
theorem dX12_lane_171 : decode cX12_lane 171 = .ok (.istore 9, 2) := by decide +kernel
theorem dX12_lane_173 : decode cX12_lane 173 = .ok (.iinc 10 (-1), 3) := by decide +kernel
theorem dX12_lane_176 : decode cX12_lane 176 = .ok (.goto (-94), 3) := by decide +kernel
theorem dX12_lane_179 : decode cX12_lane 179 = .ok (.iload 6, 2) := by decide +kernel
theorem dX12_lane_181 : decode cX12_lane 181 = .ok (.ifCond .ne 8, 3) := by decide +kernel
theorem dX12_lane_184 : decode cX12_lane 184 = .ok (.iload 7, 2) := by decide +kernel
theorem dX12_lane_186 : decode cX12_lane 186 = .ok (.goto 16, 3) := by decide +kernel
theorem dX12_lane_189 : decode cX12_lane 189 = .ok (.iload 6, 2) := by decide +kernel
theorem dX12_lane_191 : decode cX12_lane 191 = .ok (.iconst 1, 1) := by decide +kernel
theorem dX12_lane_192 : decode cX12_lane 192 = .ok (.if_icmp .ne 8, 3) := by decide +kernel
theorem dX12_lane_195 : decode cX12_lane 195 = .ok (.iload 8, 2) := by decide +kernel
theorem dX12_lane_197 : decode cX12_lane 197 = .ok (.goto 5, 3) := by decide +kernel
theorem dX12_lane_200 : decode cX12_lane 200 = .ok (.iload 9, 2) := by decide +kernel
theorem dX12_lane_202 : decode cX12_lane 202 = .ok (.ireturn, 1) := by decide +kernel
theorem dX12_owedIn_0 : decode cX12_owedIn 0 = .ok (.iconst 0, 1) := by decide +kernel
theorem dX12_owedIn_1 : decode cX12_owedIn 1 = .ok (.istore_n 3, 1) := by decide +kernel
theorem dX12_owedIn_2 : decode cX12_owedIn 2 = .ok (.iconst 0, 1) := by decide +kernel
theorem dX12_owedIn_3 : decode cX12_owedIn 3 = .ok (.istore 4, 2) := by decide +kernel
theorem dX12_owedIn_5 : decode cX12_owedIn 5 = .ok (.iload 4, 2) := by decide +kernel
theorem dX12_owedIn_7 : decode cX12_owedIn 7 = .ok (.aload_n 0, 1) := by decide +kernel
theorem dX12_owedIn_8 : decode cX12_owedIn 8 = .ok (.getfield 7, 3) := by decide +kernel
theorem dX12_owedIn_11 : decode cX12_owedIn 11 = .ok (.iconst 0, 1) := by decide +kernel
theorem dX12_owedIn_12 : decode cX12_owedIn 12 = .ok (.iaload, 1) := by decide +kernel
theorem dX12_owedIn_13 : decode cX12_owedIn 13 = .ok (.if_icmp .ge 36, 3) := by decide +kernel
theorem dX12_owedIn_16 : decode cX12_owedIn 16 = .ok (.iload_n 3, 1) := by decide +kernel
theorem dX12_owedIn_17 : decode cX12_owedIn 17 = .ok (.iload_n 2, 1) := by decide +kernel
theorem dX12_owedIn_18 : decode cX12_owedIn 18 = .ok (.iload 4, 2) := by decide +kernel
theorem dX12_owedIn_20 : decode cX12_owedIn 20 = .ok (.invokestatic 469, 3) := by decide +kernel
theorem dX12_owedIn_23 : decode cX12_owedIn 23 = .ok (.ifCond .eq 17, 3) := by decide +kernel
theorem dX12_owedIn_26 : decode cX12_owedIn 26 = .ok (.aload_n 0, 1) := by decide +kernel
theorem dX12_owedIn_27 : decode cX12_owedIn 27 = .ok (.getfield 87, 3) := by decide +kernel
theorem dX12_owedIn_30 : decode cX12_owedIn 30 = .ok (.iload_n 1, 1) := by decide +kernel
theorem dX12_owedIn_31 : decode cX12_owedIn 31 = .ok (.iload 4, 2) := by decide +kernel
theorem dX12_owedIn_33 : decode cX12_owedIn 33 = .ok (.invokestatic 335, 3) := by decide +kernel
theorem dX12_owedIn_36 : decode cX12_owedIn 36 = .ok (.iaload, 1) := by decide +kernel
theorem dX12_owedIn_37 : decode cX12_owedIn 37 = .ok (.goto 4, 3) := by decide +kernel
theorem dX12_owedIn_40 : decode cX12_owedIn 40 = .ok (.iconst 0, 1) := by decide +kernel
theorem dX12_owedIn_41 : decode cX12_owedIn 41 = .ok (.iadd, 1) := by decide +kernel
theorem dX12_owedIn_42 : decode cX12_owedIn 42 = .ok (.istore_n 3, 1) := by decide +kernel
theorem dX12_owedIn_43 : decode cX12_owedIn 43 = .ok (.iinc 4 1, 3) := by decide +kernel
theorem dX12_owedIn_46 : decode cX12_owedIn 46 = .ok (.goto (-41), 3) := by decide +kernel
theorem dX12_owedIn_49 : decode cX12_owedIn 49 = .ok (.iload_n 3, 1) := by decide +kernel
theorem dX12_owedIn_50 : decode cX12_owedIn 50 = .ok (.ireturn, 1) := by decide +kernel
theorem dX12_doors_0 : decode cX12_doors 0 = .ok (.aload_n 0, 1) := by decide +kernel
theorem dX12_doors_1 : decode cX12_doors 1 = .ok (.invokevirtual 399, 3) := by decide +kernel
theorem dX12_doors_4 : decode cX12_doors 4 = .ok (.aload_n 0, 1) := by decide +kernel
theorem dX12_doors_5 : decode cX12_doors 5 = .ok (.getfield 7, 3) := by decide +kernel
theorem dX12_doors_8 : decode cX12_doors 8 = .ok (.iconst 0, 1) := by decide +kernel
theorem dX12_doors_9 : decode cX12_doors 9 = .ok (.iaload, 1) := by decide +kernel
theorem dX12_doors_10 : decode cX12_doors 10 = .ok (.istore_n 2, 1) := by decide +kernel
theorem dX12_doors_11 : decode cX12_doors 11 = .ok (.iload_n 1, 1) := by decide +kernel
theorem dX12_doors_12 : decode cX12_doors 12 = .ok (.iconst (-1), 1) := by decide +kernel
theorem dX12_doors_13 : decode cX12_doors 13 = .ok (.iload_n 2, 1) := by decide +kernel
theorem dX12_doors_14 : decode cX12_doors 14 = .ok (.iconst 1, 1) := by decide +kernel
theorem dX12_doors_15 : decode cX12_doors 15 = .ok (.isub, 1) := by decide +kernel
theorem dX12_doors_16 : decode cX12_doors 16 = .ok (.invokestatic 107, 3) := by decide +kernel
theorem dX12_doors_19 : decode cX12_doors 19 = .ok (.ifCond .ne 5, 3) := by decide +kernel
theorem dX12_doors_22 : decode cX12_doors 22 = .ok (.iconst (-1), 1) := by decide +kernel
theorem dX12_doors_23 : decode cX12_doors 23 = .ok (.ireturn, 1) := by decide +kernel
theorem dX12_doors_24 : decode cX12_doors 24 = .ok (.aload_n 0, 1) := by decide +kernel
theorem dX12_doors_25 : decode cX12_doors 25 = .ok (.getfield 100, 3) := by decide +kernel
theorem dX12_doors_28 : decode cX12_doors 28 = .ok (.iconst 0, 1) := by decide +kernel
theorem dX12_doors_29 : decode cX12_doors 29 = .ok (.iconst 0, 1) := by decide +kernel
theorem dX12_doors_30 : decode cX12_doors 30 = .ok (.iastore, 1) := by decide +kernel
theorem dX12_doors_31 : decode cX12_doors 31 = .ok (.iconst 1, 1) := by decide +kernel
theorem dX12_doors_32 : decode cX12_doors 32 = .ok (.istore_n 3, 1) := by decide +kernel
theorem dX12_doors_33 : decode cX12_doors 33 = .ok (.iload_n 3, 1) := by decide +kernel
theorem dX12_doors_34 : decode cX12_doors 34 = .ok (.iconst 1, 1) := by decide +kernel
theorem dX12_doors_35 : decode cX12_doors 35 = .ok (.iload_n 2, 1) := by decide +kernel
theorem dX12_doors_36 : decode cX12_doors 36 = .ok (.ishl, 1) := by decide +kernel
theorem dX12_doors_37 : decode cX12_doors 37 = .ok (.if_icmp .ge 92, 3) := by decide +kernel
theorem dX12_doors_40 : decode cX12_doors 40 = .ok (.iconst (-1), 1) := by decide +kernel
theorem dX12_doors_41 : decode cX12_doors 41 = .ok (.istore 4, 2) := by decide +kernel
theorem dX12_doors_43 : decode cX12_doors 43 = .ok (.iconst 0, 1) := by decide +kernel
theorem dX12_doors_44 : decode cX12_doors 44 = .ok (.istore 5, 2) := by decide +kernel
theorem dX12_doors_46 : decode cX12_doors 46 = .ok (.iload 5, 2) := by decide +kernel
theorem dX12_doors_48 : decode cX12_doors 48 = .ok (.iload_n 2, 1) := by decide +kernel
theorem dX12_doors_49 : decode cX12_doors 49 = .ok (.if_icmp .ge 66, 3) := by decide +kernel
theorem dX12_doors_52 : decode cX12_doors 52 = .ok (.iload_n 3, 1) := by decide +kernel
theorem dX12_doors_53 : decode cX12_doors 53 = .ok (.iload 5, 2) := by decide +kernel
theorem dX12_doors_55 : decode cX12_doors 55 = .ok (.invokestatic 469, 3) := by decide +kernel
