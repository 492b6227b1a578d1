theorem dX7_clearable_31 : decode cX7_clearable 31 = .ok (.iload_n 2, 1) := by decide +kernel
theorem dX7_clearable_32 : decode cX7_clearable 32 = .ok (.invokevirtual 64, 3) := by decide +kernel
theorem dX7_clearable_35 : decode cX7_clearable 35 = .ok (.aload_n 0, 1) := by decide +kernel
theorem dX7_clearable_36 : decode cX7_clearable 36 = .ok (.iload_n 2, 1) := by decide +kernel
theorem dX7_clearable_37 : decode cX7_clearable 37 = .ok (.iload_n 3, 1) := by decide +kernel
theorem dX7_clearable_38 : decode cX7_clearable 38 = .ok (.invokevirtual 64, 3) := by decide +kernel
theorem dX7_clearable_41 : decode cX7_clearable 41 = .ok (.aload_n 0, 1) := by decide +kernel
theorem dX7_clearable_42 : decode cX7_clearable 42 = .ok (.iload_n 3, 1) := by decide +kernel
theorem dX7_clearable_43 : decode cX7_clearable 43 = .ok (.iload_n 1, 1) := by decide +kernel
theorem dX7_clearable_44 : decode cX7_clearable 44 = .ok (.invokevirtual 64, 3) := by decide +kernel
theorem dX7_clearable_47 : decode cX7_clearable 47 = .ok (.invokestatic 93, 3) := by decide +kernel
theorem dX7_clearable_50 : decode cX7_clearable 50 = .ok (.invokestatic 93, 3) := by decide +kernel
theorem dX7_clearable_53 : decode cX7_clearable 53 = .ok (.ireturn, 1) := by decide +kernel
theorem dX7_clears_0 : decode cX7_clears 0 = .ok (.aload_n 0, 1) := by decide +kernel
theorem dX7_clears_1 : decode cX7_clears 1 = .ok (.iload_n 1, 1) := by decide +kernel
theorem dX7_clears_2 : decode cX7_clears 2 = .ok (.iload_n 2, 1) := by decide +kernel
theorem dX7_clears_3 : decode cX7_clears 3 = .ok (.aload_n 0, 1) := by decide +kernel
theorem dX7_clears_4 : decode cX7_clears 4 = .ok (.iload_n 1, 1) := by decide +kernel
theorem dX7_clears_5 : decode cX7_clears 5 = .ok (.iload_n 2, 1) := by decide +kernel
theorem dX7_clears_6 : decode cX7_clears 6 = .ok (.invokevirtual 64, 3) := by decide +kernel
theorem dX7_clears_9 : decode cX7_clears 9 = .ok (.iload 4, 2) := by decide +kernel
theorem dX7_clears_11 : decode cX7_clears 11 = .ok (.isub, 1) := by decide +kernel
theorem dX7_clears_12 : decode cX7_clears 12 = .ok (.invokevirtual 86, 3) := by decide +kernel
theorem dX7_clears_15 : decode cX7_clears 15 = .ok (.aload_n 0, 1) := by decide +kernel
theorem dX7_clears_16 : decode cX7_clears 16 = .ok (.iload_n 2, 1) := by decide +kernel
theorem dX7_clears_17 : decode cX7_clears 17 = .ok (.iload_n 3, 1) := by decide +kernel
theorem dX7_clears_18 : decode cX7_clears 18 = .ok (.aload_n 0, 1) := by decide +kernel
theorem dX7_clears_19 : decode cX7_clears 19 = .ok (.iload_n 2, 1) := by decide +kernel
theorem dX7_clears_20 : decode cX7_clears 20 = .ok (.iload_n 3, 1) := by decide +kernel
theorem dX7_clears_21 : decode cX7_clears 21 = .ok (.invokevirtual 64, 3) := by decide +kernel
theorem dX7_clears_24 : decode cX7_clears 24 = .ok (.iload 4, 2) := by decide +kernel
theorem dX7_clears_26 : decode cX7_clears 26 = .ok (.isub, 1) := by decide +kernel
theorem dX7_clears_27 : decode cX7_clears 27 = .ok (.invokevirtual 86, 3) := by decide +kernel
theorem dX7_clears_30 : decode cX7_clears 30 = .ok (.aload_n 0, 1) := by decide +kernel
theorem dX7_clears_31 : decode cX7_clears 31 = .ok (.iload_n 3, 1) := by decide +kernel
theorem dX7_clears_32 : decode cX7_clears 32 = .ok (.iload_n 1, 1) := by decide +kernel
theorem dX7_clears_33 : decode cX7_clears 33 = .ok (.aload_n 0, 1) := by decide +kernel
theorem dX7_clears_34 : decode cX7_clears 34 = .ok (.iload_n 3, 1) := by decide +kernel
theorem dX7_clears_35 : decode cX7_clears 35 = .ok (.iload_n 1, 1) := by decide +kernel
theorem dX7_clears_36 : decode cX7_clears 36 = .ok (.invokevirtual 64, 3) := by decide +kernel
theorem dX7_clears_39 : decode cX7_clears 39 = .ok (.iload 4, 2) := by decide +kernel
theorem dX7_clears_41 : decode cX7_clears 41 = .ok (.isub, 1) := by decide +kernel
theorem dX7_clears_42 : decode cX7_clears 42 = .ok (.invokevirtual 86, 3) := by decide +kernel
theorem dX7_clears_45 : decode cX7_clears 45 = .ok (.return_, 1) := by decide +kernel
theorem dX7_hoursToCome_0 : decode cX7_hoursToCome 0 = .ok (.sipush 9999, 3) := by decide +kernel
theorem dX7_hoursToCome_3 : decode cX7_hoursToCome 3 = .ok (.aload_n 0, 1) := by decide +kernel
theorem dX7_hoursToCome_4 : decode cX7_hoursToCome 4 = .ok (.getfield 34, 3) := by decide +kernel
theorem dX7_hoursToCome_7 : decode cX7_hoursToCome 7 = .ok (.isub, 1) := by decide +kernel
theorem dX7_hoursToCome_8 : decode cX7_hoursToCome 8 = .ok (.bipush 10, 2) := by decide +kernel
theorem dX7_hoursToCome_10 : decode cX7_hoursToCome 10 = .ok (.imul, 1) := by decide +kernel
theorem dX7_hoursToCome_11 : decode cX7_hoursToCome 11 = .ok (.bipush 10, 2) := by decide +kernel
theorem dX7_hoursToCome_13 : decode cX7_hoursToCome 13 = .ok (.iadd, 1) := by decide +kernel
theorem dX7_hoursToCome_14 : decode cX7_hoursToCome 14 = .ok (.iconst 1, 1) := by decide +kernel
theorem dX7_hoursToCome_15 : decode cX7_hoursToCome 15 = .ok (.isub, 1) := by decide +kernel
theorem dX7_hoursToCome_16 : decode cX7_hoursToCome 16 = .ok (.aload_n 0, 1) := by decide +kernel
theorem dX7_hoursToCome_17 : decode cX7_hoursToCome 17 = .ok (.getfield 37, 3) := by decide +kernel
theorem dX7_hoursToCome_20 : decode cX7_hoursToCome 20 = .ok (.isub, 1) := by decide +kernel
theorem dX7_hoursToCome_21 : decode cX7_hoursToCome 21 = .ok (.ireturn, 1) := by decide +kernel
theorem dX7_sleeps_0 : decode cX7_sleeps 0 = .ok (.aload_n 0, 1) := by decide +kernel
theorem dX7_sleeps_1 : decode cX7_sleeps 1 = .ok (.iload_n 1, 1) := by decide +kernel
theorem dX7_sleeps_2 : decode cX7_sleeps 2 = .ok (.invokevirtual 49, 3) := by decide +kernel
theorem dX7_sleeps_5 : decode cX7_sleeps 5 = .ok (.ifCond .eq 28, 3) := by decide +kernel
theorem dX7_sleeps_8 : decode cX7_sleeps 8 = .ok (.aload_n 0, 1) := by decide +kernel
theorem dX7_sleeps_9 : decode cX7_sleeps 9 = .ok (.getfield 15, 3) := by decide +kernel
theorem dX7_sleeps_12 : decode cX7_sleeps 12 = .ok (.iload_n 1, 1) := by decide +kernel
theorem dX7_sleeps_13 : decode cX7_sleeps 13 = .ok (.iload_n 2, 1) := by decide +kernel
theorem dX7_sleeps_14 : decode cX7_sleeps 14 = .ok (.iastore, 1) := by decide +kernel
theorem dX7_sleeps_15 : decode cX7_sleeps 15 = .ok (.aload_n 0, 1) := by decide +kernel
theorem dX7_sleeps_16 : decode cX7_sleeps 16 = .ok (.getfield 22, 3) := by decide +kernel
theorem dX7_sleeps_19 : decode cX7_sleeps 19 = .ok (.iload_n 1, 1) := by decide +kernel
theorem dX7_sleeps_20 : decode cX7_sleeps 20 = .ok (.iconst 0, 1) := by decide +kernel
theorem dX7_sleeps_21 : decode cX7_sleeps 21 = .ok (.aload_n 0, 1) := by decide +kernel
theorem dX7_sleeps_22 : decode cX7_sleeps 22 = .ok (.getfield 22, 3) := by decide +kernel
theorem dX7_sleeps_25 : decode cX7_sleeps 25 = .ok (.iload_n 1, 1) := by decide +kernel
theorem dX7_sleeps_26 : decode cX7_sleeps 26 = .ok (.iaload, 1) := by decide +kernel
theorem dX7_sleeps_27 : decode cX7_sleeps 27 = .ok (.iconst 1, 1) := by decide +kernel
theorem dX7_sleeps_28 : decode cX7_sleeps 28 = .ok (.isub, 1) := by decide +kernel
theorem dX7_sleeps_29 : decode cX7_sleeps 29 = .ok (.invokestatic 96, 3) := by decide +kernel
theorem dX7_sleeps_32 : decode cX7_sleeps 32 = .ok (.iastore, 1) := by decide +kernel
theorem dX7_sleeps_33 : decode cX7_sleeps 33 = .ok (.return_, 1) := by decide +kernel
theorem dX7_ruins_0 : decode cX7_ruins 0 = .ok (.aload_n 0, 1) := by decide +kernel
theorem dX7_ruins_1 : decode cX7_ruins 1 = .ok (.iload_n 1, 1) := by decide +kernel
theorem dX7_ruins_2 : decode cX7_ruins 2 = .ok (.invokevirtual 49, 3) := by decide +kernel
theorem dX7_ruins_5 : decode cX7_ruins 5 = .ok (.ifCond .eq 43, 3) := by decide +kernel
theorem dX7_ruins_8 : decode cX7_ruins 8 = .ok (.aload_n 0, 1) := by decide +kernel
theorem dX7_ruins_9 : decode cX7_ruins 9 = .ok (.iload_n 1, 1) := by decide +kernel
theorem dX7_ruins_10 : decode cX7_ruins 10 = .ok (.aload_n 0, 1) := by decide +kernel
theorem dX7_ruins_11 : decode cX7_ruins 11 = .ok (.iload_n 1, 1) := by decide +kernel
theorem dX7_ruins_12 : decode cX7_ruins 12 = .ok (.invokevirtual 99, 3) := by decide +kernel
theorem dX7_ruins_15 : decode cX7_ruins 15 = .ok (.invokevirtual 102, 3) := by decide +kernel
theorem dX7_ruins_18 : decode cX7_ruins 18 = .ok (.aload_n 0, 1) := by decide +kernel
theorem dX7_ruins_19 : decode cX7_ruins 19 = .ok (.getfield 22, 3) := by decide +kernel
theorem dX7_ruins_22 : decode cX7_ruins 22 = .ok (.iload_n 1, 1) := by decide +kernel
theorem dX7_ruins_23 : decode cX7_ruins 23 = .ok (.iconst 3, 1) := by decide +kernel
theorem dX7_ruins_24 : decode cX7_ruins 24 = .ok (.iastore, 1) := by decide +kernel
theorem dX7_ruins_25 : decode cX7_ruins 25 = .ok (.iconst 0, 1) := by decide +kernel
theorem dX7_ruins_26 : decode cX7_ruins 26 = .ok (.istore_n 2, 1) := by decide +kernel
theorem dX7_ruins_27 : decode cX7_ruins 27 = .ok (.iload_n 2, 1) := by decide +kernel
theorem dX7_ruins_28 : decode cX7_ruins 28 = .ok (.aload_n 0, 1) := by decide +kernel
theorem dX7_ruins_29 : decode cX7_ruins 29 = .ok (.getfield 31, 3) := by decide +kernel
theorem dX7_ruins_32 : decode cX7_ruins 32 = .ok (.if_icmp .ge 16, 3) := by decide +kernel
theorem dX7_ruins_35 : decode cX7_ruins 35 = .ok (.aload_n 0, 1) := by decide +kernel
theorem dX7_ruins_36 : decode cX7_ruins 36 = .ok (.iload_n 1, 1) := by decide +kernel
theorem dX7_ruins_37 : decode cX7_ruins 37 = .ok (.iload_n 2, 1) := by decide +kernel
theorem dX7_ruins_38 : decode cX7_ruins 38 = .ok (.iconst 0, 1) := by decide +kernel
theorem dX7_ruins_39 : decode cX7_ruins 39 = .ok (.invokevirtual 86, 3) := by decide +kernel
theorem dX7_ruins_42 : decode cX7_ruins 42 = .ok (.iinc 2 1, 3) := by decide +kernel
theorem dX7_ruins_45 : decode cX7_ruins 45 = .ok (.goto (-18), 3) := by decide +kernel
theorem dX7_ruins_48 : decode cX7_ruins 48 = .ok (.return_, 1) := by decide +kernel
theorem dX7_write_0 : decode cX7_write 0 = .ok (.aload_n 0, 1) := by decide +kernel
theorem dX7_write_1 : decode cX7_write 1 = .ok (.getfield 40, 3) := by decide +kernel
theorem dX7_write_4 : decode cX7_write 4 = .ok (.bipush 30, 2) := by decide +kernel
theorem dX7_write_6 : decode cX7_write 6 = .ok (.if_icmp .lt 29, 3) := by decide +kernel
theorem dX7_write_9 : decode cX7_write 9 = .ok (.aload_n 0, 1) := by decide +kernel
theorem dX7_write_10 : decode cX7_write 10 = .ok (.getfield 28, 3) := by decide +kernel
theorem dX7_write_13 : decode cX7_write 13 = .ok (.iconst 3, 1) := by decide +kernel
theorem dX7_write_14 : decode cX7_write 14 = .ok (.aload_n 0, 1) := by decide +kernel
theorem dX7_write_15 : decode cX7_write 15 = .ok (.getfield 28, 3) := by decide +kernel
theorem dX7_write_18 : decode cX7_write 18 = .ok (.iconst 0, 1) := by decide +kernel
theorem dX7_write_19 : decode cX7_write 19 = .ok (.aload_n 0, 1) := by decide +kernel
theorem dX7_write_20 : decode cX7_write 20 = .ok (.getfield 28, 3) := by decide +kernel
theorem dX7_write_23 : decode cX7_write 23 = .ok (.arraylength, 1) := by decide +kernel
theorem dX7_write_24 : decode cX7_write 24 = .ok (.iconst 3, 1) := by decide +kernel
theorem dX7_write_25 : decode cX7_write 25 = .ok (.isub, 1) := by decide +kernel
theorem dX7_write_26 : decode cX7_write 26 = .ok (.invokestatic 43, 3) := by decide +kernel
theorem dX7_write_29 : decode cX7_write 29 = .ok (.aload_n 0, 1) := by decide +kernel
theorem dX7_write_30 : decode cX7_write 30 = .ok (.bipush 29, 2) := by decide +kernel
theorem dX7_write_32 : decode cX7_write 32 = .ok (.putfield 40, 3) := by decide +kernel
theorem dX7_write_35 : decode cX7_write 35 = .ok (.aload_n 0, 1) := by decide +kernel
theorem dX7_write_36 : decode cX7_write 36 = .ok (.getfield 40, 3) := by decide +kernel
theorem dX7_write_39 : decode cX7_write 39 = .ok (.iconst 3, 1) := by decide +kernel
theorem dX7_write_40 : decode cX7_write 40 = .ok (.imul, 1) := by decide +kernel
theorem dX7_write_41 : decode cX7_write 41 = .ok (.istore_n 3, 1) := by decide +kernel
theorem dX7_write_42 : decode cX7_write 42 = .ok (.iconst 0, 1) := by decide +kernel
theorem dX7_write_43 : decode cX7_write 43 = .ok (.iload_n 3, 1) := by decide +kernel
theorem dX7_write_44 : decode cX7_write 44 = .ok (.if_icmp .gt 52, 3) := by decide +kernel
theorem dX7_write_47 : decode cX7_write 47 = .ok (.iload_n 3, 1) := by decide +kernel
theorem dX7_write_48 : decode cX7_write 48 = .ok (.iconst 2, 1) := by decide +kernel
theorem dX7_write_49 : decode cX7_write 49 = .ok (.iadd, 1) := by decide +kernel
theorem dX7_write_50 : decode cX7_write 50 = .ok (.aload_n 0, 1) := by decide +kernel
theorem dX7_write_51 : decode cX7_write 51 = .ok (.getfield 28, 3) := by decide +kernel
theorem dX7_write_54 : decode cX7_write 54 = .ok (.arraylength, 1) := by decide +kernel
theorem dX7_write_55 : decode cX7_write 55 = .ok (.if_icmp .ge 41, 3) := by decide +kernel
theorem dX7_write_58 : decode cX7_write 58 = .ok (.aload_n 0, 1) := by decide +kernel
theorem dX7_write_59 : decode cX7_write 59 = .ok (.getfield 28, 3) := by decide +kernel
theorem dX7_write_62 : decode cX7_write 62 = .ok (.iload_n 3, 1) := by decide +kernel
theorem dX7_write_63 : decode cX7_write 63 = .ok (.aload_n 0, 1) := by decide +kernel
theorem dX7_write_64 : decode cX7_write 64 = .ok (.getfield 34, 3) := by decide +kernel
theorem dX7_write_67 : decode cX7_write 67 = .ok (.iastore, 1) := by decide +kernel
theorem dX7_write_68 : decode cX7_write 68 = .ok (.aload_n 0, 1) := by decide +kernel
theorem dX7_write_69 : decode cX7_write 69 = .ok (.getfield 28, 3) := by decide +kernel
theorem dX7_write_72 : decode cX7_write 72 = .ok (.iload_n 3, 1) := by decide +kernel
theorem dX7_write_73 : decode cX7_write 73 = .ok (.iconst 1, 1) := by decide +kernel
theorem dX7_write_74 : decode cX7_write 74 = .ok (.iadd, 1) := by decide +kernel
theorem dX7_write_75 : decode cX7_write 75 = .ok (.iload_n 1, 1) := by decide +kernel
theorem dX7_write_76 : decode cX7_write 76 = .ok (.iastore, 1) := by decide +kernel
theorem dX7_write_77 : decode cX7_write 77 = .ok (.aload_n 0, 1) := by decide +kernel
theorem dX7_write_78 : decode cX7_write 78 = .ok (.getfield 28, 3) := by decide +kernel
theorem dX7_write_81 : decode cX7_write 81 = .ok (.iload_n 3, 1) := by decide +kernel
theorem dX7_write_82 : decode cX7_write 82 = .ok (.iconst 2, 1) := by decide +kernel
theorem dX7_write_83 : decode cX7_write 83 = .ok (.iadd, 1) := by decide +kernel
theorem dX7_write_84 : decode cX7_write 84 = .ok (.iload_n 2, 1) := by decide +kernel
theorem dX7_write_85 : decode cX7_write 85 = .ok (.iastore, 1) := by decide +kernel
theorem dX7_write_86 : decode cX7_write 86 = .ok (.aload_n 0, 1) := by decide +kernel
theorem dX7_write_87 : decode cX7_write 87 = .ok (.dup, 1) := by decide +kernel
theorem dX7_write_88 : decode cX7_write 88 = .ok (.getfield 40, 3) := by decide +kernel
theorem dX7_write_91 : decode cX7_write 91 = .ok (.iconst 1, 1) := by decide +kernel
theorem dX7_write_92 : decode cX7_write 92 = .ok (.iadd, 1) := by decide +kernel
theorem dX7_write_93 : decode cX7_write 93 = .ok (.putfield 40, 3) := by decide +kernel
theorem dX7_write_96 : decode cX7_write 96 = .ok (.return_, 1) := by decide +kernel
theorem dX7_booked_0 : decode cX7_booked 0 = .ok (.iload_n 1, 1) := by decide +kernel
theorem dX7_booked_1 : decode cX7_booked 1 = .ok (.iconst 0, 1) := by decide +kernel
theorem dX7_booked_2 : decode cX7_booked 2 = .ok (.aload_n 0, 1) := by decide +kernel
theorem dX7_booked_3 : decode cX7_booked 3 = .ok (.getfield 40, 3) := by decide +kernel
theorem dX7_booked_6 : decode cX7_booked 6 = .ok (.bipush 30, 2) := by decide +kernel
theorem dX7_booked_8 : decode cX7_booked 8 = .ok (.invokestatic 93, 3) := by decide +kernel
theorem dX7_booked_11 : decode cX7_booked 11 = .ok (.iconst 1, 1) := by decide +kernel
theorem dX7_booked_12 : decode cX7_booked 12 = .ok (.isub, 1) := by decide +kernel
theorem dX7_booked_13 : decode cX7_booked 13 = .ok (.invokestatic 68, 3) := by decide +kernel
theorem dX7_booked_16 : decode cX7_booked 16 = .ok (.istore_n 3, 1) := by decide +kernel
theorem dX7_booked_17 : decode cX7_booked 17 = .ok (.iload_n 3, 1) := by decide +kernel
theorem dX7_booked_18 : decode cX7_booked 18 = .ok (.ifCond .eq 25, 3) := by decide +kernel
theorem dX7_booked_21 : decode cX7_booked 21 = .ok (.iload_n 2, 1) := by decide +kernel
theorem dX7_booked_22 : decode cX7_booked 22 = .ok (.iconst 0, 1) := by decide +kernel
theorem dX7_booked_23 : decode cX7_booked 23 = .ok (.iconst 2, 1) := by decide +kernel
theorem dX7_booked_24 : decode cX7_booked 24 = .ok (.invokestatic 68, 3) := by decide +kernel
theorem dX7_booked_27 : decode cX7_booked 27 = .ok (.ifCond .eq 16, 3) := by decide +kernel
theorem dX7_booked_30 : decode cX7_booked 30 = .ok (.aload_n 0, 1) := by decide +kernel
theorem dX7_booked_31 : decode cX7_booked 31 = .ok (.getfield 28, 3) := by decide +kernel
theorem dX7_booked_34 : decode cX7_booked 34 = .ok (.iload_n 1, 1) := by decide +kernel
theorem dX7_booked_35 : decode cX7_booked 35 = .ok (.iconst 3, 1) := by decide +kernel
theorem dX7_booked_36 : decode cX7_booked 36 = .ok (.imul, 1) := by decide +kernel
theorem dX7_booked_37 : decode cX7_booked 37 = .ok (.iload_n 2, 1) := by decide +kernel
theorem dX7_booked_38 : decode cX7_booked 38 = .ok (.iadd, 1) := by decide +kernel
theorem dX7_booked_39 : decode cX7_booked 39 = .ok (.iaload, 1) := by decide +kernel
theorem dX7_booked_40 : decode cX7_booked 40 = .ok (.goto 4, 3) := by decide +kernel
theorem dX7_booked_43 : decode cX7_booked 43 = .ok (.iconst (-1), 1) := by decide +kernel
theorem dX7_booked_44 : decode cX7_booked 44 = .ok (.ireturn, 1) := by decide +kernel
theorem dX7_draw_0 : decode cX7_draw 0 = .ok (.iload_n 1, 1) := by decide +kernel
theorem dX7_draw_1 : decode cX7_draw 1 = .ok (.ifCond .le 12, 3) := by decide +kernel
theorem dX7_draw_4 : decode cX7_draw 4 = .ok (.aload_n 0, 1) := by decide +kernel
theorem dX7_draw_5 : decode cX7_draw 5 = .ok (.getfield 9, 3) := by decide +kernel
theorem dX7_draw_8 : decode cX7_draw 8 = .ok (.iload_n 1, 1) := by decide +kernel
theorem dX7_draw_9 : decode cX7_draw 9 = .ok (.irem, 1) := by decide +kernel
theorem dX7_draw_10 : decode cX7_draw 10 = .ok (.goto 4, 3) := by decide +kernel
theorem dX7_draw_13 : decode cX7_draw 13 = .ok (.iconst 0, 1) := by decide +kernel
theorem dX7_draw_14 : decode cX7_draw 14 = .ok (.istore_n 2, 1) := by decide +kernel
theorem dX7_draw_15 : decode cX7_draw 15 = .ok (.aload_n 0, 1) := by decide +kernel
theorem dX7_draw_16 : decode cX7_draw 16 = .ok (.aload_n 0, 1) := by decide +kernel
theorem dX7_draw_17 : decode cX7_draw 17 = .ok (.getfield 9, 3) := by decide +kernel
theorem dX7_draw_20 : decode cX7_draw 20 = .ok (.sipush 299, 3) := by decide +kernel
theorem dX7_draw_23 : decode cX7_draw 23 = .ok (.imul, 1) := by decide +kernel
theorem dX7_draw_24 : decode cX7_draw 24 = .ok (.sipush 199, 3) := by decide +kernel
theorem dX7_draw_27 : decode cX7_draw 27 = .ok (.iadd, 1) := by decide +kernel
theorem dX7_draw_28 : decode cX7_draw 28 = .ok (.sipush 30323, 3) := by decide +kernel
theorem dX7_draw_31 : decode cX7_draw 31 = .ok (.irem, 1) := by decide +kernel
theorem dX7_draw_32 : decode cX7_draw 32 = .ok (.putfield 9, 3) := by decide +kernel
theorem dX7_draw_35 : decode cX7_draw 35 = .ok (.iload_n 2, 1) := by decide +kernel
theorem dX7_draw_36 : decode cX7_draw 36 = .ok (.ireturn, 1) := by decide +kernel
theorem dX8_init_0 : decode cX8_init 0 = .ok (.aload_n 0, 1) := by decide +kernel
theorem dX8_init_1 : decode cX8_init 1 = .ok (.invokespecial 3, 3) := by decide +kernel
theorem dX8_init_4 : decode cX8_init 4 = .ok (.aload_n 0, 1) := by decide +kernel
theorem dX8_init_5 : decode cX8_init 5 = .ok (.sipush 300, 3) := by decide +kernel
theorem dX8_init_8 : decode cX8_init 8 = .ok (.newarray .int, 2) := by decide +kernel
theorem dX8_init_10 : decode cX8_init 10 = .ok (.putfield 9, 3) := by decide +kernel
theorem dX8_init_13 : decode cX8_init 13 = .ok (.return_, 1) := by decide +kernel
theorem dX8_add_0 : decode cX8_add 0 = .ok (.bipush 24, 2) := by decide +kernel
theorem dX8_add_2 : decode cX8_add 2 = .ok (.istore_n 2, 1) := by decide +kernel
theorem dX8_add_3 : decode cX8_add 3 = .ok (.iload_n 2, 1) := by decide +kernel
theorem dX8_add_4 : decode cX8_add 4 = .ok (.ifCond .lt 49, 3) := by decide +kernel
theorem dX8_add_7 : decode cX8_add 7 = .ok (.aload_n 0, 1) := by decide +kernel
theorem dX8_add_8 : decode cX8_add 8 = .ok (.getfield 15, 3) := by decide +kernel
theorem dX8_add_11 : decode cX8_add 11 = .ok (.iconst 0, 1) := by decide +kernel
theorem dX8_add_12 : decode cX8_add 12 = .ok (.sipush 299, 3) := by decide +kernel
theorem dX8_add_15 : decode cX8_add 15 = .ok (.invokestatic 19, 3) := by decide +kernel
theorem dX8_add_18 : decode cX8_add 18 = .ok (.ifCond .eq 29, 3) := by decide +kernel
theorem dX8_add_21 : decode cX8_add 21 = .ok (.aload_n 0, 1) := by decide +kernel
theorem dX8_add_22 : decode cX8_add 22 = .ok (.getfield 9, 3) := by decide +kernel
theorem dX8_add_25 : decode cX8_add 25 = .ok (.aload_n 0, 1) := by decide +kernel
theorem dX8_add_26 : decode cX8_add 26 = .ok (.getfield 15, 3) := by decide +kernel
theorem dX8_add_29 : decode cX8_add 29 = .ok (.iload_n 1, 1) := by decide +kernel
theorem dX8_add_30 : decode cX8_add 30 = .ok (.iload_n 2, 1) := by decide +kernel
theorem dX8_add_31 : decode cX8_add 31 = .ok (.ishr, 1) := by decide +kernel
theorem dX8_add_32 : decode cX8_add 32 = .ok (.sipush 255, 3) := by decide +kernel
theorem dX8_add_35 : decode cX8_add 35 = .ok (.iand, 1) := by decide +kernel
theorem dX8_add_36 : decode cX8_add 36 = .ok (.iastore, 1) := by decide +kernel
theorem dX8_add_37 : decode cX8_add 37 = .ok (.aload_n 0, 1) := by decide +kernel
theorem dX8_add_38 : decode cX8_add 38 = .ok (.dup, 1) := by decide +kernel
theorem dX8_add_39 : decode cX8_add 39 = .ok (.getfield 15, 3) := by decide +kernel
theorem dX8_add_42 : decode cX8_add 42 = .ok (.iconst 1, 1) := by decide +kernel
theorem dX8_add_43 : decode cX8_add 43 = .ok (.iadd, 1) := by decide +kernel
theorem dX8_add_44 : decode cX8_add 44 = .ok (.putfield 15, 3) := by decide +kernel
theorem dX8_add_47 : decode cX8_add 47 = .ok (.iinc 2 (-8), 3) := by decide +kernel
theorem dX8_add_50 : decode cX8_add 50 = .ok (.goto (-47), 3) := by decide +kernel
theorem dX8_add_53 : decode cX8_add 53 = .ok (.return_, 1) := by decide +kernel
theorem dX8_rewind_0 : decode cX8_rewind 0 = .ok (.aload_n 0, 1) := by decide +kernel
theorem dX8_rewind_1 : decode cX8_rewind 1 = .ok (.iconst 0, 1) := by decide +kernel
theorem dX8_rewind_2 : decode cX8_rewind 2 = .ok (.putfield 23, 3) := by decide +kernel
theorem dX8_rewind_5 : decode cX8_rewind 5 = .ok (.aload_n 0, 1) := by decide +kernel
theorem dX8_rewind_6 : decode cX8_rewind 6 = .ok (.invokevirtual 26, 3) := by decide +kernel
theorem dX8_rewind_9 : decode cX8_rewind 9 = .ok (.return_, 1) := by decide +kernel
theorem dX8_next_0 : decode cX8_next 0 = .ok (.aload_n 0, 1) := by decide +kernel
theorem dX8_next_1 : decode cX8_next 1 = .ok (.getfield 23, 3) := by decide +kernel
theorem dX8_next_4 : decode cX8_next 4 = .ok (.aload_n 0, 1) := by decide +kernel
theorem dX8_next_5 : decode cX8_next 5 = .ok (.getfield 15, 3) := by decide +kernel
theorem dX8_next_8 : decode cX8_next 8 = .ok (.if_icmp .ge 42, 3) := by decide +kernel
theorem dX8_next_11 : decode cX8_next 11 = .ok (.aload_n 0, 1) := by decide +kernel
theorem dX8_next_12 : decode cX8_next 12 = .ok (.aload_n 0, 1) := by decide +kernel
theorem dX8_next_13 : decode cX8_next 13 = .ok (.getfield 23, 3) := by decide +kernel
theorem dX8_next_16 : decode cX8_next 16 = .ok (.invokevirtual 29, 3) := by decide +kernel
theorem dX8_next_19 : decode cX8_next 19 = .ok (.bipush 32, 2) := by decide +kernel
theorem dX8_next_21 : decode cX8_next 21 = .ok (.if_icmp .eq 16, 3) := by decide +kernel
theorem dX8_next_24 : decode cX8_next 24 = .ok (.aload_n 0, 1) := by decide +kernel
theorem dX8_next_25 : decode cX8_next 25 = .ok (.aload_n 0, 1) := by decide +kernel
theorem dX8_next_26 : decode cX8_next 26 = .ok (.getfield 23, 3) := by decide +kernel
theorem dX8_next_29 : decode cX8_next 29 = .ok (.invokevirtual 29, 3) := by decide +kernel
theorem dX8_next_32 : decode cX8_next 32 = .ok (.bipush 10, 2) := by decide +kernel
theorem dX8_next_34 : decode cX8_next 34 = .ok (.if_icmp .ne 16, 3) := by decide +kernel
theorem dX8_next_37 : decode cX8_next 37 = .ok (.aload_n 0, 1) := by decide +kernel
theorem dX8_next_38 : decode cX8_next 38 = .ok (.dup, 1) := by decide +kernel
theorem dX8_next_39 : decode cX8_next 39 = .ok (.getfield 23, 3) := by decide +kernel
theorem dX8_next_42 : decode cX8_next 42 = .ok (.iconst 1, 1) := by decide +kernel
theorem dX8_next_43 : decode cX8_next 43 = .ok (.iadd, 1) := by decide +kernel
theorem dX8_next_44 : decode cX8_next 44 = .ok (.putfield 23, 3) := by decide +kernel
theorem dX8_next_47 : decode cX8_next 47 = .ok (.goto (-47), 3) := by decide +kernel
theorem dX8_next_50 : decode cX8_next 50 = .ok (.aload_n 0, 1) := by decide +kernel
theorem dX8_next_51 : decode cX8_next 51 = .ok (.aload_n 0, 1) := by decide +kernel
theorem dX8_next_52 : decode cX8_next 52 = .ok (.getfield 23, 3) := by decide +kernel
theorem dX8_next_55 : decode cX8_next 55 = .ok (.putfield 33, 3) := by decide +kernel
theorem dX8_next_58 : decode cX8_next 58 = .ok (.aload_n 0, 1) := by decide +kernel
theorem dX8_next_59 : decode cX8_next 59 = .ok (.iconst 0, 1) := by decide +kernel
theorem dX8_next_60 : decode cX8_next 60 = .ok (.putfield 36, 3) := by decide +kernel
theorem dX8_next_63 : decode cX8_next 63 = .ok (.aload_n 0, 1) := by decide +kernel
theorem dX8_next_64 : decode cX8_next 64 = .ok (.aload_n 0, 1) := by decide +kernel
theorem dX8_next_65 : decode cX8_next 65 = .ok (.getfield 23, 3) := by decide +kernel
theorem dX8_next_68 : decode cX8_next 68 = .ok (.invokevirtual 29, 3) := by decide +kernel
theorem dX8_next_71 : decode cX8_next 71 = .ok (.istore_n 1, 1) := by decide +kernel
theorem dX8_next_72 : decode cX8_next 72 = .ok (.aload_n 0, 1) := by decide +kernel
theorem dX8_next_73 : decode cX8_next 73 = .ok (.getfield 23, 3) := by decide +kernel
theorem dX8_next_76 : decode cX8_next 76 = .ok (.aload_n 0, 1) := by decide +kernel
theorem dX8_next_77 : decode cX8_next 77 = .ok (.getfield 15, 3) := by decide +kernel
theorem dX8_next_80 : decode cX8_next 80 = .ok (.if_icmp .lt 11, 3) := by decide +kernel
theorem dX8_next_83 : decode cX8_next 83 = .ok (.aload_n 0, 1) := by decide +kernel
theorem dX8_next_84 : decode cX8_next 84 = .ok (.iconst 1, 1) := by decide +kernel
theorem dX8_next_85 : decode cX8_next 85 = .ok (.putfield 39, 3) := by decide +kernel
theorem dX8_next_88 : decode cX8_next 88 = .ok (.goto 36, 3) := by decide +kernel
theorem dX8_next_91 : decode cX8_next 91 = .ok (.iload_n 1, 1) := by decide +kernel
theorem dX8_next_92 : decode cX8_next 92 = .ok (.invokestatic 42, 3) := by decide +kernel
theorem dX8_next_95 : decode cX8_next 95 = .ok (.ifCond .eq 10, 3) := by decide +kernel
theorem dX8_next_98 : decode cX8_next 98 = .ok (.aload_n 0, 1) := by decide +kernel
theorem dX8_next_99 : decode cX8_next 99 = .ok (.invokevirtual 46, 3) := by decide +kernel
theorem dX8_next_102 : decode cX8_next 102 = .ok (.goto 22, 3) := by decide +kernel
theorem dX8_next_105 : decode cX8_next 105 = .ok (.iload_n 1, 1) := by decide +kernel
theorem dX8_next_106 : decode cX8_next 106 = .ok (.invokestatic 49, 3) := by decide +kernel
theorem dX8_next_109 : decode cX8_next 109 = .ok (.ifCond .eq 10, 3) := by decide +kernel
theorem dX8_next_112 : decode cX8_next 112 = .ok (.aload_n 0, 1) := by decide +kernel
theorem dX8_next_113 : decode cX8_next 113 = .ok (.invokevirtual 52, 3) := by decide +kernel
theorem dX8_next_116 : decode cX8_next 116 = .ok (.goto 8, 3) := by decide +kernel
theorem dX8_next_119 : decode cX8_next 119 = .ok (.aload_n 0, 1) := by decide +kernel
theorem dX8_next_120 : decode cX8_next 120 = .ok (.iload_n 1, 1) := by decide +kernel
theorem dX8_next_121 : decode cX8_next 121 = .ok (.invokevirtual 55, 3) := by decide +kernel
theorem dX8_next_124 : decode cX8_next 124 = .ok (.return_, 1) := by decide +kernel
theorem dX8_takeWord_0 : decode cX8_takeWord 0 = .ok (.aload_n 0, 1) := by decide +kernel
theorem dX8_takeWord_1 : decode cX8_takeWord 1 = .ok (.getfield 23, 3) := by decide +kernel
theorem dX8_takeWord_4 : decode cX8_takeWord 4 = .ok (.aload_n 0, 1) := by decide +kernel
theorem dX8_takeWord_5 : decode cX8_takeWord 5 = .ok (.getfield 15, 3) := by decide +kernel
theorem dX8_takeWord_8 : decode cX8_takeWord 8 = .ok (.if_icmp .ge 30, 3) := by decide +kernel
theorem dX8_takeWord_11 : decode cX8_takeWord 11 = .ok (.aload_n 0, 1) := by decide +kernel
theorem dX8_takeWord_12 : decode cX8_takeWord 12 = .ok (.aload_n 0, 1) := by decide +kernel
theorem dX8_takeWord_13 : decode cX8_takeWord 13 = .ok (.getfield 23, 3) := by decide +kernel
theorem dX8_takeWord_16 : decode cX8_takeWord 16 = .ok (.invokevirtual 29, 3) := by decide +kernel
theorem dX8_takeWord_19 : decode cX8_takeWord 19 = .ok (.invokestatic 42, 3) := by decide +kernel
theorem dX8_takeWord_22 : decode cX8_takeWord 22 = .ok (.ifCond .eq 16, 3) := by decide +kernel
theorem dX8_takeWord_25 : decode cX8_takeWord 25 = .ok (.aload_n 0, 1) := by decide +kernel
theorem dX8_takeWord_26 : decode cX8_takeWord 26 = .ok (.dup, 1) := by decide +kernel
theorem dX8_takeWord_27 : decode cX8_takeWord 27 = .ok (.getfield 23, 3) := by decide +kernel
theorem dX8_takeWord_30 : decode cX8_takeWord 30 = .ok (.iconst 1, 1) := by decide +kernel
theorem dX8_takeWord_31 : decode cX8_takeWord 31 = .ok (.iadd, 1) := by decide +kernel
theorem dX8_takeWord_32 : decode cX8_takeWord 32 = .ok (.putfield 23, 3) := by decide +kernel
theorem dX8_takeWord_35 : decode cX8_takeWord 35 = .ok (.goto (-35), 3) := by decide +kernel
theorem dX8_takeWord_38 : decode cX8_takeWord 38 = .ok (.aload_n 0, 1) := by decide +kernel
theorem dX8_takeWord_39 : decode cX8_takeWord 39 = .ok (.iconst 0, 1) := by decide +kernel
theorem dX8_takeWord_40 : decode cX8_takeWord 40 = .ok (.putfield 39, 3) := by decide +kernel
theorem dX8_takeWord_43 : decode cX8_takeWord 43 = .ok (.sipush 128, 3) := by decide +kernel
theorem dX8_takeWord_46 : decode cX8_takeWord 46 = .ok (.istore_n 1, 1) := by decide +kernel
theorem dX8_takeWord_47 : decode cX8_takeWord 47 = .ok (.aload_n 0, 1) := by decide +kernel
theorem dX8_takeWord_48 : decode cX8_takeWord 48 = .ok (.getfield 33, 3) := by decide +kernel
theorem dX8_takeWord_51 : decode cX8_takeWord 51 = .ok (.istore_n 2, 1) := by decide +kernel
theorem dX8_takeWord_52 : decode cX8_takeWord 52 = .ok (.iconst 0, 1) := by decide +kernel
theorem dX8_takeWord_53 : decode cX8_takeWord 53 = .ok (.istore_n 3, 1) := by decide +kernel
theorem dX8_takeWord_54 : decode cX8_takeWord 54 = .ok (.iload_n 3, 1) := by decide +kernel
theorem dX8_takeWord_55 : decode cX8_takeWord 55 = .ok (.ldc 59, 2) := by decide +kernel
theorem dX8_takeWord_57 : decode cX8_takeWord 57 = .ok (.invokevirtual 61, 3) := by decide +kernel
theorem dX8_takeWord_60 : decode cX8_takeWord 60 = .ok (.if_icmp .ge 86, 3) := by decide +kernel
theorem dX8_takeWord_63 : decode cX8_takeWord 63 = .ok (.aload_n 0, 1) := by decide +kernel
theorem dX8_takeWord_64 : decode cX8_takeWord 64 = .ok (.getfield 39, 3) := by decide +kernel
theorem dX8_takeWord_67 : decode cX8_takeWord 67 = .ok (.ifCond .ne 79, 3) := by decide +kernel
theorem dX8_takeWord_70 : decode cX8_takeWord 70 = .ok (.ldc 59, 2) := by decide +kernel
theorem dX8_takeWord_72 : decode cX8_takeWord 72 = .ok (.iload_n 3, 1) := by decide +kernel
theorem dX8_takeWord_73 : decode cX8_takeWord 73 = .ok (.invokevirtual 66, 3) := by decide +kernel
theorem dX8_takeWord_76 : decode cX8_takeWord 76 = .ok (.istore 4, 2) := by decide +kernel
theorem dX8_takeWord_78 : decode cX8_takeWord 78 = .ok (.iload 4, 2) := by decide +kernel
theorem dX8_takeWord_80 : decode cX8_takeWord 80 = .ok (.bipush 32, 2) := by decide +kernel
theorem dX8_takeWord_82 : decode cX8_takeWord 82 = .ok (.if_icmp .eq 34, 3) := by decide +kernel
theorem dX8_takeWord_85 : decode cX8_takeWord 85 = .ok (.iload_n 2, 1) := by decide +kernel
theorem dX8_takeWord_86 : decode cX8_takeWord 86 = .ok (.aload_n 0, 1) := by decide +kernel
theorem dX8_takeWord_87 : decode cX8_takeWord 87 = .ok (.getfield 23, 3) := by decide +kernel
theorem dX8_takeWord_90 : decode cX8_takeWord 90 = .ok (.if_icmp .ge 19, 3) := by decide +kernel
theorem dX8_takeWord_93 : decode cX8_takeWord 93 = .ok (.aload_n 0, 1) := by decide +kernel
theorem dX8_takeWord_94 : decode cX8_takeWord 94 = .ok (.iload_n 2, 1) := by decide +kernel
theorem dX8_takeWord_95 : decode cX8_takeWord 95 = .ok (.invokevirtual 29, 3) := by decide +kernel
theorem dX8_takeWord_98 : decode cX8_takeWord 98 = .ok (.iload 4, 2) := by decide +kernel
theorem dX8_takeWord_100 : decode cX8_takeWord 100 = .ok (.if_icmp .ne 9, 3) := by decide +kernel
theorem dX8_takeWord_103 : decode cX8_takeWord 103 = .ok (.iload_n 2, 1) := by decide +kernel
theorem dX8_takeWord_104 : decode cX8_takeWord 104 = .ok (.iconst 1, 1) := by decide +kernel
theorem dX8_takeWord_105 : decode cX8_takeWord 105 = .ok (.iadd, 1) := by decide +kernel
theorem dX8_takeWord_106 : decode cX8_takeWord 106 = .ok (.goto 6, 3) := by decide +kernel
theorem dX8_takeWord_109 : decode cX8_takeWord 109 = .ok (.sipush 301, 3) := by decide +kernel
theorem dX8_takeWord_112 : decode cX8_takeWord 112 = .ok (.istore_n 2, 1) := by decide +kernel
theorem dX8_takeWord_113 : decode cX8_takeWord 113 = .ok (.goto 27, 3) := by decide +kernel
theorem dX8_takeWord_116 : decode cX8_takeWord 116 = .ok (.iload_n 2, 1) := by decide +kernel
theorem dX8_takeWord_117 : decode cX8_takeWord 117 = .ok (.aload_n 0, 1) := by decide +kernel
theorem dX8_takeWord_118 : decode cX8_takeWord 118 = .ok (.getfield 23, 3) := by decide +kernel
theorem dX8_takeWord_121 : decode cX8_takeWord 121 = .ok (.if_icmp .ne 11, 3) := by decide +kernel
theorem dX8_takeWord_124 : decode cX8_takeWord 124 = .ok (.aload_n 0, 1) := by decide +kernel
theorem dX8_takeWord_125 : decode cX8_takeWord 125 = .ok (.iload_n 1, 1) := by decide +kernel
theorem dX8_takeWord_126 : decode cX8_takeWord 126 = .ok (.putfield 39, 3) := by decide +kernel
theorem dX8_takeWord_129 : decode cX8_takeWord 129 = .ok (.goto 11, 3) := by decide +kernel
theorem dX8_takeWord_132 : decode cX8_takeWord 132 = .ok (.iinc 1 1, 3) := by decide +kernel
theorem dX8_takeWord_135 : decode cX8_takeWord 135 = .ok (.aload_n 0, 1) := by decide +kernel
theorem dX8_takeWord_136 : decode cX8_takeWord 136 = .ok (.getfield 33, 3) := by decide +kernel
theorem dX8_takeWord_139 : decode cX8_takeWord 139 = .ok (.istore_n 2, 1) := by decide +kernel
theorem dX8_takeWord_140 : decode cX8_takeWord 140 = .ok (.iinc 3 1, 3) := by decide +kernel
theorem dX8_takeWord_143 : decode cX8_takeWord 143 = .ok (.goto (-89), 3) := by decide +kernel
theorem dX8_takeWord_146 : decode cX8_takeWord 146 = .ok (.return_, 1) := by decide +kernel
theorem dX8_takeNumber_0 : decode cX8_takeNumber 0 = .ok (.aload_n 0, 1) := by decide +kernel
theorem dX8_takeNumber_1 : decode cX8_takeNumber 1 = .ok (.iconst 2, 1) := by decide +kernel
theorem dX8_takeNumber_2 : decode cX8_takeNumber 2 = .ok (.putfield 39, 3) := by decide +kernel
theorem dX8_takeNumber_5 : decode cX8_takeNumber 5 = .ok (.aload_n 0, 1) := by decide +kernel
theorem dX8_takeNumber_6 : decode cX8_takeNumber 6 = .ok (.getfield 23, 3) := by decide +kernel
theorem dX8_takeNumber_9 : decode cX8_takeNumber 9 = .ok (.aload_n 0, 1) := by decide +kernel
theorem dX8_takeNumber_10 : decode cX8_takeNumber 10 = .ok (.getfield 15, 3) := by decide +kernel
theorem dX8_takeNumber_13 : decode cX8_takeNumber 13 = .ok (.if_icmp .ge 59, 3) := by decide +kernel
theorem dX8_takeNumber_16 : decode cX8_takeNumber 16 = .ok (.aload_n 0, 1) := by decide +kernel
theorem dX8_takeNumber_17 : decode cX8_takeNumber 17 = .ok (.aload_n 0, 1) := by decide +kernel
theorem dX8_takeNumber_18 : decode cX8_takeNumber 18 = .ok (.getfield 23, 3) := by decide +kernel
theorem dX8_takeNumber_21 : decode cX8_takeNumber 21 = .ok (.invokevirtual 29, 3) := by decide +kernel
theorem dX8_takeNumber_24 : decode cX8_takeNumber 24 = .ok (.invokestatic 49, 3) := by decide +kernel
theorem dX8_takeNumber_27 : decode cX8_takeNumber 27 = .ok (.ifCond .eq 45, 3) := by decide +kernel
theorem dX8_takeNumber_30 : decode cX8_takeNumber 30 = .ok (.aload_n 0, 1) := by decide +kernel
theorem dX8_takeNumber_31 : decode cX8_takeNumber 31 = .ok (.aload_n 0, 1) := by decide +kernel
theorem dX8_takeNumber_32 : decode cX8_takeNumber 32 = .ok (.getfield 36, 3) := by decide +kernel
theorem dX8_takeNumber_35 : decode cX8_takeNumber 35 = .ok (.bipush 10, 2) := by decide +kernel
theorem dX8_takeNumber_37 : decode cX8_takeNumber 37 = .ok (.imul, 1) := by decide +kernel
theorem dX8_takeNumber_38 : decode cX8_takeNumber 38 = .ok (.aload_n 0, 1) := by decide +kernel
theorem dX8_takeNumber_39 : decode cX8_takeNumber 39 = .ok (.aload_n 0, 1) := by decide +kernel
theorem dX8_takeNumber_40 : decode cX8_takeNumber 40 = .ok (.getfield 23, 3) := by decide +kernel
theorem dX8_takeNumber_43 : decode cX8_takeNumber 43 = .ok (.invokevirtual 29, 3) := by decide +kernel
theorem dX8_takeNumber_46 : decode cX8_takeNumber 46 = .ok (.iadd, 1) := by decide +kernel
theorem dX8_takeNumber_47 : decode cX8_takeNumber 47 = .ok (.bipush 48, 2) := by decide +kernel
theorem dX8_takeNumber_49 : decode cX8_takeNumber 49 = .ok (.isub, 1) := by decide +kernel
theorem dX8_takeNumber_50 : decode cX8_takeNumber 50 = .ok (.sipush 10000, 3) := by decide +kernel
theorem dX8_takeNumber_53 : decode cX8_takeNumber 53 = .ok (.invokestatic 70, 3) := by decide +kernel
theorem dX8_takeNumber_56 : decode cX8_takeNumber 56 = .ok (.putfield 36, 3) := by decide +kernel
theorem dX8_takeNumber_59 : decode cX8_takeNumber 59 = .ok (.aload_n 0, 1) := by decide +kernel
theorem dX8_takeNumber_60 : decode cX8_takeNumber 60 = .ok (.dup, 1) := by decide +kernel
theorem dX8_takeNumber_61 : decode cX8_takeNumber 61 = .ok (.getfield 23, 3) := by decide +kernel
theorem dX8_takeNumber_64 : decode cX8_takeNumber 64 = .ok (.iconst 1, 1) := by decide +kernel
theorem dX8_takeNumber_65 : decode cX8_takeNumber 65 = .ok (.iadd, 1) := by decide +kernel
theorem dX8_takeNumber_66 : decode cX8_takeNumber 66 = .ok (.putfield 23, 3) := by decide +kernel
theorem dX8_takeNumber_69 : decode cX8_takeNumber 69 = .ok (.goto (-64), 3) := by decide +kernel
theorem dX8_takeNumber_72 : decode cX8_takeNumber 72 = .ok (.return_, 1) := by decide +kernel
theorem dX8_takeSign_0 : decode cX8_takeSign 0 = .ok (.aload_n 0, 1) := by decide +kernel
theorem dX8_takeSign_1 : decode cX8_takeSign 1 = .ok (.dup, 1) := by decide +kernel
theorem dX8_takeSign_2 : decode cX8_takeSign 2 = .ok (.getfield 23, 3) := by decide +kernel
theorem dX8_takeSign_5 : decode cX8_takeSign 5 = .ok (.iconst 1, 1) := by decide +kernel
theorem dX8_takeSign_6 : decode cX8_takeSign 6 = .ok (.iadd, 1) := by decide +kernel
theorem dX8_takeSign_7 : decode cX8_takeSign 7 = .ok (.putfield 23, 3) := by decide +kernel
theorem dX8_takeSign_10 : decode cX8_takeSign 10 = .ok (.aload_n 0, 1) := by decide +kernel
theorem dX8_takeSign_11 : decode cX8_takeSign 11 = .ok (.aload_n 0, 1) := by decide +kernel
theorem dX8_takeSign_12 : decode cX8_takeSign 12 = .ok (.getfield 23, 3) := by decide +kernel
theorem dX8_takeSign_15 : decode cX8_takeSign 15 = .ok (.invokevirtual 29, 3) := by decide +kernel
theorem dX8_takeSign_18 : decode cX8_takeSign 18 = .ok (.bipush 61, 2) := by decide +kernel
theorem dX8_takeSign_20 : decode cX8_takeSign 20 = .ok (.if_icmp .ne 7, 3) := by decide +kernel
theorem dX8_takeSign_23 : decode cX8_takeSign 23 = .ok (.iconst 1, 1) := by decide +kernel
theorem dX8_takeSign_24 : decode cX8_takeSign 24 = .ok (.goto 4, 3) := by decide +kernel
theorem dX8_takeSign_27 : decode cX8_takeSign 27 = .ok (.iconst 0, 1) := by decide +kernel
theorem dX8_takeSign_28 : decode cX8_takeSign 28 = .ok (.istore_n 2, 1) := by decide +kernel
theorem dX8_takeSign_29 : decode cX8_takeSign 29 = .ok (.iload_n 1, 1) := by decide +kernel
theorem dX8_takeSign_30 : decode cX8_takeSign 30 = .ok (.bipush 60, 2) := by decide +kernel
theorem dX8_takeSign_32 : decode cX8_takeSign 32 = .ok (.if_icmp .ne 25, 3) := by decide +kernel
theorem dX8_takeSign_35 : decode cX8_takeSign 35 = .ok (.iload_n 2, 1) := by decide +kernel
theorem dX8_takeSign_36 : decode cX8_takeSign 36 = .ok (.ifCond .eq 21, 3) := by decide +kernel
theorem dX8_takeSign_39 : decode cX8_takeSign 39 = .ok (.aload_n 0, 1) := by decide +kernel
theorem dX8_takeSign_40 : decode cX8_takeSign 40 = .ok (.iconst 4, 1) := by decide +kernel
theorem dX8_takeSign_41 : decode cX8_takeSign 41 = .ok (.putfield 39, 3) := by decide +kernel
theorem dX8_takeSign_44 : decode cX8_takeSign 44 = .ok (.aload_n 0, 1) := by decide +kernel
theorem dX8_takeSign_45 : decode cX8_takeSign 45 = .ok (.dup, 1) := by decide +kernel
theorem dX8_takeSign_46 : decode cX8_takeSign 46 = .ok (.getfield 23, 3) := by decide +kernel
theorem dX8_takeSign_49 : decode cX8_takeSign 49 = .ok (.iconst 1, 1) := by decide +kernel
theorem dX8_takeSign_50 : decode cX8_takeSign 50 = .ok (.iadd, 1) := by decide +kernel
theorem dX8_takeSign_51 : decode cX8_takeSign 51 = .ok (.putfield 23, 3) := by decide +kernel
theorem dX8_takeSign_54 : decode cX8_takeSign 54 = .ok (.goto 50, 3) := by decide +kernel
theorem dX8_takeSign_57 : decode cX8_takeSign 57 = .ok (.iload_n 1, 1) := by decide +kernel
theorem dX8_takeSign_58 : decode cX8_takeSign 58 = .ok (.bipush 62, 2) := by decide +kernel
theorem dX8_takeSign_60 : decode cX8_takeSign 60 = .ok (.if_icmp .ne 25, 3) := by decide +kernel
theorem dX8_takeSign_63 : decode cX8_takeSign 63 = .ok (.iload_n 2, 1) := by decide +kernel
theorem dX8_takeSign_64 : decode cX8_takeSign 64 = .ok (.ifCond .eq 21, 3) := by decide +kernel
theorem dX8_takeSign_67 : decode cX8_takeSign 67 = .ok (.aload_n 0, 1) := by decide +kernel
theorem dX8_takeSign_68 : decode cX8_takeSign 68 = .ok (.iconst 5, 1) := by decide +kernel
theorem dX8_takeSign_69 : decode cX8_takeSign 69 = .ok (.putfield 39, 3) := by decide +kernel
theorem dX8_takeSign_72 : decode cX8_takeSign 72 = .ok (.aload_n 0, 1) := by decide +kernel
theorem dX8_takeSign_73 : decode cX8_takeSign 73 = .ok (.dup, 1) := by decide +kernel
theorem dX8_takeSign_74 : decode cX8_takeSign 74 = .ok (.getfield 23, 3) := by decide +kernel
theorem dX8_takeSign_77 : decode cX8_takeSign 77 = .ok (.iconst 1, 1) := by decide +kernel
theorem dX8_takeSign_78 : decode cX8_takeSign 78 = .ok (.iadd, 1) := by decide +kernel
theorem dX8_takeSign_79 : decode cX8_takeSign 79 = .ok (.putfield 23, 3) := by decide +kernel
theorem dX8_takeSign_82 : decode cX8_takeSign 82 = .ok (.goto 22, 3) := by decide +kernel
theorem dX8_takeSign_85 : decode cX8_takeSign 85 = .ok (.aload_n 0, 1) := by decide +kernel
theorem dX8_takeSign_86 : decode cX8_takeSign 86 = .ok (.ldc 76, 2) := by decide +kernel
theorem dX8_takeSign_88 : decode cX8_takeSign 88 = .ok (.iload_n 1, 1) := by decide +kernel
theorem dX8_takeSign_89 : decode cX8_takeSign 89 = .ok (.i2c, 1) := by decide +kernel
theorem dX8_takeSign_90 : decode cX8_takeSign 90 = .ok (.invokevirtual 78, 3) := by decide +kernel
theorem dX8_takeSign_93 : decode cX8_takeSign 93 = .ok (.ifCond .lt 7, 3) := by decide +kernel
theorem dX8_takeSign_96 : decode cX8_takeSign 96 = .ok (.iload_n 1, 1) := by decide +kernel
theorem dX8_takeSign_97 : decode cX8_takeSign 97 = .ok (.goto 4, 3) := by decide +kernel
theorem dX8_takeSign_100 : decode cX8_takeSign 100 = .ok (.iconst 0, 1) := by decide +kernel
theorem dX8_takeSign_101 : decode cX8_takeSign 101 = .ok (.putfield 39, 3) := by decide +kernel
theorem dX8_takeSign_104 : decode cX8_takeSign 104 = .ok (.return_, 1) := by decide +kernel
theorem dX8_byteAt_0 : decode cX8_byteAt 0 = .ok (.iconst 0, 1) := by decide +kernel
theorem dX8_byteAt_1 : decode cX8_byteAt 1 = .ok (.iload_n 1, 1) := by decide +kernel
theorem dX8_byteAt_2 : decode cX8_byteAt 2 = .ok (.if_icmp .gt 27, 3) := by decide +kernel
theorem dX8_byteAt_5 : decode cX8_byteAt 5 = .ok (.iload_n 1, 1) := by decide +kernel
theorem dX8_byteAt_6 : decode cX8_byteAt 6 = .ok (.aload_n 0, 1) := by decide +kernel
theorem dX8_byteAt_7 : decode cX8_byteAt 7 = .ok (.getfield 15, 3) := by decide +kernel
theorem dX8_byteAt_10 : decode cX8_byteAt 10 = .ok (.if_icmp .ge 19, 3) := by decide +kernel
theorem dX8_byteAt_13 : decode cX8_byteAt 13 = .ok (.iload_n 1, 1) := by decide +kernel
theorem dX8_byteAt_14 : decode cX8_byteAt 14 = .ok (.sipush 300, 3) := by decide +kernel
theorem dX8_byteAt_17 : decode cX8_byteAt 17 = .ok (.if_icmp .ge 12, 3) := by decide +kernel
theorem dX8_byteAt_20 : decode cX8_byteAt 20 = .ok (.aload_n 0, 1) := by decide +kernel
theorem dX8_byteAt_21 : decode cX8_byteAt 21 = .ok (.getfield 9, 3) := by decide +kernel
theorem dX8_byteAt_24 : decode cX8_byteAt 24 = .ok (.iload_n 1, 1) := by decide +kernel
theorem dX8_byteAt_25 : decode cX8_byteAt 25 = .ok (.iaload, 1) := by decide +kernel
theorem dX8_byteAt_26 : decode cX8_byteAt 26 = .ok (.goto 4, 3) := by decide +kernel
theorem dX8_byteAt_29 : decode cX8_byteAt 29 = .ok (.iconst 0, 1) := by decide +kernel
theorem dX8_byteAt_30 : decode cX8_byteAt 30 = .ok (.ireturn, 1) := by decide +kernel
theorem dX8_isLetter_0 : decode cX8_isLetter 0 = .ok (.bipush 97, 2) := by decide +kernel
theorem dX8_isLetter_2 : decode cX8_isLetter 2 = .ok (.iload_n 0, 1) := by decide +kernel
theorem dX8_isLetter_3 : decode cX8_isLetter 3 = .ok (.if_icmp .gt 9, 3) := by decide +kernel
theorem dX8_isLetter_6 : decode cX8_isLetter 6 = .ok (.iload_n 0, 1) := by decide +kernel
theorem dX8_isLetter_7 : decode cX8_isLetter 7 = .ok (.bipush 122, 2) := by decide +kernel
theorem dX8_isLetter_9 : decode cX8_isLetter 9 = .ok (.if_icmp .le 15, 3) := by decide +kernel
theorem dX8_isLetter_12 : decode cX8_isLetter 12 = .ok (.bipush 65, 2) := by decide +kernel
theorem dX8_isLetter_14 : decode cX8_isLetter 14 = .ok (.iload_n 0, 1) := by decide +kernel
theorem dX8_isLetter_15 : decode cX8_isLetter 15 = .ok (.if_icmp .gt 13, 3) := by decide +kernel
theorem dX8_isLetter_18 : decode cX8_isLetter 18 = .ok (.iload_n 0, 1) := by decide +kernel
theorem dX8_isLetter_19 : decode cX8_isLetter 19 = .ok (.bipush 90, 2) := by decide +kernel
theorem dX8_isLetter_21 : decode cX8_isLetter 21 = .ok (.if_icmp .gt 7, 3) := by decide +kernel
theorem dX8_isLetter_24 : decode cX8_isLetter 24 = .ok (.iconst 1, 1) := by decide +kernel
theorem dX8_isLetter_25 : decode cX8_isLetter 25 = .ok (.goto 4, 3) := by decide +kernel
theorem dX8_isLetter_28 : decode cX8_isLetter 28 = .ok (.iconst 0, 1) := by decide +kernel
theorem dX8_isLetter_29 : decode cX8_isLetter 29 = .ok (.ireturn, 1) := by decide +kernel
theorem dX8_isDigit_0 : decode cX8_isDigit 0 = .ok (.bipush 48, 2) := by decide +kernel
theorem dX8_isDigit_2 : decode cX8_isDigit 2 = .ok (.iload_n 0, 1) := by decide +kernel
theorem dX8_isDigit_3 : decode cX8_isDigit 3 = .ok (.if_icmp .gt 13, 3) := by decide +kernel
theorem dX8_isDigit_6 : decode cX8_isDigit 6 = .ok (.iload_n 0, 1) := by decide +kernel
theorem dX8_isDigit_7 : decode cX8_isDigit 7 = .ok (.bipush 57, 2) := by decide +kernel
theorem dX8_isDigit_9 : decode cX8_isDigit 9 = .ok (.if_icmp .gt 7, 3) := by decide +kernel
theorem dX8_isDigit_12 : decode cX8_isDigit 12 = .ok (.iconst 1, 1) := by decide +kernel
theorem dX8_isDigit_13 : decode cX8_isDigit 13 = .ok (.goto 4, 3) := by decide +kernel
theorem dX8_isDigit_16 : decode cX8_isDigit 16 = .ok (.iconst 0, 1) := by decide +kernel
theorem dX8_isDigit_17 : decode cX8_isDigit 17 = .ok (.ireturn, 1) := by decide +kernel
theorem dX9_init_0 : decode cX9_init 0 = .ok (.aload_n 0, 1) := by decide +kernel
theorem dX9_init_1 : decode cX9_init 1 = .ok (.invokespecial 3, 3) := by decide +kernel
theorem dX9_init_4 : decode cX9_init 4 = .ok (.aload_n 0, 1) := by decide +kernel
theorem dX9_init_5 : decode cX9_init 5 = .ok (.aload_n 1, 1) := by decide +kernel
theorem dX9_init_6 : decode cX9_init 6 = .ok (.putfield 9, 3) := by decide +kernel
theorem dX9_init_9 : decode cX9_init 9 = .ok (.aload_n 0, 1) := by decide +kernel
theorem dX9_init_10 : decode cX9_init 10 = .ok (.aload_n 2, 1) := by decide +kernel
theorem dX9_init_11 : decode cX9_init 11 = .ok (.putfield 15, 3) := by decide +kernel
theorem dX9_init_14 : decode cX9_init 14 = .ok (.aload_n 0, 1) := by decide +kernel
theorem dX9_init_15 : decode cX9_init 15 = .ok (.new 19, 3) := by decide +kernel
theorem dX9_init_18 : decode cX9_init 18 = .ok (.dup, 1) := by decide +kernel
theorem dX9_init_19 : decode cX9_init 19 = .ok (.aload_n 1, 1) := by decide +kernel
theorem dX9_init_20 : decode cX9_init 20 = .ok (.aload_n 2, 1) := by decide +kernel
theorem dX9_init_21 : decode cX9_init 21 = .ok (.aload_n 3, 1) := by decide +kernel
theorem dX9_init_22 : decode cX9_init 22 = .ok (.invokespecial 21, 3) := by decide +kernel
theorem dX9_init_25 : decode cX9_init 25 = .ok (.putfield 24, 3) := by decide +kernel
theorem dX9_init_28 : decode cX9_init 28 = .ok (.return_, 1) := by decide +kernel
theorem dX9_canBow_0 : decode cX9_canBow 0 = .ok (.aload_n 0, 1) := by decide +kernel
theorem dX9_canBow_1 : decode cX9_canBow 1 = .ok (.getfield 15, 3) := by decide +kernel
theorem dX9_canBow_4 : decode cX9_canBow 4 = .ok (.iload_n 1, 1) := by decide +kernel
theorem dX9_canBow_5 : decode cX9_canBow 5 = .ok (.iload_n 2, 1) := by decide +kernel
theorem dX9_canBow_6 : decode cX9_canBow 6 = .ok (.invokevirtual 28, 3) := by decide +kernel
theorem dX9_canBow_9 : decode cX9_canBow 9 = .ok (.ifCond .eq 27, 3) := by decide +kernel
theorem dX9_canBow_12 : decode cX9_canBow 12 = .ok (.aload_n 0, 1) := by decide +kernel
theorem dX9_canBow_13 : decode cX9_canBow 13 = .ok (.getfield 15, 3) := by decide +kernel
theorem dX9_canBow_16 : decode cX9_canBow 16 = .ok (.iload_n 1, 1) := by decide +kernel
theorem dX9_canBow_17 : decode cX9_canBow 17 = .ok (.invokevirtual 34, 3) := by decide +kernel
theorem dX9_canBow_20 : decode cX9_canBow 20 = .ok (.aload_n 0, 1) := by decide +kernel
theorem dX9_canBow_21 : decode cX9_canBow 21 = .ok (.getfield 24, 3) := by decide +kernel
theorem dX9_canBow_24 : decode cX9_canBow 24 = .ok (.iload_n 1, 1) := by decide +kernel
theorem dX9_canBow_25 : decode cX9_canBow 25 = .ok (.iload_n 2, 1) := by decide +kernel
theorem dX9_canBow_26 : decode cX9_canBow 26 = .ok (.invokevirtual 38, 3) := by decide +kernel
theorem dX9_canBow_29 : decode cX9_canBow 29 = .ok (.if_icmp .lt 7, 3) := by decide +kernel
theorem dX9_canBow_32 : decode cX9_canBow 32 = .ok (.iconst 1, 1) := by decide +kernel
theorem dX9_canBow_33 : decode cX9_canBow 33 = .ok (.goto 4, 3) := by decide +kernel
theorem dX9_canBow_36 : decode cX9_canBow 36 = .ok (.iconst 0, 1) := by decide +kernel
theorem dX9_canBow_37 : decode cX9_canBow 37 = .ok (.ireturn, 1) := by decide +kernel
theorem dX9_bows_0 : decode cX9_bows 0 = .ok (.aload_n 0, 1) := by decide +kernel
theorem dX9_bows_1 : decode cX9_bows 1 = .ok (.getfield 24, 3) := by decide +kernel
theorem dX9_bows_4 : decode cX9_bows 4 = .ok (.iload_n 1, 1) := by decide +kernel
theorem dX9_bows_5 : decode cX9_bows 5 = .ok (.iload_n 2, 1) := by decide +kernel
theorem dX9_bows_6 : decode cX9_bows 6 = .ok (.invokevirtual 38, 3) := by decide +kernel
theorem dX9_bows_9 : decode cX9_bows 9 = .ok (.istore_n 3, 1) := by decide +kernel
theorem dX9_bows_10 : decode cX9_bows 10 = .ok (.aload_n 0, 1) := by decide +kernel
theorem dX9_bows_11 : decode cX9_bows 11 = .ok (.getfield 15, 3) := by decide +kernel
theorem dX9_bows_14 : decode cX9_bows 14 = .ok (.iload_n 1, 1) := by decide +kernel
theorem dX9_bows_15 : decode cX9_bows 15 = .ok (.iload_n 2, 1) := by decide +kernel
theorem dX9_bows_16 : decode cX9_bows 16 = .ok (.invokevirtual 42, 3) := by decide +kernel
theorem dX9_bows_19 : decode cX9_bows 19 = .ok (.istore 4, 2) := by decide +kernel
theorem dX9_bows_21 : decode cX9_bows 21 = .ok (.aload_n 0, 1) := by decide +kernel
theorem dX9_bows_22 : decode cX9_bows 22 = .ok (.getfield 15, 3) := by decide +kernel
theorem dX9_bows_25 : decode cX9_bows 25 = .ok (.iload_n 1, 1) := by decide +kernel
theorem dX9_bows_26 : decode cX9_bows 26 = .ok (.iload_n 3, 1) := by decide +kernel
theorem dX9_bows_27 : decode cX9_bows 27 = .ok (.invokevirtual 45, 3) := by decide +kernel
theorem dX9_bows_30 : decode cX9_bows 30 = .ok (.aload_n 0, 1) := by decide +kernel
theorem dX9_bows_31 : decode cX9_bows 31 = .ok (.getfield 15, 3) := by decide +kernel
theorem dX9_bows_34 : decode cX9_bows 34 = .ok (.iload_n 1, 1) := by decide +kernel
theorem dX9_bows_35 : decode cX9_bows 35 = .ok (.iload_n 2, 1) := by decide +kernel
theorem dX9_bows_36 : decode cX9_bows 36 = .ok (.iload 4, 2) := by decide +kernel
theorem dX9_bows_38 : decode cX9_bows 38 = .ok (.iload_n 3, 1) := by decide +kernel
theorem dX9_bows_39 : decode cX9_bows 39 = .ok (.isub, 1) := by decide +kernel
theorem dX9_bows_40 : decode cX9_bows 40 = .ok (.invokevirtual 49, 3) := by decide +kernel
theorem dX9_bows_43 : decode cX9_bows 43 = .ok (.iload_n 3, 1) := by decide +kernel
theorem dX9_bows_44 : decode cX9_bows 44 = .ok (.iload 4, 2) := by decide +kernel
theorem dX9_bows_46 : decode cX9_bows 46 = .ok (.if_icmp .le 39, 3) := by decide +kernel
theorem dX9_bows_49 : decode cX9_bows 49 = .ok (.aload_n 0, 1) := by decide +kernel
theorem dX9_bows_50 : decode cX9_bows 50 = .ok (.getfield 24, 3) := by decide +kernel
theorem dX9_bows_53 : decode cX9_bows 53 = .ok (.iload_n 2, 1) := by decide +kernel
theorem dX9_bows_54 : decode cX9_bows 54 = .ok (.iload_n 1, 1) := by decide +kernel
theorem dX9_bows_55 : decode cX9_bows 55 = .ok (.iload_n 3, 1) := by decide +kernel
theorem dX9_bows_56 : decode cX9_bows 56 = .ok (.iload 4, 2) := by decide +kernel
theorem dX9_bows_58 : decode cX9_bows 58 = .ok (.isub, 1) := by decide +kernel
theorem dX9_bows_59 : decode cX9_bows 59 = .ok (.invokevirtual 53, 3) := by decide +kernel
theorem dX9_bows_62 : decode cX9_bows 62 = .ok (.istore 5, 2) := by decide +kernel
theorem dX9_bows_64 : decode cX9_bows 64 = .ok (.aload_n 0, 1) := by decide +kernel
theorem dX9_bows_65 : decode cX9_bows 65 = .ok (.getfield 15, 3) := by decide +kernel
theorem dX9_bows_68 : decode cX9_bows 68 = .ok (.iload_n 2, 1) := by decide +kernel
theorem dX9_bows_69 : decode cX9_bows 69 = .ok (.iload_n 1, 1) := by decide +kernel
theorem dX9_bows_70 : decode cX9_bows 70 = .ok (.aload_n 0, 1) := by decide +kernel
theorem dX9_bows_71 : decode cX9_bows 71 = .ok (.getfield 15, 3) := by decide +kernel
theorem dX9_bows_74 : decode cX9_bows 74 = .ok (.iload_n 2, 1) := by decide +kernel
theorem dX9_bows_75 : decode cX9_bows 75 = .ok (.iload_n 1, 1) := by decide +kernel
theorem dX9_bows_76 : decode cX9_bows 76 = .ok (.invokevirtual 42, 3) := by decide +kernel
theorem dX9_bows_79 : decode cX9_bows 79 = .ok (.iload 5, 2) := by decide +kernel
theorem dX9_bows_81 : decode cX9_bows 81 = .ok (.iadd, 1) := by decide +kernel
theorem dX9_bows_82 : decode cX9_bows 82 = .ok (.invokevirtual 49, 3) := by decide +kernel
theorem dX9_bows_85 : decode cX9_bows 85 = .ok (.return_, 1) := by decide +kernel
theorem dX9_passHour_0 : decode cX9_passHour 0 = .ok (.aload_n 0, 1) := by decide +kernel
theorem dX9_passHour_1 : decode cX9_passHour 1 = .ok (.getfield 15, 3) := by decide +kernel
theorem dX9_passHour_4 : decode cX9_passHour 4 = .ok (.dup, 1) := by decide +kernel
theorem dX9_passHour_5 : decode cX9_passHour 5 = .ok (.getfield 57, 3) := by decide +kernel
theorem dX9_passHour_8 : decode cX9_passHour 8 = .ok (.iconst 1, 1) := by decide +kernel
theorem dX9_passHour_9 : decode cX9_passHour 9 = .ok (.iadd, 1) := by decide +kernel
theorem dX9_passHour_10 : decode cX9_passHour 10 = .ok (.putfield 57, 3) := by decide +kernel
theorem dX9_passHour_13 : decode cX9_passHour 13 = .ok (.aload_n 0, 1) := by decide +kernel
theorem dX9_passHour_14 : decode cX9_passHour 14 = .ok (.getfield 15, 3) := by decide +kernel
theorem dX9_passHour_17 : decode cX9_passHour 17 = .ok (.getfield 57, 3) := by decide +kernel
theorem dX9_passHour_20 : decode cX9_passHour 20 = .ok (.bipush 10, 2) := by decide +kernel
theorem dX9_passHour_22 : decode cX9_passHour 22 = .ok (.if_icmp .ge 5, 3) := by decide +kernel
theorem dX9_passHour_25 : decode cX9_passHour 25 = .ok (.iconst 0, 1) := by decide +kernel
theorem dX9_passHour_26 : decode cX9_passHour 26 = .ok (.ireturn, 1) := by decide +kernel
theorem dX9_passHour_27 : decode cX9_passHour 27 = .ok (.aload_n 0, 1) := by decide +kernel
theorem dX9_passHour_28 : decode cX9_passHour 28 = .ok (.getfield 15, 3) := by decide +kernel
theorem dX9_passHour_31 : decode cX9_passHour 31 = .ok (.iconst 0, 1) := by decide +kernel
theorem dX9_passHour_32 : decode cX9_passHour 32 = .ok (.putfield 57, 3) := by decide +kernel
theorem dX9_passHour_35 : decode cX9_passHour 35 = .ok (.aload_n 0, 1) := by decide +kernel
theorem dX9_passHour_36 : decode cX9_passHour 36 = .ok (.getfield 15, 3) := by decide +kernel
theorem dX9_passHour_39 : decode cX9_passHour 39 = .ok (.dup, 1) := by decide +kernel
theorem dX9_passHour_40 : decode cX9_passHour 40 = .ok (.getfield 61, 3) := by decide +kernel
theorem dX9_passHour_43 : decode cX9_passHour 43 = .ok (.iconst 1, 1) := by decide +kernel
theorem dX9_passHour_44 : decode cX9_passHour 44 = .ok (.iadd, 1) := by decide +kernel
theorem dX9_passHour_45 : decode cX9_passHour 45 = .ok (.putfield 61, 3) := by decide +kernel
theorem dX9_passHour_48 : decode cX9_passHour 48 = .ok (.iconst 0, 1) := by decide +kernel
theorem dX9_passHour_49 : decode cX9_passHour 49 = .ok (.istore_n 1, 1) := by decide +kernel
theorem dX9_passHour_50 : decode cX9_passHour 50 = .ok (.iload_n 1, 1) := by decide +kernel
theorem dX9_passHour_51 : decode cX9_passHour 51 = .ok (.aload_n 0, 1) := by decide +kernel
theorem dX9_passHour_52 : decode cX9_passHour 52 = .ok (.getfield 15, 3) := by decide +kernel
theorem dX9_passHour_55 : decode cX9_passHour 55 = .ok (.getfield 64, 3) := by decide +kernel
theorem dX9_passHour_58 : decode cX9_passHour 58 = .ok (.if_icmp .ge 58, 3) := by decide +kernel
theorem dX9_passHour_61 : decode cX9_passHour 61 = .ok (.iconst 0, 1) := by decide +kernel
theorem dX9_passHour_62 : decode cX9_passHour 62 = .ok (.istore_n 2, 1) := by decide +kernel
theorem dX9_passHour_63 : decode cX9_passHour 63 = .ok (.iload_n 2, 1) := by decide +kernel
theorem dX9_passHour_64 : decode cX9_passHour 64 = .ok (.aload_n 0, 1) := by decide +kernel
theorem dX9_passHour_65 : decode cX9_passHour 65 = .ok (.getfield 15, 3) := by decide +kernel
theorem dX9_passHour_68 : decode cX9_passHour 68 = .ok (.getfield 64, 3) := by decide +kernel
theorem dX9_passHour_71 : decode cX9_passHour 71 = .ok (.if_icmp .ge 39, 3) := by decide +kernel
theorem dX9_passHour_74 : decode cX9_passHour 74 = .ok (.aload_n 0, 1) := by decide +kernel
theorem dX9_passHour_75 : decode cX9_passHour 75 = .ok (.getfield 15, 3) := by decide +kernel
theorem dX9_passHour_78 : decode cX9_passHour 78 = .ok (.iload_n 1, 1) := by decide +kernel
theorem dX9_passHour_79 : decode cX9_passHour 79 = .ok (.iload_n 2, 1) := by decide +kernel
theorem dX9_passHour_80 : decode cX9_passHour 80 = .ok (.invokevirtual 42, 3) := by decide +kernel
theorem dX9_passHour_83 : decode cX9_passHour 83 = .ok (.ifCond .le 21, 3) := by decide +kernel
theorem dX9_passHour_86 : decode cX9_passHour 86 = .ok (.aload_n 0, 1) := by decide +kernel
theorem dX9_passHour_87 : decode cX9_passHour 87 = .ok (.getfield 15, 3) := by decide +kernel
theorem dX9_passHour_90 : decode cX9_passHour 90 = .ok (.iload_n 1, 1) := by decide +kernel
theorem dX9_passHour_91 : decode cX9_passHour 91 = .ok (.iload_n 2, 1) := by decide +kernel
theorem dX9_passHour_92 : decode cX9_passHour 92 = .ok (.aload_n 0, 1) := by decide +kernel
theorem dX9_passHour_93 : decode cX9_passHour 93 = .ok (.getfield 24, 3) := by decide +kernel
theorem dX9_passHour_96 : decode cX9_passHour 96 = .ok (.iload_n 1, 1) := by decide +kernel
theorem dX9_passHour_97 : decode cX9_passHour 97 = .ok (.iload_n 2, 1) := by decide +kernel
theorem dX9_passHour_98 : decode cX9_passHour 98 = .ok (.invokevirtual 67, 3) := by decide +kernel
theorem dX9_passHour_101 : decode cX9_passHour 101 = .ok (.invokevirtual 49, 3) := by decide +kernel
theorem dX9_passHour_104 : decode cX9_passHour 104 = .ok (.iinc 2 1, 3) := by decide +kernel
theorem dX9_passHour_107 : decode cX9_passHour 107 = .ok (.goto (-44), 3) := by decide +kernel
theorem dX9_passHour_110 : decode cX9_passHour 110 = .ok (.iinc 1 1, 3) := by decide +kernel
theorem dX9_passHour_113 : decode cX9_passHour 113 = .ok (.goto (-63), 3) := by decide +kernel
theorem dX9_passHour_116 : decode cX9_passHour 116 = .ok (.iconst 0, 1) := by decide +kernel
theorem dX9_passHour_117 : decode cX9_passHour 117 = .ok (.istore_n 1, 1) := by decide +kernel
theorem dX9_passHour_118 : decode cX9_passHour 118 = .ok (.iconst 0, 1) := by decide +kernel
theorem dX9_passHour_119 : decode cX9_passHour 119 = .ok (.istore_n 2, 1) := by decide +kernel
theorem dX9_passHour_120 : decode cX9_passHour 120 = .ok (.iload_n 2, 1) := by decide +kernel
theorem dX9_passHour_121 : decode cX9_passHour 121 = .ok (.aload_n 0, 1) := by decide +kernel
theorem dX9_passHour_122 : decode cX9_passHour 122 = .ok (.getfield 15, 3) := by decide +kernel
theorem dX9_passHour_125 : decode cX9_passHour 125 = .ok (.getfield 64, 3) := by decide +kernel
theorem dX9_passHour_128 : decode cX9_passHour 128 = .ok (.if_icmp .ge 55, 3) := by decide +kernel
theorem dX9_passHour_131 : decode cX9_passHour 131 = .ok (.aload_n 0, 1) := by decide +kernel
theorem dX9_passHour_132 : decode cX9_passHour 132 = .ok (.getfield 15, 3) := by decide +kernel
theorem dX9_passHour_135 : decode cX9_passHour 135 = .ok (.iload_n 2, 1) := by decide +kernel
theorem dX9_passHour_136 : decode cX9_passHour 136 = .ok (.aload_n 0, 1) := by decide +kernel
theorem dX9_passHour_137 : decode cX9_passHour 137 = .ok (.getfield 9, 3) := by decide +kernel
theorem dX9_passHour_140 : decode cX9_passHour 140 = .ok (.iload_n 2, 1) := by decide +kernel
theorem dX9_passHour_141 : decode cX9_passHour 141 = .ok (.invokevirtual 70, 3) := by decide +kernel
theorem dX9_passHour_144 : decode cX9_passHour 144 = .ok (.invokevirtual 75, 3) := by decide +kernel
theorem dX9_passHour_147 : decode cX9_passHour 147 = .ok (.aload_n 0, 1) := by decide +kernel
theorem dX9_passHour_148 : decode cX9_passHour 148 = .ok (.getfield 15, 3) := by decide +kernel
theorem dX9_passHour_151 : decode cX9_passHour 151 = .ok (.iload_n 2, 1) := by decide +kernel
theorem dX9_passHour_152 : decode cX9_passHour 152 = .ok (.invokevirtual 78, 3) := by decide +kernel
theorem dX9_passHour_155 : decode cX9_passHour 155 = .ok (.aload_n 0, 1) := by decide +kernel
theorem dX9_passHour_156 : decode cX9_passHour 156 = .ok (.getfield 24, 3) := by decide +kernel
theorem dX9_passHour_159 : decode cX9_passHour 159 = .ok (.iload_n 2, 1) := by decide +kernel
theorem dX9_passHour_160 : decode cX9_passHour 160 = .ok (.invokevirtual 81, 3) := by decide +kernel
theorem dX9_passHour_163 : decode cX9_passHour 163 = .ok (.if_icmp .le 14, 3) := by decide +kernel
theorem dX9_passHour_166 : decode cX9_passHour 166 = .ok (.aload_n 0, 1) := by decide +kernel
theorem dX9_passHour_167 : decode cX9_passHour 167 = .ok (.getfield 15, 3) := by decide +kernel
theorem dX9_passHour_170 : decode cX9_passHour 170 = .ok (.iload_n 2, 1) := by decide +kernel
theorem dX9_passHour_171 : decode cX9_passHour 171 = .ok (.invokevirtual 84, 3) := by decide +kernel
theorem dX9_passHour_174 : decode cX9_passHour 174 = .ok (.iinc 1 1, 3) := by decide +kernel
theorem dX9_passHour_177 : decode cX9_passHour 177 = .ok (.iinc 2 1, 3) := by decide +kernel
theorem dX9_passHour_180 : decode cX9_passHour 180 = .ok (.goto (-60), 3) := by decide +kernel
theorem dX9_passHour_183 : decode cX9_passHour 183 = .ok (.iload_n 1, 1) := by decide +kernel
theorem dX9_passHour_184 : decode cX9_passHour 184 = .ok (.ireturn, 1) := by decide +kernel
theorem dX9_drawDeed_0 : decode cX9_drawDeed 0 = .ok (.aload_n 0, 1) := by decide +kernel
theorem dX9_drawDeed_1 : decode cX9_drawDeed 1 = .ok (.getfield 15, 3) := by decide +kernel
theorem dX9_drawDeed_4 : decode cX9_drawDeed 4 = .ok (.bipush 7, 2) := by decide +kernel
theorem dX9_drawDeed_6 : decode cX9_drawDeed 6 = .ok (.invokevirtual 88, 3) := by decide +kernel
theorem dX9_drawDeed_9 : decode cX9_drawDeed 9 = .ok (.istore_n 1, 1) := by decide +kernel
theorem dX9_drawDeed_10 : decode cX9_drawDeed 10 = .ok (.aload_n 0, 1) := by decide +kernel
theorem dX9_drawDeed_11 : decode cX9_drawDeed 11 = .ok (.getfield 15, 3) := by decide +kernel
theorem dX9_drawDeed_14 : decode cX9_drawDeed 14 = .ok (.aload_n 0, 1) := by decide +kernel
theorem dX9_drawDeed_15 : decode cX9_drawDeed 15 = .ok (.getfield 15, 3) := by decide +kernel
theorem dX9_drawDeed_18 : decode cX9_drawDeed 18 = .ok (.getfield 64, 3) := by decide +kernel
theorem dX9_drawDeed_21 : decode cX9_drawDeed 21 = .ok (.invokevirtual 88, 3) := by decide +kernel
theorem dX9_drawDeed_24 : decode cX9_drawDeed 24 = .ok (.istore_n 2, 1) := by decide +kernel
theorem dX9_drawDeed_25 : decode cX9_drawDeed 25 = .ok (.iload_n 1, 1) := by decide +kernel
theorem dX9_drawDeed_26 : decode cX9_drawDeed 26 = .ok (.iconst 2, 1) := by decide +kernel
theorem dX9_drawDeed_27 : decode cX9_drawDeed 27 = .ok (.if_icmp .gt 36, 3) := by decide +kernel
theorem dX9_drawDeed_30 : decode cX9_drawDeed 30 = .ok (.aload_n 0, 1) := by decide +kernel
theorem dX9_drawDeed_31 : decode cX9_drawDeed 31 = .ok (.getfield 15, 3) := by decide +kernel
theorem dX9_drawDeed_34 : decode cX9_drawDeed 34 = .ok (.aload_n 0, 1) := by decide +kernel
theorem dX9_drawDeed_35 : decode cX9_drawDeed 35 = .ok (.getfield 15, 3) := by decide +kernel
theorem dX9_drawDeed_38 : decode cX9_drawDeed 38 = .ok (.getfield 64, 3) := by decide +kernel
theorem dX9_drawDeed_41 : decode cX9_drawDeed 41 = .ok (.invokevirtual 88, 3) := by decide +kernel
theorem dX9_drawDeed_44 : decode cX9_drawDeed 44 = .ok (.istore_n 3, 1) := by decide +kernel
theorem dX9_drawDeed_45 : decode cX9_drawDeed 45 = .ok (.aload_n 0, 1) := by decide +kernel
theorem dX9_drawDeed_46 : decode cX9_drawDeed 46 = .ok (.iload_n 2, 1) := by decide +kernel
theorem dX9_drawDeed_47 : decode cX9_drawDeed 47 = .ok (.iload_n 3, 1) := by decide +kernel
theorem dX9_drawDeed_48 : decode cX9_drawDeed 48 = .ok (.invokevirtual 91, 3) := by decide +kernel
theorem dX9_drawDeed_51 : decode cX9_drawDeed 51 = .ok (.ifCond .eq 9, 3) := by decide +kernel
theorem dX9_drawDeed_54 : decode cX9_drawDeed 54 = .ok (.aload_n 0, 1) := by decide +kernel
theorem dX9_drawDeed_55 : decode cX9_drawDeed 55 = .ok (.iload_n 2, 1) := by decide +kernel
theorem dX9_drawDeed_56 : decode cX9_drawDeed 56 = .ok (.iload_n 3, 1) := by decide +kernel
theorem dX9_drawDeed_57 : decode cX9_drawDeed 57 = .ok (.invokevirtual 94, 3) := by decide +kernel
theorem dX9_drawDeed_60 : decode cX9_drawDeed 60 = .ok (.goto 92, 3) := by decide +kernel
theorem dX9_drawDeed_63 : decode cX9_drawDeed 63 = .ok (.iload_n 1, 1) := by decide +kernel
theorem dX9_drawDeed_64 : decode cX9_drawDeed 64 = .ok (.iconst 3, 1) := by decide +kernel
theorem dX9_drawDeed_65 : decode cX9_drawDeed 65 = .ok (.if_icmp .ne 44, 3) := by decide +kernel
theorem dX9_drawDeed_68 : decode cX9_drawDeed 68 = .ok (.aload_n 0, 1) := by decide +kernel
theorem dX9_drawDeed_69 : decode cX9_drawDeed 69 = .ok (.getfield 15, 3) := by decide +kernel
theorem dX9_drawDeed_72 : decode cX9_drawDeed 72 = .ok (.iconst 2, 1) := by decide +kernel
theorem dX9_drawDeed_73 : decode cX9_drawDeed 73 = .ok (.invokevirtual 88, 3) := by decide +kernel
theorem dX9_drawDeed_76 : decode cX9_drawDeed 76 = .ok (.iconst 1, 1) := by decide +kernel
theorem dX9_drawDeed_77 : decode cX9_drawDeed 77 = .ok (.if_icmp .ne 7, 3) := by decide +kernel
theorem dX9_drawDeed_80 : decode cX9_drawDeed 80 = .ok (.iconst 1, 1) := by decide +kernel
theorem dX9_drawDeed_81 : decode cX9_drawDeed 81 = .ok (.goto 4, 3) := by decide +kernel
theorem dX9_drawDeed_84 : decode cX9_drawDeed 84 = .ok (.iconst (-1), 1) := by decide +kernel
theorem dX9_drawDeed_85 : decode cX9_drawDeed 85 = .ok (.istore_n 3, 1) := by decide +kernel
theorem dX9_drawDeed_86 : decode cX9_drawDeed 86 = .ok (.aload_n 0, 1) := by decide +kernel
theorem dX9_drawDeed_87 : decode cX9_drawDeed 87 = .ok (.getfield 15, 3) := by decide +kernel
theorem dX9_drawDeed_90 : decode cX9_drawDeed 90 = .ok (.iload_n 2, 1) := by decide +kernel
theorem dX9_drawDeed_91 : decode cX9_drawDeed 91 = .ok (.invokevirtual 97, 3) := by decide +kernel
theorem dX9_drawDeed_94 : decode cX9_drawDeed 94 = .ok (.ifCond .eq 12, 3) := by decide +kernel
theorem dX9_drawDeed_97 : decode cX9_drawDeed 97 = .ok (.aload_n 0, 1) := by decide +kernel
theorem dX9_drawDeed_98 : decode cX9_drawDeed 98 = .ok (.getfield 15, 3) := by decide +kernel
theorem dX9_drawDeed_101 : decode cX9_drawDeed 101 = .ok (.iload_n 2, 1) := by decide +kernel
theorem dX9_drawDeed_102 : decode cX9_drawDeed 102 = .ok (.iload_n 3, 1) := by decide +kernel
theorem dX9_drawDeed_103 : decode cX9_drawDeed 103 = .ok (.invokevirtual 101, 3) := by decide +kernel
theorem dX9_drawDeed_106 : decode cX9_drawDeed 106 = .ok (.goto 46, 3) := by decide +kernel
theorem dX9_drawDeed_109 : decode cX9_drawDeed 109 = .ok (.iload_n 1, 1) := by decide +kernel
theorem dX9_drawDeed_110 : decode cX9_drawDeed 110 = .ok (.iconst 4, 1) := by decide +kernel
theorem dX9_drawDeed_111 : decode cX9_drawDeed 111 = .ok (.if_icmp .ne 26, 3) := by decide +kernel
theorem dX9_drawDeed_114 : decode cX9_drawDeed 114 = .ok (.aload_n 0, 1) := by decide +kernel
theorem dX9_drawDeed_115 : decode cX9_drawDeed 115 = .ok (.getfield 15, 3) := by decide +kernel
theorem dX9_drawDeed_118 : decode cX9_drawDeed 118 = .ok (.bipush 9, 2) := by decide +kernel
theorem dX9_drawDeed_120 : decode cX9_drawDeed 120 = .ok (.invokevirtual 88, 3) := by decide +kernel
theorem dX9_drawDeed_123 : decode cX9_drawDeed 123 = .ok (.ifCond .ne 29, 3) := by decide +kernel
theorem dX9_drawDeed_126 : decode cX9_drawDeed 126 = .ok (.aload_n 0, 1) := by decide +kernel
theorem dX9_drawDeed_127 : decode cX9_drawDeed 127 = .ok (.getfield 15, 3) := by decide +kernel
theorem dX9_drawDeed_130 : decode cX9_drawDeed 130 = .ok (.invokevirtual 104, 3) := by decide +kernel
theorem dX9_drawDeed_133 : decode cX9_drawDeed 133 = .ok (.pop, 1) := by decide +kernel
theorem dX9_drawDeed_134 : decode cX9_drawDeed 134 = .ok (.goto 18, 3) := by decide +kernel
theorem dX9_drawDeed_137 : decode cX9_drawDeed 137 = .ok (.aload_n 0, 1) := by decide +kernel
theorem dX9_drawDeed_138 : decode cX9_drawDeed 138 = .ok (.getfield 15, 3) := by decide +kernel
theorem dX9_drawDeed_141 : decode cX9_drawDeed 141 = .ok (.invokevirtual 108, 3) := by decide +kernel
theorem dX9_drawDeed_144 : decode cX9_drawDeed 144 = .ok (.ifCond .le 8, 3) := by decide +kernel
theorem dX9_drawDeed_147 : decode cX9_drawDeed 147 = .ok (.aload_n 0, 1) := by decide +kernel
theorem dX9_drawDeed_148 : decode cX9_drawDeed 148 = .ok (.invokevirtual 111, 3) := by decide +kernel
theorem dX9_drawDeed_151 : decode cX9_drawDeed 151 = .ok (.pop, 1) := by decide +kernel
theorem dX9_drawDeed_152 : decode cX9_drawDeed 152 = .ok (.return_, 1) := by decide +kernel
theorem dX10_init_0 : decode cX10_init 0 = .ok (.aload_n 0, 1) := by decide +kernel
theorem dX10_init_1 : decode cX10_init 1 = .ok (.invokespecial 3, 3) := by decide +kernel
theorem dX10_init_4 : decode cX10_init 4 = .ok (.aload_n 0, 1) := by decide +kernel
theorem dX10_init_5 : decode cX10_init 5 = .ok (.new 9, 3) := by decide +kernel
theorem dX10_init_8 : decode cX10_init 8 = .ok (.dup, 1) := by decide +kernel
theorem dX10_init_9 : decode cX10_init 9 = .ok (.invokespecial 11, 3) := by decide +kernel
theorem dX10_init_12 : decode cX10_init 12 = .ok (.putfield 12, 3) := by decide +kernel
theorem dX10_init_15 : decode cX10_init 15 = .ok (.aload_n 0, 1) := by decide +kernel
theorem dX10_init_16 : decode cX10_init 16 = .ok (.iconst 5, 1) := by decide +kernel
theorem dX10_init_17 : decode cX10_init 17 = .ok (.newarray .int, 2) := by decide +kernel
theorem dX10_init_19 : decode cX10_init 19 = .ok (.dup, 1) := by decide +kernel
theorem dX10_init_20 : decode cX10_init 20 = .ok (.iconst 0, 1) := by decide +kernel
theorem dX10_init_21 : decode cX10_init 21 = .ok (.iconst (-1), 1) := by decide +kernel
theorem dX10_init_22 : decode cX10_init 22 = .ok (.iastore, 1) := by decide +kernel
theorem dX10_init_23 : decode cX10_init 23 = .ok (.dup, 1) := by decide +kernel
theorem dX10_init_24 : decode cX10_init 24 = .ok (.iconst 1, 1) := by decide +kernel
theorem dX10_init_25 : decode cX10_init 25 = .ok (.iconst (-1), 1) := by decide +kernel
theorem dX10_init_26 : decode cX10_init 26 = .ok (.iastore, 1) := by decide +kernel
theorem dX10_init_27 : decode cX10_init 27 = .ok (.dup, 1) := by decide +kernel
theorem dX10_init_28 : decode cX10_init 28 = .ok (.iconst 2, 1) := by decide +kernel
theorem dX10_init_29 : decode cX10_init 29 = .ok (.iconst (-1), 1) := by decide +kernel
theorem dX10_init_30 : decode cX10_init 30 = .ok (.iastore, 1) := by decide +kernel
theorem dX10_init_31 : decode cX10_init 31 = .ok (.dup, 1) := by decide +kernel
theorem dX10_init_32 : decode cX10_init 32 = .ok (.iconst 3, 1) := by decide +kernel
theorem dX10_init_33 : decode cX10_init 33 = .ok (.iconst (-1), 1) := by decide +kernel
theorem dX10_init_34 : decode cX10_init 34 = .ok (.iastore, 1) := by decide +kernel
theorem dX10_init_35 : decode cX10_init 35 = .ok (.dup, 1) := by decide +kernel
theorem dX10_init_36 : decode cX10_init 36 = .ok (.iconst 4, 1) := by decide +kernel
theorem dX10_init_37 : decode cX10_init 37 = .ok (.iconst (-1), 1) := by decide +kernel
theorem dX10_init_38 : decode cX10_init 38 = .ok (.iastore, 1) := by decide +kernel
theorem dX10_init_39 : decode cX10_init 39 = .ok (.putfield 18, 3) := by decide +kernel
theorem dX10_init_42 : decode cX10_init 42 = .ok (.aload_n 0, 1) := by decide +kernel
theorem dX10_init_43 : decode cX10_init 43 = .ok (.iconst (-1), 1) := by decide +kernel
theorem dX10_init_44 : decode cX10_init 44 = .ok (.putfield 22, 3) := by decide +kernel
theorem dX10_init_47 : decode cX10_init 47 = .ok (.aload_n 0, 1) := by decide +kernel
theorem dX10_init_48 : decode cX10_init 48 = .ok (.bipush 30, 2) := by decide +kernel
theorem dX10_init_50 : decode cX10_init 50 = .ok (.anewarray 9, 3) := by decide +kernel
theorem dX10_init_53 : decode cX10_init 53 = .ok (.putfield 26, 3) := by decide +kernel
theorem dX10_init_56 : decode cX10_init 56 = .ok (.iconst 0, 1) := by decide +kernel
theorem dX10_init_57 : decode cX10_init 57 = .ok (.istore_n 1, 1) := by decide +kernel
theorem dX10_init_58 : decode cX10_init 58 = .ok (.iload_n 1, 1) := by decide +kernel
theorem dX10_init_59 : decode cX10_init 59 = .ok (.aload_n 0, 1) := by decide +kernel
theorem dX10_init_60 : decode cX10_init 60 = .ok (.getfield 26, 3) := by decide +kernel
theorem dX10_init_63 : decode cX10_init 63 = .ok (.arraylength, 1) := by decide +kernel
theorem dX10_init_64 : decode cX10_init 64 = .ok (.if_icmp .ge 22, 3) := by decide +kernel
theorem dX10_init_67 : decode cX10_init 67 = .ok (.aload_n 0, 1) := by decide +kernel
theorem dX10_init_68 : decode cX10_init 68 = .ok (.getfield 26, 3) := by decide +kernel
theorem dX10_init_71 : decode cX10_init 71 = .ok (.iload_n 1, 1) := by decide +kernel
theorem dX10_init_72 : decode cX10_init 72 = .ok (.new 9, 3) := by decide +kernel
theorem dX10_init_75 : decode cX10_init 75 = .ok (.dup, 1) := by decide +kernel
theorem dX10_init_76 : decode cX10_init 76 = .ok (.invokespecial 11, 3) := by decide +kernel
theorem dX10_init_79 : decode cX10_init 79 = .ok (.aastore, 1) := by decide +kernel
theorem dX10_init_80 : decode cX10_init 80 = .ok (.iinc 1 1, 3) := by decide +kernel
theorem dX10_init_83 : decode cX10_init 83 = .ok (.goto (-25), 3) := by decide +kernel
theorem dX10_init_86 : decode cX10_init 86 = .ok (.return_, 1) := by decide +kernel
theorem dX10_copyFrom_0 : decode cX10_copyFrom 0 = .ok (.aload_n 0, 1) := by decide +kernel
theorem dX10_copyFrom_1 : decode cX10_copyFrom 1 = .ok (.getfield 12, 3) := by decide +kernel
theorem dX10_copyFrom_4 : decode cX10_copyFrom 4 = .ok (.aload_n 1, 1) := by decide +kernel
theorem dX10_copyFrom_5 : decode cX10_copyFrom 5 = .ok (.getfield 12, 3) := by decide +kernel
theorem dX10_copyFrom_8 : decode cX10_copyFrom 8 = .ok (.invokevirtual 30, 3) := by decide +kernel
theorem dX10_copyFrom_11 : decode cX10_copyFrom 11 = .ok (.aload_n 1, 1) := by decide +kernel
theorem dX10_copyFrom_12 : decode cX10_copyFrom 12 = .ok (.getfield 18, 3) := by decide +kernel
theorem dX10_copyFrom_15 : decode cX10_copyFrom 15 = .ok (.iconst 0, 1) := by decide +kernel
theorem dX10_copyFrom_16 : decode cX10_copyFrom 16 = .ok (.aload_n 0, 1) := by decide +kernel
theorem dX10_copyFrom_17 : decode cX10_copyFrom 17 = .ok (.getfield 18, 3) := by decide +kernel
theorem dX10_copyFrom_20 : decode cX10_copyFrom 20 = .ok (.iconst 0, 1) := by decide +kernel
theorem dX10_copyFrom_21 : decode cX10_copyFrom 21 = .ok (.aload_n 0, 1) := by decide +kernel
theorem dX10_copyFrom_22 : decode cX10_copyFrom 22 = .ok (.getfield 18, 3) := by decide +kernel
theorem dX10_copyFrom_25 : decode cX10_copyFrom 25 = .ok (.arraylength, 1) := by decide +kernel
theorem dX10_copyFrom_26 : decode cX10_copyFrom 26 = .ok (.invokestatic 34, 3) := by decide +kernel
theorem dX10_copyFrom_29 : decode cX10_copyFrom 29 = .ok (.aload_n 0, 1) := by decide +kernel
theorem dX10_copyFrom_30 : decode cX10_copyFrom 30 = .ok (.aload_n 1, 1) := by decide +kernel
theorem dX10_copyFrom_31 : decode cX10_copyFrom 31 = .ok (.getfield 40, 3) := by decide +kernel
theorem dX10_copyFrom_34 : decode cX10_copyFrom 34 = .ok (.putfield 40, 3) := by decide +kernel
theorem dX10_copyFrom_37 : decode cX10_copyFrom 37 = .ok (.aload_n 0, 1) := by decide +kernel
theorem dX10_copyFrom_38 : decode cX10_copyFrom 38 = .ok (.aload_n 1, 1) := by decide +kernel
theorem dX10_copyFrom_39 : decode cX10_copyFrom 39 = .ok (.getfield 22, 3) := by decide +kernel
theorem dX10_copyFrom_42 : decode cX10_copyFrom 42 = .ok (.putfield 22, 3) := by decide +kernel
theorem dX10_copyFrom_45 : decode cX10_copyFrom 45 = .ok (.aload_n 0, 1) := by decide +kernel
theorem dX10_copyFrom_46 : decode cX10_copyFrom 46 = .ok (.aload_n 1, 1) := by decide +kernel
theorem dX10_copyFrom_47 : decode cX10_copyFrom 47 = .ok (.getfield 43, 3) := by decide +kernel
theorem dX10_copyFrom_50 : decode cX10_copyFrom 50 = .ok (.putfield 43, 3) := by decide +kernel
theorem dX10_copyFrom_53 : decode cX10_copyFrom 53 = .ok (.aload_n 0, 1) := by decide +kernel
theorem dX10_copyFrom_54 : decode cX10_copyFrom 54 = .ok (.aload_n 1, 1) := by decide +kernel
theorem dX10_copyFrom_55 : decode cX10_copyFrom 55 = .ok (.getfield 46, 3) := by decide +kernel
theorem dX10_copyFrom_58 : decode cX10_copyFrom 58 = .ok (.putfield 46, 3) := by decide +kernel
theorem dX10_copyFrom_61 : decode cX10_copyFrom 61 = .ok (.iconst 0, 1) := by decide +kernel
theorem dX10_copyFrom_62 : decode cX10_copyFrom 62 = .ok (.istore_n 2, 1) := by decide +kernel
theorem dX10_copyFrom_63 : decode cX10_copyFrom 63 = .ok (.iload_n 2, 1) := by decide +kernel
theorem dX10_copyFrom_64 : decode cX10_copyFrom 64 = .ok (.aload_n 0, 1) := by decide +kernel
theorem dX10_copyFrom_65 : decode cX10_copyFrom 65 = .ok (.getfield 26, 3) := by decide +kernel
theorem dX10_copyFrom_68 : decode cX10_copyFrom 68 = .ok (.arraylength, 1) := by decide +kernel
theorem dX10_copyFrom_69 : decode cX10_copyFrom 69 = .ok (.if_icmp .ge 39, 3) := by decide +kernel
theorem dX10_copyFrom_72 : decode cX10_copyFrom 72 = .ok (.aload_n 0, 1) := by decide +kernel
theorem dX10_copyFrom_73 : decode cX10_copyFrom 73 = .ok (.getfield 26, 3) := by decide +kernel
theorem dX10_copyFrom_76 : decode cX10_copyFrom 76 = .ok (.iload_n 2, 1) := by decide +kernel
theorem dX10_copyFrom_77 : decode cX10_copyFrom 77 = .ok (.aaload, 1) := by decide +kernel
theorem dX10_copyFrom_78 : decode cX10_copyFrom 78 = .ok (.astore_n 3, 1) := by decide +kernel
theorem dX10_copyFrom_79 : decode cX10_copyFrom 79 = .ok (.aload_n 1, 1) := by decide +kernel
theorem dX10_copyFrom_80 : decode cX10_copyFrom 80 = .ok (.getfield 26, 3) := by decide +kernel
theorem dX10_copyFrom_83 : decode cX10_copyFrom 83 = .ok (.iload_n 2, 1) := by decide +kernel
theorem dX10_copyFrom_84 : decode cX10_copyFrom 84 = .ok (.aaload, 1) := by decide +kernel
theorem dX10_copyFrom_85 : decode cX10_copyFrom 85 = .ok (.astore 4, 2) := by decide +kernel
theorem dX10_copyFrom_87 : decode cX10_copyFrom 87 = .ok (.aload_n 3, 1) := by decide +kernel
theorem dX10_copyFrom_88 : decode cX10_copyFrom 88 = .ok (.ifnull 14, 3) := by decide +kernel
theorem dX10_copyFrom_91 : decode cX10_copyFrom 91 = .ok (.aload 4, 2) := by decide +kernel
theorem dX10_copyFrom_93 : decode cX10_copyFrom 93 = .ok (.ifnull 9, 3) := by decide +kernel
theorem dX10_copyFrom_96 : decode cX10_copyFrom 96 = .ok (.aload_n 3, 1) := by decide +kernel
theorem dX10_copyFrom_97 : decode cX10_copyFrom 97 = .ok (.aload 4, 2) := by decide +kernel
theorem dX10_copyFrom_99 : decode cX10_copyFrom 99 = .ok (.invokevirtual 30, 3) := by decide +kernel
theorem dX10_copyFrom_102 : decode cX10_copyFrom 102 = .ok (.iinc 2 1, 3) := by decide +kernel
theorem dX10_copyFrom_105 : decode cX10_copyFrom 105 = .ok (.goto (-42), 3) := by decide +kernel
theorem dX10_copyFrom_108 : decode cX10_copyFrom 108 = .ok (.return_, 1) := by decide +kernel
theorem dX10_keepStep_0 : decode cX10_keepStep 0 = .ok (.aload_n 0, 1) := by decide +kernel
theorem dX10_keepStep_1 : decode cX10_keepStep 1 = .ok (.aload_n 0, 1) := by decide +kernel
theorem dX10_keepStep_2 : decode cX10_keepStep 2 = .ok (.getfield 43, 3) := by decide +kernel
theorem dX10_keepStep_5 : decode cX10_keepStep 5 = .ok (.invokevirtual 49, 3) := by decide +kernel
theorem dX10_keepStep_8 : decode cX10_keepStep 8 = .ok (.astore_n 1, 1) := by decide +kernel
theorem dX10_keepStep_9 : decode cX10_keepStep 9 = .ok (.aload_n 1, 1) := by decide +kernel
theorem dX10_keepStep_10 : decode cX10_keepStep 10 = .ok (.ifnull 11, 3) := by decide +kernel
theorem dX10_keepStep_13 : decode cX10_keepStep 13 = .ok (.aload_n 1, 1) := by decide +kernel
theorem dX10_keepStep_14 : decode cX10_keepStep 14 = .ok (.aload_n 0, 1) := by decide +kernel
theorem dX10_keepStep_15 : decode cX10_keepStep 15 = .ok (.getfield 12, 3) := by decide +kernel
theorem dX10_keepStep_18 : decode cX10_keepStep 18 = .ok (.invokevirtual 30, 3) := by decide +kernel
theorem dX10_keepStep_21 : decode cX10_keepStep 21 = .ok (.aload_n 0, 1) := by decide +kernel
theorem dX10_keepStep_22 : decode cX10_keepStep 22 = .ok (.getfield 43, 3) := by decide +kernel
theorem dX10_keepStep_25 : decode cX10_keepStep 25 = .ok (.bipush 30, 2) := by decide +kernel
theorem dX10_keepStep_27 : decode cX10_keepStep 27 = .ok (.if_icmp .ge 16, 3) := by decide +kernel
theorem dX10_keepStep_30 : decode cX10_keepStep 30 = .ok (.aload_n 0, 1) := by decide +kernel
theorem dX10_keepStep_31 : decode cX10_keepStep 31 = .ok (.dup, 1) := by decide +kernel
theorem dX10_keepStep_32 : decode cX10_keepStep 32 = .ok (.getfield 43, 3) := by decide +kernel
theorem dX10_keepStep_35 : decode cX10_keepStep 35 = .ok (.iconst 1, 1) := by decide +kernel
theorem dX10_keepStep_36 : decode cX10_keepStep 36 = .ok (.iadd, 1) := by decide +kernel
theorem dX10_keepStep_37 : decode cX10_keepStep 37 = .ok (.putfield 43, 3) := by decide +kernel
theorem dX10_keepStep_40 : decode cX10_keepStep 40 = .ok (.goto 16, 3) := by decide +kernel
theorem dX10_keepStep_43 : decode cX10_keepStep 43 = .ok (.aload_n 0, 1) := by decide +kernel
theorem dX10_keepStep_44 : decode cX10_keepStep 44 = .ok (.aload_n 0, 1) := by decide +kernel
theorem dX10_keepStep_45 : decode cX10_keepStep 45 = .ok (.getfield 46, 3) := by decide +kernel
theorem dX10_keepStep_48 : decode cX10_keepStep 48 = .ok (.iconst 1, 1) := by decide +kernel
theorem dX10_keepStep_49 : decode cX10_keepStep 49 = .ok (.iadd, 1) := by decide +kernel
theorem dX10_keepStep_50 : decode cX10_keepStep 50 = .ok (.bipush 30, 2) := by decide +kernel
theorem dX10_keepStep_52 : decode cX10_keepStep 52 = .ok (.irem, 1) := by decide +kernel
theorem dX10_keepStep_53 : decode cX10_keepStep 53 = .ok (.putfield 46, 3) := by decide +kernel
theorem dX10_keepStep_56 : decode cX10_keepStep 56 = .ok (.return_, 1) := by decide +kernel
theorem dX10_step_0 : decode cX10_step 0 = .ok (.aload_n 0, 1) := by decide +kernel
theorem dX10_step_1 : decode cX10_step 1 = .ok (.getfield 46, 3) := by decide +kernel
theorem dX10_step_4 : decode cX10_step 4 = .ok (.iload_n 1, 1) := by decide +kernel
theorem dX10_step_5 : decode cX10_step 5 = .ok (.iadd, 1) := by decide +kernel
theorem dX10_step_6 : decode cX10_step 6 = .ok (.bipush 30, 2) := by decide +kernel
theorem dX10_step_8 : decode cX10_step 8 = .ok (.irem, 1) := by decide +kernel
theorem dX10_step_9 : decode cX10_step 9 = .ok (.istore_n 2, 1) := by decide +kernel
theorem dX10_step_10 : decode cX10_step 10 = .ok (.iload_n 2, 1) := by decide +kernel
theorem dX10_step_11 : decode cX10_step 11 = .ok (.iconst 0, 1) := by decide +kernel
theorem dX10_step_12 : decode cX10_step 12 = .ok (.aload_n 0, 1) := by decide +kernel
theorem dX10_step_13 : decode cX10_step 13 = .ok (.getfield 26, 3) := by decide +kernel
theorem dX10_step_16 : decode cX10_step 16 = .ok (.arraylength, 1) := by decide +kernel
theorem dX10_step_17 : decode cX10_step 17 = .ok (.iconst 1, 1) := by decide +kernel
theorem dX10_step_18 : decode cX10_step 18 = .ok (.isub, 1) := by decide +kernel
theorem dX10_step_19 : decode cX10_step 19 = .ok (.invokestatic 53, 3) := by decide +kernel
theorem dX10_step_22 : decode cX10_step 22 = .ok (.ifCond .eq 12, 3) := by decide +kernel
theorem dX10_step_25 : decode cX10_step 25 = .ok (.aload_n 0, 1) := by decide +kernel
theorem dX10_step_26 : decode cX10_step 26 = .ok (.getfield 26, 3) := by decide +kernel
theorem dX10_step_29 : decode cX10_step 29 = .ok (.iload_n 2, 1) := by decide +kernel
theorem dX10_step_30 : decode cX10_step 30 = .ok (.aaload, 1) := by decide +kernel
theorem dX10_step_31 : decode cX10_step 31 = .ok (.goto 4, 3) := by decide +kernel
theorem dX10_step_34 : decode cX10_step 34 = .ok (.aconst_null, 1) := by decide +kernel
theorem dX10_step_35 : decode cX10_step 35 = .ok (.areturn, 1) := by decide +kernel
theorem dX10_takeBack_0 : decode cX10_takeBack 0 = .ok (.aload_n 0, 1) := by decide +kernel
theorem dX10_takeBack_1 : decode cX10_takeBack 1 = .ok (.getfield 43, 3) := by decide +kernel
theorem dX10_takeBack_4 : decode cX10_takeBack 4 = .ok (.ifCond .ne 5, 3) := by decide +kernel
theorem dX10_takeBack_7 : decode cX10_takeBack 7 = .ok (.iconst 0, 1) := by decide +kernel
theorem dX10_takeBack_8 : decode cX10_takeBack 8 = .ok (.ireturn, 1) := by decide +kernel
theorem dX10_takeBack_9 : decode cX10_takeBack 9 = .ok (.aload_n 0, 1) := by decide +kernel
theorem dX10_takeBack_10 : decode cX10_takeBack 10 = .ok (.dup, 1) := by decide +kernel
theorem dX10_takeBack_11 : decode cX10_takeBack 11 = .ok (.getfield 43, 3) := by decide +kernel
theorem dX10_takeBack_14 : decode cX10_takeBack 14 = .ok (.iconst 1, 1) := by decide +kernel
theorem dX10_takeBack_15 : decode cX10_takeBack 15 = .ok (.isub, 1) := by decide +kernel
theorem dX10_takeBack_16 : decode cX10_takeBack 16 = .ok (.putfield 43, 3) := by decide +kernel
theorem dX10_takeBack_19 : decode cX10_takeBack 19 = .ok (.aload_n 0, 1) := by decide +kernel
theorem dX10_takeBack_20 : decode cX10_takeBack 20 = .ok (.getfield 12, 3) := by decide +kernel
theorem dX10_takeBack_23 : decode cX10_takeBack 23 = .ok (.getfield 57, 3) := by decide +kernel
theorem dX10_takeBack_26 : decode cX10_takeBack 26 = .ok (.istore_n 2, 1) := by decide +kernel
theorem dX10_takeBack_27 : decode cX10_takeBack 27 = .ok (.aload_n 0, 1) := by decide +kernel
theorem dX10_takeBack_28 : decode cX10_takeBack 28 = .ok (.aload_n 0, 1) := by decide +kernel
theorem dX10_takeBack_29 : decode cX10_takeBack 29 = .ok (.getfield 43, 3) := by decide +kernel
theorem dX10_takeBack_32 : decode cX10_takeBack 32 = .ok (.invokevirtual 49, 3) := by decide +kernel
theorem dX10_takeBack_35 : decode cX10_takeBack 35 = .ok (.astore_n 3, 1) := by decide +kernel
theorem dX10_takeBack_36 : decode cX10_takeBack 36 = .ok (.aload_n 3, 1) := by decide +kernel
theorem dX10_takeBack_37 : decode cX10_takeBack 37 = .ok (.ifnull 11, 3) := by decide +kernel
theorem dX10_takeBack_40 : decode cX10_takeBack 40 = .ok (.aload_n 0, 1) := by decide +kernel
theorem dX10_takeBack_41 : decode cX10_takeBack 41 = .ok (.getfield 12, 3) := by decide +kernel
theorem dX10_takeBack_44 : decode cX10_takeBack 44 = .ok (.aload_n 3, 1) := by decide +kernel
theorem dX10_takeBack_45 : decode cX10_takeBack 45 = .ok (.invokevirtual 30, 3) := by decide +kernel
theorem dX10_takeBack_48 : decode cX10_takeBack 48 = .ok (.aload_n 0, 1) := by decide +kernel
theorem dX10_takeBack_49 : decode cX10_takeBack 49 = .ok (.getfield 12, 3) := by decide +kernel
theorem dX10_takeBack_52 : decode cX10_takeBack 52 = .ok (.getfield 57, 3) := by decide +kernel
theorem dX10_takeBack_55 : decode cX10_takeBack 55 = .ok (.istore 4, 2) := by decide +kernel
theorem dX10_takeBack_57 : decode cX10_takeBack 57 = .ok (.iload 4, 2) := by decide +kernel
theorem dX10_takeBack_59 : decode cX10_takeBack 59 = .ok (.iload_n 2, 1) := by decide +kernel
theorem dX10_takeBack_60 : decode cX10_takeBack 60 = .ok (.if_icmp .ge 17, 3) := by decide +kernel
theorem dX10_takeBack_63 : decode cX10_takeBack 63 = .ok (.aload_n 0, 1) := by decide +kernel
theorem dX10_takeBack_64 : decode cX10_takeBack 64 = .ok (.getfield 12, 3) := by decide +kernel
theorem dX10_takeBack_67 : decode cX10_takeBack 67 = .ok (.aload_n 1, 1) := by decide +kernel
theorem dX10_takeBack_68 : decode cX10_takeBack 68 = .ok (.invokevirtual 60, 3) := by decide +kernel
theorem dX10_takeBack_71 : decode cX10_takeBack 71 = .ok (.iinc 4 1, 3) := by decide +kernel
theorem dX10_takeBack_74 : decode cX10_takeBack 74 = .ok (.goto (-17), 3) := by decide +kernel
theorem dX10_takeBack_77 : decode cX10_takeBack 77 = .ok (.iconst 1, 1) := by decide +kernel
theorem dX10_takeBack_78 : decode cX10_takeBack 78 = .ok (.ireturn, 1) := by decide +kernel
theorem dX11_init_0 : decode cX11_init 0 = .ok (.aload_n 0, 1) := by decide +kernel
theorem dX11_init_1 : decode cX11_init 1 = .ok (.invokespecial 1, 3) := by decide +kernel
theorem dX11_init_4 : decode cX11_init 4 = .ok (.aload_n 0, 1) := by decide +kernel
theorem dX11_init_5 : decode cX11_init 5 = .ok (.new 7, 3) := by decide +kernel
theorem dX11_init_8 : decode cX11_init 8 = .ok (.dup, 1) := by decide +kernel
theorem dX11_init_9 : decode cX11_init 9 = .ok (.invokespecial 9, 3) := by decide +kernel
theorem dX11_init_12 : decode cX11_init 12 = .ok (.putfield 10, 3) := by decide +kernel
theorem dX11_init_15 : decode cX11_init 15 = .ok (.aload_n 0, 1) := by decide +kernel
theorem dX11_init_16 : decode cX11_init 16 = .ok (.new 16, 3) := by decide +kernel
theorem dX11_init_19 : decode cX11_init 19 = .ok (.dup, 1) := by decide +kernel
theorem dX11_init_20 : decode cX11_init 20 = .ok (.invokespecial 18, 3) := by decide +kernel
theorem dX11_init_23 : decode cX11_init 23 = .ok (.putfield 19, 3) := by decide +kernel
theorem dX11_init_26 : decode cX11_init 26 = .ok (.aload_n 0, 1) := by decide +kernel
theorem dX11_init_27 : decode cX11_init 27 = .ok (.new 16, 3) := by decide +kernel
theorem dX11_init_30 : decode cX11_init 30 = .ok (.dup, 1) := by decide +kernel
theorem dX11_init_31 : decode cX11_init 31 = .ok (.invokespecial 18, 3) := by decide +kernel
theorem dX11_init_34 : decode cX11_init 34 = .ok (.putfield 23, 3) := by decide +kernel
theorem dX11_init_37 : decode cX11_init 37 = .ok (.aload_n 0, 1) := by decide +kernel
theorem dX11_init_38 : decode cX11_init 38 = .ok (.new 26, 3) := by decide +kernel
theorem dX11_init_41 : decode cX11_init 41 = .ok (.dup, 1) := by decide +kernel
theorem dX11_init_42 : decode cX11_init 42 = .ok (.invokespecial 28, 3) := by decide +kernel
theorem dX11_init_45 : decode cX11_init 45 = .ok (.putfield 29, 3) := by decide +kernel
theorem dX11_init_48 : decode cX11_init 48 = .ok (.aload_n 0, 1) := by decide +kernel
theorem dX11_init_49 : decode cX11_init 49 = .ok (.iconst 4, 1) := by decide +kernel
theorem dX11_init_50 : decode cX11_init 50 = .ok (.anewarray 26, 3) := by decide +kernel
theorem dX11_init_53 : decode cX11_init 53 = .ok (.putfield 33, 3) := by decide +kernel
theorem dX11_init_56 : decode cX11_init 56 = .ok (.aload_n 0, 1) := by decide +kernel
theorem dX11_init_57 : decode cX11_init 57 = .ok (.new 37, 3) := by decide +kernel
theorem dX11_init_60 : decode cX11_init 60 = .ok (.dup, 1) := by decide +kernel
theorem dX11_init_61 : decode cX11_init 61 = .ok (.aload_n 0, 1) := by decide +kernel
theorem dX11_init_62 : decode cX11_init 62 = .ok (.getfield 10, 3) := by decide +kernel
theorem dX11_init_65 : decode cX11_init 65 = .ok (.aload_n 0, 1) := by decide +kernel
theorem dX11_init_66 : decode cX11_init 66 = .ok (.getfield 19, 3) := by decide +kernel
theorem dX11_init_69 : decode cX11_init 69 = .ok (.getfield 39, 3) := by decide +kernel
theorem dX11_init_72 : decode cX11_init 72 = .ok (.aload_n 0, 1) := by decide +kernel
theorem dX11_init_73 : decode cX11_init 73 = .ok (.getfield 29, 3) := by decide +kernel
theorem dX11_init_76 : decode cX11_init 76 = .ok (.invokespecial 43, 3) := by decide +kernel
theorem dX11_init_79 : decode cX11_init 79 = .ok (.putfield 46, 3) := by decide +kernel
theorem dX11_init_82 : decode cX11_init 82 = .ok (.aload_n 0, 1) := by decide +kernel
theorem dX11_init_83 : decode cX11_init 83 = .ok (.new 37, 3) := by decide +kernel
theorem dX11_init_86 : decode cX11_init 86 = .ok (.dup, 1) := by decide +kernel
theorem dX11_init_87 : decode cX11_init 87 = .ok (.aload_n 0, 1) := by decide +kernel
theorem dX11_init_88 : decode cX11_init 88 = .ok (.getfield 10, 3) := by decide +kernel
theorem dX11_init_91 : decode cX11_init 91 = .ok (.new 50, 3) := by decide +kernel
theorem dX11_init_94 : decode cX11_init 94 = .ok (.dup, 1) := by decide +kernel
theorem dX11_init_95 : decode cX11_init 95 = .ok (.invokespecial 52, 3) := by decide +kernel
theorem dX11_init_98 : decode cX11_init 98 = .ok (.aload_n 0, 1) := by decide +kernel
theorem dX11_init_99 : decode cX11_init 99 = .ok (.getfield 29, 3) := by decide +kernel
theorem dX11_init_102 : decode cX11_init 102 = .ok (.invokespecial 43, 3) := by decide +kernel
theorem dX11_init_105 : decode cX11_init 105 = .ok (.putfield 53, 3) := by decide +kernel
theorem dX11_init_108 : decode cX11_init 108 = .ok (.aload_n 0, 1) := by decide +kernel
theorem dX11_init_109 : decode cX11_init 109 = .ok (.new 56, 3) := by decide +kernel
theorem dX11_init_112 : decode cX11_init 112 = .ok (.dup, 1) := by decide +kernel
theorem dX11_init_113 : decode cX11_init 113 = .ok (.invokespecial 58, 3) := by decide +kernel
theorem dX11_init_116 : decode cX11_init 116 = .ok (.putfield 59, 3) := by decide +kernel
theorem dX11_init_119 : decode cX11_init 119 = .ok (.aload_n 0, 1) := by decide +kernel
theorem dX11_init_120 : decode cX11_init 120 = .ok (.new 63, 3) := by decide +kernel
theorem dX11_init_123 : decode cX11_init 123 = .ok (.dup, 1) := by decide +kernel
theorem dX11_init_124 : decode cX11_init 124 = .ok (.aload_n 0, 1) := by decide +kernel
theorem dX11_init_125 : decode cX11_init 125 = .ok (.getfield 59, 3) := by decide +kernel
theorem dX11_init_128 : decode cX11_init 128 = .ok (.invokespecial 65, 3) := by decide +kernel
theorem dX11_init_131 : decode cX11_init 131 = .ok (.putfield 68, 3) := by decide +kernel
theorem dX11_init_134 : decode cX11_init 134 = .ok (.aload_n 0, 1) := by decide +kernel
theorem dX11_init_135 : decode cX11_init 135 = .ok (.new 72, 3) := by decide +kernel
theorem dX11_init_138 : decode cX11_init 138 = .ok (.dup, 1) := by decide +kernel
theorem dX11_init_139 : decode cX11_init 139 = .ok (.invokespecial 74, 3) := by decide +kernel
theorem dX11_init_142 : decode cX11_init 142 = .ok (.putfield 75, 3) := by decide +kernel
theorem dX11_init_145 : decode cX11_init 145 = .ok (.aload_n 0, 1) := by decide +kernel
theorem dX11_init_146 : decode cX11_init 146 = .ok (.new 79, 3) := by decide +kernel
theorem dX11_init_149 : decode cX11_init 149 = .ok (.dup, 1) := by decide +kernel
theorem dX11_init_150 : decode cX11_init 150 = .ok (.invokespecial 81, 3) := by decide +kernel
theorem dX11_init_153 : decode cX11_init 153 = .ok (.putfield 82, 3) := by decide +kernel
theorem dX11_init_156 : decode cX11_init 156 = .ok (.aload_n 0, 1) := by decide +kernel
theorem dX11_init_157 : decode cX11_init 157 = .ok (.new 86, 3) := by decide +kernel
theorem dX11_init_160 : decode cX11_init 160 = .ok (.dup, 1) := by decide +kernel
theorem dX11_init_161 : decode cX11_init 161 = .ok (.invokespecial 88, 3) := by decide +kernel
theorem dX11_init_164 : decode cX11_init 164 = .ok (.putfield 89, 3) := by decide +kernel
theorem dX11_init_167 : decode cX11_init 167 = .ok (.iconst 0, 1) := by decide +kernel
theorem dX11_init_168 : decode cX11_init 168 = .ok (.istore_n 1, 1) := by decide +kernel
theorem dX11_init_169 : decode cX11_init 169 = .ok (.iload_n 1, 1) := by decide +kernel
theorem dX11_init_170 : decode cX11_init 170 = .ok (.aload_n 0, 1) := by decide +kernel
theorem dX11_init_171 : decode cX11_init 171 = .ok (.getfield 33, 3) := by decide +kernel
theorem dX11_init_174 : decode cX11_init 174 = .ok (.arraylength, 1) := by decide +kernel
theorem dX11_init_175 : decode cX11_init 175 = .ok (.if_icmp .ge 22, 3) := by decide +kernel
theorem dX11_init_178 : decode cX11_init 178 = .ok (.aload_n 0, 1) := by decide +kernel
theorem dX11_init_179 : decode cX11_init 179 = .ok (.getfield 33, 3) := by decide +kernel
theorem dX11_init_182 : decode cX11_init 182 = .ok (.iload_n 1, 1) := by decide +kernel
theorem dX11_init_183 : decode cX11_init 183 = .ok (.new 26, 3) := by decide +kernel
theorem dX11_init_186 : decode cX11_init 186 = .ok (.dup, 1) := by decide +kernel
theorem dX11_init_187 : decode cX11_init 187 = .ok (.invokespecial 28, 3) := by decide +kernel
theorem dX11_init_190 : decode cX11_init 190 = .ok (.aastore, 1) := by decide +kernel
theorem dX11_init_191 : decode cX11_init 191 = .ok (.iinc 1 1, 3) := by decide +kernel
theorem dX11_init_194 : decode cX11_init 194 = .ok (.goto (-25), 3) := by decide +kernel
theorem dX11_init_197 : decode cX11_init 197 = .ok (.return_, 1) := by decide +kernel
theorem dX11_person_0 : decode cX11_person 0 = .ok (.iload_n 1, 1) := by decide +kernel
theorem dX11_person_1 : decode cX11_person 1 = .ok (.iconst 0, 1) := by decide +kernel
theorem dX11_person_2 : decode cX11_person 2 = .ok (.bipush 99, 2) := by decide +kernel
theorem dX11_person_4 : decode cX11_person 4 = .ok (.invokestatic 93, 3) := by decide +kernel
theorem dX11_person_7 : decode cX11_person 7 = .ok (.ifCond .eq 27, 3) := by decide +kernel
theorem dX11_person_10 : decode cX11_person 10 = .ok (.iload_n 2, 1) := by decide +kernel
theorem dX11_person_11 : decode cX11_person 11 = .ok (.iconst 0, 1) := by decide +kernel
theorem dX11_person_12 : decode cX11_person 12 = .ok (.bipush 99, 2) := by decide +kernel
theorem dX11_person_14 : decode cX11_person 14 = .ok (.invokestatic 93, 3) := by decide +kernel
theorem dX11_person_17 : decode cX11_person 17 = .ok (.ifCond .eq 17, 3) := by decide +kernel
theorem dX11_person_20 : decode cX11_person 20 = .ok (.iload_n 3, 1) := by decide +kernel
theorem dX11_person_21 : decode cX11_person 21 = .ok (.iconst 0, 1) := by decide +kernel
theorem dX11_person_22 : decode cX11_person 22 = .ok (.bipush 7, 2) := by decide +kernel
theorem dX11_person_24 : decode cX11_person 24 = .ok (.invokestatic 93, 3) := by decide +kernel
theorem dX11_person_27 : decode cX11_person 27 = .ok (.ifCond .eq 7, 3) := by decide +kernel
theorem dX11_person_30 : decode cX11_person 30 = .ok (.iconst 1, 1) := by decide +kernel
theorem dX11_person_31 : decode cX11_person 31 = .ok (.goto 4, 3) := by decide +kernel
theorem dX11_person_34 : decode cX11_person 34 = .ok (.iconst 0, 1) := by decide +kernel
theorem dX11_person_35 : decode cX11_person 35 = .ok (.istore 4, 2) := by decide +kernel
theorem dX11_person_37 : decode cX11_person 37 = .ok (.aload_n 0, 1) := by decide +kernel
theorem dX11_person_38 : decode cX11_person 38 = .ok (.getfield 19, 3) := by decide +kernel
theorem dX11_person_41 : decode cX11_person 41 = .ok (.getfield 39, 3) := by decide +kernel
theorem dX11_person_44 : decode cX11_person 44 = .ok (.getfield 97, 3) := by decide +kernel
theorem dX11_person_47 : decode cX11_person 47 = .ok (.istore 5, 2) := by decide +kernel
theorem dX11_person_49 : decode cX11_person 49 = .ok (.iload 4, 2) := by decide +kernel
theorem dX11_person_51 : decode cX11_person 51 = .ok (.ifCond .eq 10, 3) := by decide +kernel
theorem dX11_person_54 : decode cX11_person 54 = .ok (.iload 5, 2) := by decide +kernel
theorem dX11_person_56 : decode cX11_person 56 = .ok (.bipush 7, 2) := by decide +kernel
theorem dX11_person_58 : decode cX11_person 58 = .ok (.if_icmp .lt 5, 3) := by decide +kernel
theorem dX11_person_61 : decode cX11_person 61 = .ok (.iconst (-1), 1) := by decide +kernel
theorem dX11_person_62 : decode cX11_person 62 = .ok (.ireturn, 1) := by decide +kernel
theorem dX11_person_63 : decode cX11_person 63 = .ok (.aload_n 0, 1) := by decide +kernel
theorem dX11_person_64 : decode cX11_person 64 = .ok (.getfield 10, 3) := by decide +kernel
theorem dX11_person_67 : decode cX11_person 67 = .ok (.iload 5, 2) := by decide +kernel
theorem dX11_person_69 : decode cX11_person 69 = .ok (.iload_n 1, 1) := by decide +kernel
theorem dX11_person_70 : decode cX11_person 70 = .ok (.iload_n 2, 1) := by decide +kernel
theorem dX11_person_71 : decode cX11_person 71 = .ok (.iload_n 3, 1) := by decide +kernel
theorem dX11_person_72 : decode cX11_person 72 = .ok (.invokevirtual 101, 3) := by decide +kernel
theorem dX11_person_75 : decode cX11_person 75 = .ok (.aload_n 0, 1) := by decide +kernel
theorem dX11_person_76 : decode cX11_person 76 = .ok (.getfield 19, 3) := by decide +kernel
theorem dX11_person_79 : decode cX11_person 79 = .ok (.getfield 39, 3) := by decide +kernel
theorem dX11_person_82 : decode cX11_person 82 = .ok (.aload_n 0, 1) := by decide +kernel
theorem dX11_person_83 : decode cX11_person 83 = .ok (.getfield 10, 3) := by decide +kernel
theorem dX11_person_86 : decode cX11_person 86 = .ok (.invokevirtual 105, 3) := by decide +kernel
theorem dX11_person_89 : decode cX11_person 89 = .ok (.iload 5, 2) := by decide +kernel
theorem dX11_person_91 : decode cX11_person 91 = .ok (.ireturn, 1) := by decide +kernel
theorem dX11_bow_0 : decode cX11_bow 0 = .ok (.aload_n 0, 1) := by decide +kernel
theorem dX11_bow_1 : decode cX11_bow 1 = .ok (.getfield 46, 3) := by decide +kernel
theorem dX11_bow_4 : decode cX11_bow 4 = .ok (.iload_n 1, 1) := by decide +kernel
theorem dX11_bow_5 : decode cX11_bow 5 = .ok (.iload_n 2, 1) := by decide +kernel
theorem dX11_bow_6 : decode cX11_bow 6 = .ok (.invokevirtual 109, 3) := by decide +kernel
theorem dX11_bow_9 : decode cX11_bow 9 = .ok (.ifCond .ne 5, 3) := by decide +kernel
theorem dX11_bow_12 : decode cX11_bow 12 = .ok (.iconst (-1), 1) := by decide +kernel
theorem dX11_bow_13 : decode cX11_bow 13 = .ok (.ireturn, 1) := by decide +kernel
theorem dX11_bow_14 : decode cX11_bow 14 = .ok (.aload_n 0, 1) := by decide +kernel
theorem dX11_bow_15 : decode cX11_bow 15 = .ok (.getfield 19, 3) := by decide +kernel
theorem dX11_bow_18 : decode cX11_bow 18 = .ok (.invokevirtual 113, 3) := by decide +kernel
theorem dX11_bow_21 : decode cX11_bow 21 = .ok (.aload_n 0, 1) := by decide +kernel
theorem dX11_bow_22 : decode cX11_bow 22 = .ok (.getfield 46, 3) := by decide +kernel
theorem dX11_bow_25 : decode cX11_bow 25 = .ok (.iload_n 1, 1) := by decide +kernel
theorem dX11_bow_26 : decode cX11_bow 26 = .ok (.iload_n 2, 1) := by decide +kernel
theorem dX11_bow_27 : decode cX11_bow 27 = .ok (.invokevirtual 116, 3) := by decide +kernel
theorem dX11_bow_30 : decode cX11_bow 30 = .ok (.aload_n 0, 1) := by decide +kernel
theorem dX11_bow_31 : decode cX11_bow 31 = .ok (.getfield 19, 3) := by decide +kernel
theorem dX11_bow_34 : decode cX11_bow 34 = .ok (.getfield 39, 3) := by decide +kernel
theorem dX11_bow_37 : decode cX11_bow 37 = .ok (.iload_n 1, 1) := by decide +kernel
theorem dX11_bow_38 : decode cX11_bow 38 = .ok (.invokevirtual 120, 3) := by decide +kernel
theorem dX11_bow_41 : decode cX11_bow 41 = .ok (.ireturn, 1) := by decide +kernel
theorem dX11_owe_0 : decode cX11_owe 0 = .ok (.aload_n 0, 1) := by decide +kernel
theorem dX11_owe_1 : decode cX11_owe 1 = .ok (.getfield 19, 3) := by decide +kernel
theorem dX11_owe_4 : decode cX11_owe 4 = .ok (.getfield 39, 3) := by decide +kernel
theorem dX11_owe_7 : decode cX11_owe 7 = .ok (.astore 4, 2) := by decide +kernel
theorem dX11_owe_9 : decode cX11_owe 9 = .ok (.aload 4, 2) := by decide +kernel
theorem dX11_owe_11 : decode cX11_owe 11 = .ok (.iload_n 1, 1) := by decide +kernel
theorem dX11_owe_12 : decode cX11_owe 12 = .ok (.iload_n 2, 1) := by decide +kernel
theorem dX11_owe_13 : decode cX11_owe 13 = .ok (.invokevirtual 124, 3) := by decide +kernel
theorem dX11_owe_16 : decode cX11_owe 16 = .ok (.ifCond .eq 18, 3) := by decide +kernel
theorem dX11_owe_19 : decode cX11_owe 19 = .ok (.iload_n 3, 1) := by decide +kernel
theorem dX11_owe_20 : decode cX11_owe 20 = .ok (.iconst 0, 1) := by decide +kernel
theorem dX11_owe_21 : decode cX11_owe 21 = .ok (.sipush 9999, 3) := by decide +kernel
theorem dX11_owe_24 : decode cX11_owe 24 = .ok (.invokestatic 93, 3) := by decide +kernel
theorem dX11_owe_27 : decode cX11_owe 27 = .ok (.ifCond .eq 7, 3) := by decide +kernel
theorem dX11_owe_30 : decode cX11_owe 30 = .ok (.iconst 1, 1) := by decide +kernel
theorem dX11_owe_31 : decode cX11_owe 31 = .ok (.goto 4, 3) := by decide +kernel
theorem dX11_owe_34 : decode cX11_owe 34 = .ok (.iconst 0, 1) := by decide +kernel
theorem dX11_owe_35 : decode cX11_owe 35 = .ok (.istore 5, 2) := by decide +kernel
theorem dX11_owe_37 : decode cX11_owe 37 = .ok (.iload 5, 2) := by decide +kernel
theorem dX11_owe_39 : decode cX11_owe 39 = .ok (.ifCond .eq 14, 3) := by decide +kernel
theorem dX11_owe_42 : decode cX11_owe 42 = .ok (.aload 4, 2) := by decide +kernel
theorem dX11_owe_44 : decode cX11_owe 44 = .ok (.iload_n 1, 1) := by decide +kernel
theorem dX11_owe_45 : decode cX11_owe 45 = .ok (.iload_n 2, 1) := by decide +kernel
theorem dX11_owe_46 : decode cX11_owe 46 = .ok (.invokevirtual 127, 3) := by decide +kernel
theorem dX11_owe_49 : decode cX11_owe 49 = .ok (.iload_n 3, 1) := by decide +kernel
theorem dX11_owe_50 : decode cX11_owe 50 = .ok (.if_icmp .ne 5, 3) := by decide +kernel
theorem dX11_owe_53 : decode cX11_owe 53 = .ok (.iconst 0, 1) := by decide +kernel
theorem dX11_owe_54 : decode cX11_owe 54 = .ok (.ireturn, 1) := by decide +kernel
theorem dX11_owe_55 : decode cX11_owe 55 = .ok (.aload_n 0, 1) := by decide +kernel
theorem dX11_owe_56 : decode cX11_owe 56 = .ok (.getfield 19, 3) := by decide +kernel
theorem dX11_owe_59 : decode cX11_owe 59 = .ok (.invokevirtual 113, 3) := by decide +kernel
theorem dX11_owe_62 : decode cX11_owe 62 = .ok (.aload 4, 2) := by decide +kernel
theorem dX11_owe_64 : decode cX11_owe 64 = .ok (.iload_n 1, 1) := by decide +kernel
theorem dX11_owe_65 : decode cX11_owe 65 = .ok (.iload_n 2, 1) := by decide +kernel
theorem dX11_owe_66 : decode cX11_owe 66 = .ok (.iload_n 3, 1) := by decide +kernel
theorem dX11_owe_67 : decode cX11_owe 67 = .ok (.invokevirtual 131, 3) := by decide +kernel
theorem dX11_owe_70 : decode cX11_owe 70 = .ok (.iconst 1, 1) := by decide +kernel
theorem dX11_owe_71 : decode cX11_owe 71 = .ok (.ireturn, 1) := by decide +kernel
theorem dX11_walk_0 : decode cX11_walk 0 = .ok (.aload_n 0, 1) := by decide +kernel
theorem dX11_walk_1 : decode cX11_walk 1 = .ok (.getfield 19, 3) := by decide +kernel
theorem dX11_walk_4 : decode cX11_walk 4 = .ok (.getfield 39, 3) := by decide +kernel
theorem dX11_walk_7 : decode cX11_walk 7 = .ok (.astore_n 3, 1) := by decide +kernel
theorem dX11_walk_8 : decode cX11_walk 8 = .ok (.aload_n 3, 1) := by decide +kernel
theorem dX11_walk_9 : decode cX11_walk 9 = .ok (.iload_n 1, 1) := by decide +kernel
theorem dX11_walk_10 : decode cX11_walk 10 = .ok (.invokevirtual 135, 3) := by decide +kernel
theorem dX11_walk_13 : decode cX11_walk 13 = .ok (.ifCond .eq 13, 3) := by decide +kernel
theorem dX11_walk_16 : decode cX11_walk 16 = .ok (.iload_n 2, 1) := by decide +kernel
theorem dX11_walk_17 : decode cX11_walk 17 = .ok (.iconst 1, 1) := by decide +kernel
theorem dX11_walk_18 : decode cX11_walk 18 = .ok (.if_icmp .eq 10, 3) := by decide +kernel
theorem dX11_walk_21 : decode cX11_walk 21 = .ok (.iload_n 2, 1) := by decide +kernel
theorem dX11_walk_22 : decode cX11_walk 22 = .ok (.iconst (-1), 1) := by decide +kernel
theorem dX11_walk_23 : decode cX11_walk 23 = .ok (.if_icmp .eq 5, 3) := by decide +kernel
theorem dX11_walk_26 : decode cX11_walk 26 = .ok (.iconst (-1), 1) := by decide +kernel
theorem dX11_walk_27 : decode cX11_walk 27 = .ok (.ireturn, 1) := by decide +kernel
theorem dX11_walk_28 : decode cX11_walk 28 = .ok (.aload_n 0, 1) := by decide +kernel
theorem dX11_walk_29 : decode cX11_walk 29 = .ok (.getfield 19, 3) := by decide +kernel
theorem dX11_walk_32 : decode cX11_walk 32 = .ok (.invokevirtual 113, 3) := by decide +kernel
theorem dX11_walk_35 : decode cX11_walk 35 = .ok (.aload_n 3, 1) := by decide +kernel
theorem dX11_walk_36 : decode cX11_walk 36 = .ok (.iload_n 1, 1) := by decide +kernel
theorem dX11_walk_37 : decode cX11_walk 37 = .ok (.iload_n 2, 1) := by decide +kernel
theorem dX11_walk_38 : decode cX11_walk 38 = .ok (.invokevirtual 139, 3) := by decide +kernel
theorem dX11_walk_41 : decode cX11_walk 41 = .ok (.aload_n 3, 1) := by decide +kernel
theorem dX11_walk_42 : decode cX11_walk 42 = .ok (.iload_n 1, 1) := by decide +kernel
theorem dX11_walk_43 : decode cX11_walk 43 = .ok (.invokevirtual 142, 3) := by decide +kernel
theorem dX11_walk_46 : decode cX11_walk 46 = .ok (.ireturn, 1) := by decide +kernel
theorem dX11_feast_0 : decode cX11_feast 0 = .ok (.aload_n 0, 1) := by decide +kernel
theorem dX11_feast_1 : decode cX11_feast 1 = .ok (.getfield 19, 3) := by decide +kernel
theorem dX11_feast_4 : decode cX11_feast 4 = .ok (.invokevirtual 113, 3) := by decide +kernel
theorem dX11_feast_7 : decode cX11_feast 7 = .ok (.aload_n 0, 1) := by decide +kernel
theorem dX11_feast_8 : decode cX11_feast 8 = .ok (.getfield 19, 3) := by decide +kernel
theorem dX11_feast_11 : decode cX11_feast 11 = .ok (.getfield 39, 3) := by decide +kernel
theorem dX11_feast_14 : decode cX11_feast 14 = .ok (.invokevirtual 145, 3) := by decide +kernel
theorem dX11_feast_17 : decode cX11_feast 17 = .ok (.ireturn, 1) := by decide +kernel
theorem dX11_clear_0 : decode cX11_clear 0 = .ok (.aload_n 0, 1) := by decide +kernel
theorem dX11_clear_1 : decode cX11_clear 1 = .ok (.getfield 19, 3) := by decide +kernel
theorem dX11_clear_4 : decode cX11_clear 4 = .ok (.getfield 39, 3) := by decide +kernel
theorem dX11_clear_7 : decode cX11_clear 7 = .ok (.iload_n 1, 1) := by decide +kernel
theorem dX11_clear_8 : decode cX11_clear 8 = .ok (.iload_n 2, 1) := by decide +kernel
theorem dX11_clear_9 : decode cX11_clear 9 = .ok (.iload_n 3, 1) := by decide +kernel
theorem dX11_clear_10 : decode cX11_clear 10 = .ok (.invokevirtual 149, 3) := by decide +kernel
theorem dX11_clear_13 : decode cX11_clear 13 = .ok (.istore 4, 2) := by decide +kernel
theorem dX11_clear_15 : decode cX11_clear 15 = .ok (.iload 4, 2) := by decide +kernel
theorem dX11_clear_17 : decode cX11_clear 17 = .ok (.ifCond .ne 5, 3) := by decide +kernel
theorem dX11_clear_20 : decode cX11_clear 20 = .ok (.iconst (-1), 1) := by decide +kernel
theorem dX11_clear_21 : decode cX11_clear 21 = .ok (.ireturn, 1) := by decide +kernel
theorem dX11_clear_22 : decode cX11_clear 22 = .ok (.aload_n 0, 1) := by decide +kernel
theorem dX11_clear_23 : decode cX11_clear 23 = .ok (.getfield 19, 3) := by decide +kernel
theorem dX11_clear_26 : decode cX11_clear 26 = .ok (.invokevirtual 113, 3) := by decide +kernel
theorem dX11_clear_29 : decode cX11_clear 29 = .ok (.aload_n 0, 1) := by decide +kernel
theorem dX11_clear_30 : decode cX11_clear 30 = .ok (.getfield 19, 3) := by decide +kernel
theorem dX11_clear_33 : decode cX11_clear 33 = .ok (.getfield 39, 3) := by decide +kernel
theorem dX11_clear_36 : decode cX11_clear 36 = .ok (.iload_n 1, 1) := by decide +kernel
theorem dX11_clear_37 : decode cX11_clear 37 = .ok (.iload_n 2, 1) := by decide +kernel
theorem dX11_clear_38 : decode cX11_clear 38 = .ok (.iload_n 3, 1) := by decide +kernel
theorem dX11_clear_39 : decode cX11_clear 39 = .ok (.iload 4, 2) := by decide +kernel
theorem dX11_clear_41 : decode cX11_clear 41 = .ok (.invokevirtual 153, 3) := by decide +kernel
theorem dX11_clear_44 : decode cX11_clear 44 = .ok (.iload 4, 2) := by decide +kernel
theorem dX11_clear_46 : decode cX11_clear 46 = .ok (.ireturn, 1) := by decide +kernel
theorem dX11_hour_0 : decode cX11_hour 0 = .ok (.iload_n 1, 1) := by decide +kernel
theorem dX11_hour_1 : decode cX11_hour 1 = .ok (.iconst 1, 1) := by decide +kernel
theorem dX11_hour_2 : decode cX11_hour 2 = .ok (.bipush 60, 2) := by decide +kernel
theorem dX11_hour_4 : decode cX11_hour 4 = .ok (.aload_n 0, 1) := by decide +kernel
theorem dX11_hour_5 : decode cX11_hour 5 = .ok (.getfield 19, 3) := by decide +kernel
theorem dX11_hour_8 : decode cX11_hour 8 = .ok (.getfield 39, 3) := by decide +kernel
theorem dX11_hour_11 : decode cX11_hour 11 = .ok (.invokevirtual 156, 3) := by decide +kernel
theorem dX11_hour_14 : decode cX11_hour 14 = .ok (.invokestatic 159, 3) := by decide +kernel
theorem dX11_hour_17 : decode cX11_hour 17 = .ok (.invokestatic 93, 3) := by decide +kernel
theorem dX11_hour_20 : decode cX11_hour 20 = .ok (.ifCond .ne 5, 3) := by decide +kernel
theorem dX11_hour_23 : decode cX11_hour 23 = .ok (.iconst (-1), 1) := by decide +kernel
theorem dX11_hour_24 : decode cX11_hour 24 = .ok (.ireturn, 1) := by decide +kernel
theorem dX11_hour_25 : decode cX11_hour 25 = .ok (.iconst 0, 1) := by decide +kernel
theorem dX11_hour_26 : decode cX11_hour 26 = .ok (.istore_n 2, 1) := by decide +kernel
theorem dX11_hour_27 : decode cX11_hour 27 = .ok (.iconst 0, 1) := by decide +kernel
theorem dX11_hour_28 : decode cX11_hour 28 = .ok (.istore_n 3, 1) := by decide +kernel
theorem dX11_hour_29 : decode cX11_hour 29 = .ok (.iload_n 3, 1) := by decide +kernel
theorem dX11_hour_30 : decode cX11_hour 30 = .ok (.iload_n 1, 1) := by decide +kernel
theorem dX11_hour_31 : decode cX11_hour 31 = .ok (.if_icmp .ge 26, 3) := by decide +kernel
theorem dX11_hour_34 : decode cX11_hour 34 = .ok (.aload_n 0, 1) := by decide +kernel
theorem dX11_hour_35 : decode cX11_hour 35 = .ok (.getfield 19, 3) := by decide +kernel
theorem dX11_hour_38 : decode cX11_hour 38 = .ok (.invokevirtual 113, 3) := by decide +kernel
theorem dX11_hour_41 : decode cX11_hour 41 = .ok (.iload_n 2, 1) := by decide +kernel
theorem dX11_hour_42 : decode cX11_hour 42 = .ok (.aload_n 0, 1) := by decide +kernel
theorem dX11_hour_43 : decode cX11_hour 43 = .ok (.getfield 46, 3) := by decide +kernel
theorem dX11_hour_46 : decode cX11_hour 46 = .ok (.invokevirtual 164, 3) := by decide +kernel
theorem dX11_hour_49 : decode cX11_hour 49 = .ok (.iadd, 1) := by decide +kernel
theorem dX11_hour_50 : decode cX11_hour 50 = .ok (.istore_n 2, 1) := by decide +kernel
theorem dX11_hour_51 : decode cX11_hour 51 = .ok (.iinc 3 1, 3) := by decide +kernel
theorem dX11_hour_54 : decode cX11_hour 54 = .ok (.goto (-25), 3) := by decide +kernel
theorem dX11_hour_57 : decode cX11_hour 57 = .ok (.iload_n 2, 1) := by decide +kernel
theorem dX11_hour_58 : decode cX11_hour 58 = .ok (.ireturn, 1) := by decide +kernel
theorem dX11_weeks_0 : decode cX11_weeks 0 = .ok (.aload_n 0, 1) := by decide +kernel
theorem dX11_weeks_1 : decode cX11_weeks 1 = .ok (.getfield 19, 3) := by decide +kernel
theorem dX11_weeks_4 : decode cX11_weeks 4 = .ok (.getfield 39, 3) := by decide +kernel
theorem dX11_weeks_7 : decode cX11_weeks 7 = .ok (.astore_n 3, 1) := by decide +kernel
theorem dX11_weeks_8 : decode cX11_weeks 8 = .ok (.iload_n 1, 1) := by decide +kernel
theorem dX11_weeks_9 : decode cX11_weeks 9 = .ok (.iconst 0, 1) := by decide +kernel
theorem dX11_weeks_10 : decode cX11_weeks 10 = .ok (.sipush 9999, 3) := by decide +kernel
theorem dX11_weeks_13 : decode cX11_weeks 13 = .ok (.invokestatic 93, 3) := by decide +kernel
theorem dX11_weeks_16 : decode cX11_weeks 16 = .ok (.ifCond .eq 20, 3) := by decide +kernel
theorem dX11_weeks_19 : decode cX11_weeks 19 = .ok (.iload_n 2, 1) := by decide +kernel
theorem dX11_weeks_20 : decode cX11_weeks 20 = .ok (.iconst 1, 1) := by decide +kernel
theorem dX11_weeks_21 : decode cX11_weeks 21 = .ok (.bipush 30, 2) := by decide +kernel
theorem dX11_weeks_23 : decode cX11_weeks 23 = .ok (.invokestatic 93, 3) := by decide +kernel
theorem dX11_weeks_26 : decode cX11_weeks 26 = .ok (.ifCond .eq 10, 3) := by decide +kernel
theorem dX11_weeks_29 : decode cX11_weeks 29 = .ok (.aload_n 3, 1) := by decide +kernel
theorem dX11_weeks_30 : decode cX11_weeks 30 = .ok (.getfield 97, 3) := by decide +kernel
theorem dX11_weeks_33 : decode cX11_weeks 33 = .ok (.ifCond .ne 5, 3) := by decide +kernel
theorem dX11_weeks_36 : decode cX11_weeks 36 = .ok (.iconst (-1), 1) := by decide +kernel
theorem dX11_weeks_37 : decode cX11_weeks 37 = .ok (.ireturn, 1) := by decide +kernel
theorem dX11_weeks_38 : decode cX11_weeks 38 = .ok (.aload_n 0, 1) := by decide +kernel
theorem dX11_weeks_39 : decode cX11_weeks 39 = .ok (.getfield 19, 3) := by decide +kernel
theorem dX11_weeks_42 : decode cX11_weeks 42 = .ok (.invokevirtual 113, 3) := by decide +kernel
theorem dX11_weeks_45 : decode cX11_weeks 45 = .ok (.aload_n 3, 1) := by decide +kernel
theorem dX11_weeks_46 : decode cX11_weeks 46 = .ok (.iload_n 1, 1) := by decide +kernel
theorem dX11_weeks_47 : decode cX11_weeks 47 = .ok (.iconst 2, 1) := by decide +kernel
theorem dX11_weeks_48 : decode cX11_weeks 48 = .ok (.imul, 1) := by decide +kernel
theorem dX11_weeks_49 : decode cX11_weeks 49 = .ok (.bipush 97, 2) := by decide +kernel
theorem dX11_weeks_51 : decode cX11_weeks 51 = .ok (.iadd, 1) := by decide +kernel
theorem dX11_weeks_52 : decode cX11_weeks 52 = .ok (.putfield 167, 3) := by decide +kernel
theorem dX11_weeks_55 : decode cX11_weeks 55 = .ok (.iconst 0, 1) := by decide +kernel
theorem dX11_weeks_56 : decode cX11_weeks 56 = .ok (.istore 4, 2) := by decide +kernel
theorem dX11_weeks_58 : decode cX11_weeks 58 = .ok (.iload 4, 2) := by decide +kernel
theorem dX11_weeks_60 : decode cX11_weeks 60 = .ok (.iload_n 2, 1) := by decide +kernel
theorem dX11_weeks_61 : decode cX11_weeks 61 = .ok (.if_icmp .ge 16, 3) := by decide +kernel
theorem dX11_weeks_64 : decode cX11_weeks 64 = .ok (.aload_n 0, 1) := by decide +kernel
theorem dX11_weeks_65 : decode cX11_weeks 65 = .ok (.getfield 46, 3) := by decide +kernel
theorem dX11_weeks_68 : decode cX11_weeks 68 = .ok (.invokevirtual 170, 3) := by decide +kernel
theorem dX11_weeks_71 : decode cX11_weeks 71 = .ok (.iinc 4 1, 3) := by decide +kernel
theorem dX11_weeks_74 : decode cX11_weeks 74 = .ok (.goto (-16), 3) := by decide +kernel
theorem dX11_weeks_77 : decode cX11_weeks 77 = .ok (.aload_n 3, 1) := by decide +kernel
theorem dX11_weeks_78 : decode cX11_weeks 78 = .ok (.getfield 173, 3) := by decide +kernel
theorem dX11_weeks_81 : decode cX11_weeks 81 = .ok (.ireturn, 1) := by decide +kernel
theorem dX11_feed_0 : decode cX11_feed 0 = .ok (.aload_n 0, 1) := by decide +kernel
theorem dX11_feed_1 : decode cX11_feed 1 = .ok (.getfield 59, 3) := by decide +kernel
theorem dX11_feed_4 : decode cX11_feed 4 = .ok (.getfield 176, 3) := by decide +kernel
theorem dX11_feed_7 : decode cX11_feed 7 = .ok (.bipush 20, 2) := by decide +kernel
theorem dX11_feed_9 : decode cX11_feed 9 = .ok (.iadd, 1) := by decide +kernel
theorem dX11_feed_10 : decode cX11_feed 10 = .ok (.sipush 300, 3) := by decide +kernel
theorem dX11_feed_13 : decode cX11_feed 13 = .ok (.if_icmp .le 5, 3) := by decide +kernel
theorem dX11_feed_16 : decode cX11_feed 16 = .ok (.iconst (-1), 1) := by decide +kernel
theorem dX11_feed_17 : decode cX11_feed 17 = .ok (.ireturn, 1) := by decide +kernel
theorem dX11_feed_18 : decode cX11_feed 18 = .ok (.aload_n 0, 1) := by decide +kernel
theorem dX11_feed_19 : decode cX11_feed 19 = .ok (.getfield 59, 3) := by decide +kernel
theorem dX11_feed_22 : decode cX11_feed 22 = .ok (.iload_n 1, 1) := by decide +kernel
theorem dX11_feed_23 : decode cX11_feed 23 = .ok (.invokevirtual 179, 3) := by decide +kernel
theorem dX11_feed_26 : decode cX11_feed 26 = .ok (.aload_n 0, 1) := by decide +kernel
theorem dX11_feed_27 : decode cX11_feed 27 = .ok (.getfield 59, 3) := by decide +kernel
theorem dX11_feed_30 : decode cX11_feed 30 = .ok (.iload_n 2, 1) := by decide +kernel
theorem dX11_feed_31 : decode cX11_feed 31 = .ok (.invokevirtual 179, 3) := by decide +kernel
theorem dX11_feed_34 : decode cX11_feed 34 = .ok (.aload_n 0, 1) := by decide +kernel
theorem dX11_feed_35 : decode cX11_feed 35 = .ok (.getfield 59, 3) := by decide +kernel
theorem dX11_feed_38 : decode cX11_feed 38 = .ok (.iload_n 3, 1) := by decide +kernel
theorem dX11_feed_39 : decode cX11_feed 39 = .ok (.invokevirtual 179, 3) := by decide +kernel
theorem dX11_feed_42 : decode cX11_feed 42 = .ok (.aload_n 0, 1) := by decide +kernel
theorem dX11_feed_43 : decode cX11_feed 43 = .ok (.getfield 59, 3) := by decide +kernel
theorem dX11_feed_46 : decode cX11_feed 46 = .ok (.iload 4, 2) := by decide +kernel
theorem dX11_feed_48 : decode cX11_feed 48 = .ok (.invokevirtual 179, 3) := by decide +kernel
theorem dX11_feed_51 : decode cX11_feed 51 = .ok (.aload_n 0, 1) := by decide +kernel
theorem dX11_feed_52 : decode cX11_feed 52 = .ok (.getfield 59, 3) := by decide +kernel
theorem dX11_feed_55 : decode cX11_feed 55 = .ok (.iload 5, 2) := by decide +kernel
theorem dX11_feed_57 : decode cX11_feed 57 = .ok (.invokevirtual 179, 3) := by decide +kernel
theorem dX11_feed_60 : decode cX11_feed 60 = .ok (.aload_n 0, 1) := by decide +kernel
theorem dX11_feed_61 : decode cX11_feed 61 = .ok (.getfield 59, 3) := by decide +kernel
theorem dX11_feed_64 : decode cX11_feed 64 = .ok (.getfield 176, 3) := by decide +kernel
theorem dX11_feed_67 : decode cX11_feed 67 = .ok (.ireturn, 1) := by decide +kernel
theorem dX11_end_0 : decode cX11_end 0 = .ok (.iload_n 1, 1) := by decide +kernel
theorem dX11_end_1 : decode cX11_end 1 = .ok (.iconst 0, 1) := by decide +kernel
theorem dX11_end_2 : decode cX11_end 2 = .ok (.aload_n 0, 1) := by decide +kernel
theorem dX11_end_3 : decode cX11_end 3 = .ok (.getfield 59, 3) := by decide +kernel
theorem dX11_end_6 : decode cX11_end 6 = .ok (.getfield 176, 3) := by decide +kernel
theorem dX11_end_9 : decode cX11_end 9 = .ok (.invokestatic 93, 3) := by decide +kernel
theorem dX11_end_12 : decode cX11_end 12 = .ok (.ifCond .ne 5, 3) := by decide +kernel
theorem dX11_end_15 : decode cX11_end 15 = .ok (.iconst (-1), 1) := by decide +kernel
theorem dX11_end_16 : decode cX11_end 16 = .ok (.ireturn, 1) := by decide +kernel
theorem dX11_end_17 : decode cX11_end 17 = .ok (.aload_n 0, 1) := by decide +kernel
theorem dX11_end_18 : decode cX11_end 18 = .ok (.getfield 59, 3) := by decide +kernel
theorem dX11_end_21 : decode cX11_end 21 = .ok (.iload_n 1, 1) := by decide +kernel
theorem dX11_end_22 : decode cX11_end 22 = .ok (.putfield 176, 3) := by decide +kernel
theorem dX11_end_25 : decode cX11_end 25 = .ok (.iload_n 1, 1) := by decide +kernel
theorem dX11_end_26 : decode cX11_end 26 = .ok (.ireturn, 1) := by decide +kernel
theorem dX11_text_0 : decode cX11_text 0 = .ok (.aload_n 0, 1) := by decide +kernel
theorem dX11_text_1 : decode cX11_text 1 = .ok (.getfield 19, 3) := by decide +kernel
theorem dX11_text_4 : decode cX11_text 4 = .ok (.getfield 183, 3) := by decide +kernel
theorem dX11_text_7 : decode cX11_text 7 = .ok (.istore_n 1, 1) := by decide +kernel
theorem dX11_text_8 : decode cX11_text 8 = .ok (.iload_n 1, 1) := by decide +kernel
theorem dX11_text_9 : decode cX11_text 9 = .ok (.iconst 4, 1) := by decide +kernel
theorem dX11_text_10 : decode cX11_text 10 = .ok (.if_icmp .lt 5, 3) := by decide +kernel
theorem dX11_text_13 : decode cX11_text 13 = .ok (.iconst (-1), 1) := by decide +kernel
theorem dX11_text_14 : decode cX11_text 14 = .ok (.ireturn, 1) := by decide +kernel
theorem dX11_text_15 : decode cX11_text 15 = .ok (.aload_n 0, 1) := by decide +kernel
theorem dX11_text_16 : decode cX11_text 16 = .ok (.getfield 68, 3) := by decide +kernel
theorem dX11_text_19 : decode cX11_text 19 = .ok (.invokevirtual 185, 3) := by decide +kernel
theorem dX11_text_22 : decode cX11_text 22 = .ok (.istore_n 2, 1) := by decide +kernel
theorem dX11_text_23 : decode cX11_text 23 = .ok (.aload_n 0, 1) := by decide +kernel
theorem dX11_text_24 : decode cX11_text 24 = .ok (.getfield 59, 3) := by decide +kernel
theorem dX11_text_27 : decode cX11_text 27 = .ok (.iconst 0, 1) := by decide +kernel
theorem dX11_text_28 : decode cX11_text 28 = .ok (.putfield 176, 3) := by decide +kernel
theorem dX11_text_31 : decode cX11_text 31 = .ok (.iload_n 2, 1) := by decide +kernel
theorem dX11_text_32 : decode cX11_text 32 = .ok (.ifCond .ne 5, 3) := by decide +kernel
theorem dX11_text_35 : decode cX11_text 35 = .ok (.iconst (-1), 1) := by decide +kernel
