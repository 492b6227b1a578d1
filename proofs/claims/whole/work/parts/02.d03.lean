theorem dX11_text_36 : decode cX11_text 36 = .ok (.ireturn, 1) := by decide +kernel
theorem dX11_text_37 : decode cX11_text 37 = .ok (.aload_n 0, 1) := by decide +kernel
theorem dX11_text_38 : decode cX11_text 38 = .ok (.iload_n 1, 1) := by decide +kernel
theorem dX11_text_39 : decode cX11_text 39 = .ok (.invokevirtual 189, 3) := by decide +kernel
theorem dX11_text_42 : decode cX11_text 42 = .ok (.aload_n 0, 1) := by decide +kernel
theorem dX11_text_43 : decode cX11_text 43 = .ok (.getfield 68, 3) := by decide +kernel
theorem dX11_text_46 : decode cX11_text 46 = .ok (.getfield 193, 3) := by decide +kernel
theorem dX11_text_49 : decode cX11_text 49 = .ok (.invokevirtual 196, 3) := by decide +kernel
theorem dX11_text_52 : decode cX11_text 52 = .ok (.aload_n 0, 1) := by decide +kernel
theorem dX11_text_53 : decode cX11_text 53 = .ok (.getfield 19, 3) := by decide +kernel
theorem dX11_text_56 : decode cX11_text 56 = .ok (.iload_n 1, 1) := by decide +kernel
theorem dX11_text_57 : decode cX11_text 57 = .ok (.iconst 1, 1) := by decide +kernel
theorem dX11_text_58 : decode cX11_text 58 = .ok (.iadd, 1) := by decide +kernel
theorem dX11_text_59 : decode cX11_text 59 = .ok (.putfield 183, 3) := by decide +kernel
theorem dX11_text_62 : decode cX11_text 62 = .ok (.iload_n 1, 1) := by decide +kernel
theorem dX11_text_63 : decode cX11_text 63 = .ok (.ireturn, 1) := by decide +kernel
theorem dX11_fault_0 : decode cX11_fault 0 = .ok (.iload_n 1, 1) := by decide +kernel
theorem dX11_fault_1 : decode cX11_fault 1 = .ok (.lookupswitch 43 #[(0, 27), (1, 35)], 27) := by decide +kernel
theorem dX11_fault_28 : decode cX11_fault 28 = .ok (.aload_n 0, 1) := by decide +kernel
theorem dX11_fault_29 : decode cX11_fault 29 = .ok (.getfield 68, 3) := by decide +kernel
theorem dX11_fault_32 : decode cX11_fault 32 = .ok (.getfield 200, 3) := by decide +kernel
theorem dX11_fault_35 : decode cX11_fault 35 = .ok (.ireturn, 1) := by decide +kernel
theorem dX11_fault_36 : decode cX11_fault 36 = .ok (.aload_n 0, 1) := by decide +kernel
theorem dX11_fault_37 : decode cX11_fault 37 = .ok (.getfield 68, 3) := by decide +kernel
theorem dX11_fault_40 : decode cX11_fault 40 = .ok (.getfield 203, 3) := by decide +kernel
theorem dX11_fault_43 : decode cX11_fault 43 = .ok (.ireturn, 1) := by decide +kernel
theorem dX11_fault_44 : decode cX11_fault 44 = .ok (.iconst (-1), 1) := by decide +kernel
theorem dX11_fault_45 : decode cX11_fault 45 = .ok (.ireturn, 1) := by decide +kernel
theorem dX11_by_0 : decode cX11_by 0 = .ok (.iload_n 1, 1) := by decide +kernel
theorem dX11_by_1 : decode cX11_by 1 = .ok (.iconst (-1), 1) := by decide +kernel
theorem dX11_by_2 : decode cX11_by 2 = .ok (.if_icmp .eq 13, 3) := by decide +kernel
theorem dX11_by_5 : decode cX11_by 5 = .ok (.aload_n 0, 1) := by decide +kernel
theorem dX11_by_6 : decode cX11_by 6 = .ok (.iload_n 1, 1) := by decide +kernel
theorem dX11_by_7 : decode cX11_by 7 = .ok (.invokevirtual 206, 3) := by decide +kernel
theorem dX11_by_10 : decode cX11_by 10 = .ok (.ifCond .ne 5, 3) := by decide +kernel
theorem dX11_by_13 : decode cX11_by 13 = .ok (.iconst 0, 1) := by decide +kernel
theorem dX11_by_14 : decode cX11_by 14 = .ok (.ireturn, 1) := by decide +kernel
theorem dX11_by_15 : decode cX11_by 15 = .ok (.aload_n 0, 1) := by decide +kernel
theorem dX11_by_16 : decode cX11_by 16 = .ok (.getfield 19, 3) := by decide +kernel
theorem dX11_by_19 : decode cX11_by 19 = .ok (.iload_n 1, 1) := by decide +kernel
theorem dX11_by_20 : decode cX11_by 20 = .ok (.putfield 209, 3) := by decide +kernel
theorem dX11_by_23 : decode cX11_by 23 = .ok (.aload_n 0, 1) := by decide +kernel
theorem dX11_by_24 : decode cX11_by 24 = .ok (.getfield 46, 3) := by decide +kernel
theorem dX11_by_27 : decode cX11_by 27 = .ok (.getfield 212, 3) := by decide +kernel
theorem dX11_by_30 : decode cX11_by 30 = .ok (.aload_n 0, 1) := by decide +kernel
theorem dX11_by_31 : decode cX11_by 31 = .ok (.iload_n 1, 1) := by decide +kernel
theorem dX11_by_32 : decode cX11_by 32 = .ok (.invokevirtual 189, 3) := by decide +kernel
theorem dX11_by_35 : decode cX11_by 35 = .ok (.invokevirtual 216, 3) := by decide +kernel
theorem dX11_by_38 : decode cX11_by 38 = .ok (.iconst 1, 1) := by decide +kernel
theorem dX11_by_39 : decode cX11_by 39 = .ok (.ireturn, 1) := by decide +kernel
theorem dX11_played_0 : decode cX11_played 0 = .ok (.aload_n 0, 1) := by decide +kernel
theorem dX11_played_1 : decode cX11_played 1 = .ok (.iload_n 1, 1) := by decide +kernel
theorem dX11_played_2 : decode cX11_played 2 = .ok (.invokevirtual 206, 3) := by decide +kernel
theorem dX11_played_5 : decode cX11_played 5 = .ok (.ifCond .ne 6, 3) := by decide +kernel
theorem dX11_played_8 : decode cX11_played 8 = .ok (.bipush (-2), 2) := by decide +kernel
theorem dX11_played_10 : decode cX11_played 10 = .ok (.ireturn, 1) := by decide +kernel
theorem dX11_played_11 : decode cX11_played 11 = .ok (.aload_n 0, 1) := by decide +kernel
theorem dX11_played_12 : decode cX11_played 12 = .ok (.iload_n 1, 1) := by decide +kernel
theorem dX11_played_13 : decode cX11_played 13 = .ok (.invokevirtual 189, 3) := by decide +kernel
theorem dX11_played_16 : decode cX11_played 16 = .ok (.astore_n 2, 1) := by decide +kernel
theorem dX11_played_17 : decode cX11_played 17 = .ok (.iconst 0, 1) := by decide +kernel
theorem dX11_played_18 : decode cX11_played 18 = .ok (.istore_n 3, 1) := by decide +kernel
theorem dX11_played_19 : decode cX11_played 19 = .ok (.iload_n 3, 1) := by decide +kernel
theorem dX11_played_20 : decode cX11_played 20 = .ok (.aload_n 2, 1) := by decide +kernel
theorem dX11_played_21 : decode cX11_played 21 = .ok (.getfield 221, 3) := by decide +kernel
theorem dX11_played_24 : decode cX11_played 24 = .ok (.if_icmp .ge 31, 3) := by decide +kernel
theorem dX11_played_27 : decode cX11_played 27 = .ok (.aload_n 2, 1) := by decide +kernel
theorem dX11_played_28 : decode cX11_played 28 = .ok (.iload_n 3, 1) := by decide +kernel
theorem dX11_played_29 : decode cX11_played 29 = .ok (.invokevirtual 224, 3) := by decide +kernel
theorem dX11_played_32 : decode cX11_played 32 = .ok (.invokestatic 227, 3) := by decide +kernel
theorem dX11_played_35 : decode cX11_played 35 = .ok (.ifCond .ne 14, 3) := by decide +kernel
theorem dX11_played_38 : decode cX11_played 38 = .ok (.aload_n 0, 1) := by decide +kernel
theorem dX11_played_39 : decode cX11_played 39 = .ok (.aload_n 2, 1) := by decide +kernel
theorem dX11_played_40 : decode cX11_played 40 = .ok (.iload_n 3, 1) := by decide +kernel
theorem dX11_played_41 : decode cX11_played 41 = .ok (.invokevirtual 230, 3) := by decide +kernel
theorem dX11_played_44 : decode cX11_played 44 = .ok (.ifCond .ne 5, 3) := by decide +kernel
theorem dX11_played_47 : decode cX11_played 47 = .ok (.iload_n 3, 1) := by decide +kernel
theorem dX11_played_48 : decode cX11_played 48 = .ok (.ireturn, 1) := by decide +kernel
theorem dX11_played_49 : decode cX11_played 49 = .ok (.iinc 3 1, 3) := by decide +kernel
theorem dX11_played_52 : decode cX11_played 52 = .ok (.goto (-33), 3) := by decide +kernel
theorem dX11_played_55 : decode cX11_played 55 = .ok (.iconst (-1), 1) := by decide +kernel
theorem dX11_played_56 : decode cX11_played 56 = .ok (.ireturn, 1) := by decide +kernel
theorem dX11_undo_0 : decode cX11_undo 0 = .ok (.aload_n 0, 1) := by decide +kernel
theorem dX11_undo_1 : decode cX11_undo 1 = .ok (.getfield 19, 3) := by decide +kernel
theorem dX11_undo_4 : decode cX11_undo 4 = .ok (.aload_n 0, 1) := by decide +kernel
theorem dX11_undo_5 : decode cX11_undo 5 = .ok (.getfield 10, 3) := by decide +kernel
theorem dX11_undo_8 : decode cX11_undo 8 = .ok (.invokevirtual 234, 3) := by decide +kernel
theorem dX11_undo_11 : decode cX11_undo 11 = .ok (.ifCond .eq 13, 3) := by decide +kernel
theorem dX11_undo_14 : decode cX11_undo 14 = .ok (.aload_n 0, 1) := by decide +kernel
theorem dX11_undo_15 : decode cX11_undo 15 = .ok (.getfield 19, 3) := by decide +kernel
theorem dX11_undo_18 : decode cX11_undo 18 = .ok (.getfield 238, 3) := by decide +kernel
theorem dX11_undo_21 : decode cX11_undo 21 = .ok (.goto 4, 3) := by decide +kernel
theorem dX11_undo_24 : decode cX11_undo 24 = .ok (.iconst (-1), 1) := by decide +kernel
theorem dX11_undo_25 : decode cX11_undo 25 = .ok (.ireturn, 1) := by decide +kernel
theorem dX11_of_0 : decode cX11_of 0 = .ok (.aload_n 0, 1) := by decide +kernel
theorem dX11_of_1 : decode cX11_of 1 = .ok (.getfield 19, 3) := by decide +kernel
theorem dX11_of_4 : decode cX11_of 4 = .ok (.getfield 39, 3) := by decide +kernel
theorem dX11_of_7 : decode cX11_of 7 = .ok (.astore_n 3, 1) := by decide +kernel
theorem dX11_of_8 : decode cX11_of 8 = .ok (.aload_n 3, 1) := by decide +kernel
theorem dX11_of_9 : decode cX11_of 9 = .ok (.iload_n 1, 1) := by decide +kernel
theorem dX11_of_10 : decode cX11_of 10 = .ok (.invokevirtual 241, 3) := by decide +kernel
theorem dX11_of_13 : decode cX11_of 13 = .ok (.ifCond .ne 5, 3) := by decide +kernel
theorem dX11_of_16 : decode cX11_of 16 = .ok (.iconst (-1), 1) := by decide +kernel
theorem dX11_of_17 : decode cX11_of 17 = .ok (.ireturn, 1) := by decide +kernel
theorem dX11_of_18 : decode cX11_of 18 = .ok (.iload_n 2, 1) := by decide +kernel
theorem dX11_of_19 : decode cX11_of 19 = .ok (.tableswitch 105 0 7 #[45, 54, 63, 69, 75, 81, 87, 93], 45) := by decide +kernel
theorem dX11_of_64 : decode cX11_of 64 = .ok (.aload_n 0, 1) := by decide +kernel
theorem dX11_of_65 : decode cX11_of 65 = .ok (.getfield 10, 3) := by decide +kernel
theorem dX11_of_68 : decode cX11_of 68 = .ok (.iload_n 1, 1) := by decide +kernel
theorem dX11_of_69 : decode cX11_of 69 = .ok (.invokevirtual 244, 3) := by decide +kernel
theorem dX11_of_72 : decode cX11_of 72 = .ok (.ireturn, 1) := by decide +kernel
theorem dX11_of_73 : decode cX11_of 73 = .ok (.aload_n 0, 1) := by decide +kernel
theorem dX11_of_74 : decode cX11_of 74 = .ok (.getfield 10, 3) := by decide +kernel
theorem dX11_of_77 : decode cX11_of 77 = .ok (.iload_n 1, 1) := by decide +kernel
theorem dX11_of_78 : decode cX11_of 78 = .ok (.invokevirtual 247, 3) := by decide +kernel
theorem dX11_of_81 : decode cX11_of 81 = .ok (.ireturn, 1) := by decide +kernel
theorem dX11_of_82 : decode cX11_of 82 = .ok (.aload_n 3, 1) := by decide +kernel
theorem dX11_of_83 : decode cX11_of 83 = .ok (.iload_n 1, 1) := by decide +kernel
theorem dX11_of_84 : decode cX11_of 84 = .ok (.invokevirtual 142, 3) := by decide +kernel
theorem dX11_of_87 : decode cX11_of 87 = .ok (.ireturn, 1) := by decide +kernel
theorem dX11_of_88 : decode cX11_of 88 = .ok (.aload_n 3, 1) := by decide +kernel
theorem dX11_of_89 : decode cX11_of 89 = .ok (.iload_n 1, 1) := by decide +kernel
theorem dX11_of_90 : decode cX11_of 90 = .ok (.invokevirtual 120, 3) := by decide +kernel
theorem dX11_of_93 : decode cX11_of 93 = .ok (.ireturn, 1) := by decide +kernel
theorem dX11_of_94 : decode cX11_of 94 = .ok (.aload_n 3, 1) := by decide +kernel
theorem dX11_of_95 : decode cX11_of 95 = .ok (.iload_n 1, 1) := by decide +kernel
theorem dX11_of_96 : decode cX11_of 96 = .ok (.invokevirtual 250, 3) := by decide +kernel
theorem dX11_of_99 : decode cX11_of 99 = .ok (.ireturn, 1) := by decide +kernel
theorem dX11_of_100 : decode cX11_of 100 = .ok (.aload_n 3, 1) := by decide +kernel
theorem dX11_of_101 : decode cX11_of 101 = .ok (.iload_n 1, 1) := by decide +kernel
theorem dX11_of_102 : decode cX11_of 102 = .ok (.invokevirtual 253, 3) := by decide +kernel
theorem dX11_of_105 : decode cX11_of 105 = .ok (.ireturn, 1) := by decide +kernel
theorem dX11_of_106 : decode cX11_of 106 = .ok (.aload_n 3, 1) := by decide +kernel
theorem dX11_of_107 : decode cX11_of 107 = .ok (.iload_n 1, 1) := by decide +kernel
theorem dX11_of_108 : decode cX11_of 108 = .ok (.invokevirtual 256, 3) := by decide +kernel
theorem dX11_of_111 : decode cX11_of 111 = .ok (.ireturn, 1) := by decide +kernel
theorem dX11_of_112 : decode cX11_of 112 = .ok (.aload_n 0, 1) := by decide +kernel
theorem dX11_of_113 : decode cX11_of 113 = .ok (.getfield 46, 3) := by decide +kernel
theorem dX11_of_116 : decode cX11_of 116 = .ok (.getfield 212, 3) := by decide +kernel
theorem dX11_of_119 : decode cX11_of 119 = .ok (.iload_n 1, 1) := by decide +kernel
theorem dX11_of_120 : decode cX11_of 120 = .ok (.invokevirtual 259, 3) := by decide +kernel
theorem dX11_of_123 : decode cX11_of 123 = .ok (.ireturn, 1) := by decide +kernel
theorem dX11_of_124 : decode cX11_of 124 = .ok (.iconst (-1), 1) := by decide +kernel
theorem dX11_of_125 : decode cX11_of 125 = .ok (.ireturn, 1) := by decide +kernel
theorem dX11_two_0 : decode cX11_two 0 = .ok (.aload_n 0, 1) := by decide +kernel
theorem dX11_two_1 : decode cX11_two 1 = .ok (.getfield 19, 3) := by decide +kernel
theorem dX11_two_4 : decode cX11_two 4 = .ok (.getfield 39, 3) := by decide +kernel
theorem dX11_two_7 : decode cX11_two 7 = .ok (.astore 4, 2) := by decide +kernel
theorem dX11_two_9 : decode cX11_two 9 = .ok (.aload 4, 2) := by decide +kernel
theorem dX11_two_11 : decode cX11_two 11 = .ok (.iload_n 1, 1) := by decide +kernel
theorem dX11_two_12 : decode cX11_two 12 = .ok (.iload_n 2, 1) := by decide +kernel
theorem dX11_two_13 : decode cX11_two 13 = .ok (.invokevirtual 124, 3) := by decide +kernel
theorem dX11_two_16 : decode cX11_two 16 = .ok (.ifCond .ne 5, 3) := by decide +kernel
theorem dX11_two_19 : decode cX11_two 19 = .ok (.iconst (-1), 1) := by decide +kernel
theorem dX11_two_20 : decode cX11_two 20 = .ok (.ireturn, 1) := by decide +kernel
theorem dX11_two_21 : decode cX11_two 21 = .ok (.iload_n 3, 1) := by decide +kernel
theorem dX11_two_22 : decode cX11_two 22 = .ok (.tableswitch 94 0 3 #[30, 38, 51, 78], 30) := by decide +kernel
theorem dX11_two_52 : decode cX11_two 52 = .ok (.aload 4, 2) := by decide +kernel
theorem dX11_two_54 : decode cX11_two 54 = .ok (.iload_n 1, 1) := by decide +kernel
theorem dX11_two_55 : decode cX11_two 55 = .ok (.iload_n 2, 1) := by decide +kernel
theorem dX11_two_56 : decode cX11_two 56 = .ok (.invokevirtual 127, 3) := by decide +kernel
theorem dX11_two_59 : decode cX11_two 59 = .ok (.ireturn, 1) := by decide +kernel
theorem dX11_two_60 : decode cX11_two 60 = .ok (.aload_n 0, 1) := by decide +kernel
theorem dX11_two_61 : decode cX11_two 61 = .ok (.getfield 46, 3) := by decide +kernel
theorem dX11_two_64 : decode cX11_two 64 = .ok (.getfield 212, 3) := by decide +kernel
theorem dX11_two_67 : decode cX11_two 67 = .ok (.iload_n 1, 1) := by decide +kernel
theorem dX11_two_68 : decode cX11_two 68 = .ok (.iload_n 2, 1) := by decide +kernel
theorem dX11_two_69 : decode cX11_two 69 = .ok (.invokevirtual 262, 3) := by decide +kernel
theorem dX11_two_72 : decode cX11_two 72 = .ok (.ireturn, 1) := by decide +kernel
theorem dX11_two_73 : decode cX11_two 73 = .ok (.aload 4, 2) := by decide +kernel
theorem dX11_two_75 : decode cX11_two 75 = .ok (.iload_n 1, 1) := by decide +kernel
theorem dX11_two_76 : decode cX11_two 76 = .ok (.iload_n 2, 1) := by decide +kernel
theorem dX11_two_77 : decode cX11_two 77 = .ok (.invokevirtual 127, 3) := by decide +kernel
theorem dX11_two_80 : decode cX11_two 80 = .ok (.ifCond .le 18, 3) := by decide +kernel
theorem dX11_two_83 : decode cX11_two 83 = .ok (.aload_n 0, 1) := by decide +kernel
theorem dX11_two_84 : decode cX11_two 84 = .ok (.getfield 46, 3) := by decide +kernel
theorem dX11_two_87 : decode cX11_two 87 = .ok (.getfield 212, 3) := by decide +kernel
theorem dX11_two_90 : decode cX11_two 90 = .ok (.iload_n 1, 1) := by decide +kernel
theorem dX11_two_91 : decode cX11_two 91 = .ok (.iload_n 2, 1) := by decide +kernel
theorem dX11_two_92 : decode cX11_two 92 = .ok (.invokevirtual 265, 3) := by decide +kernel
theorem dX11_two_95 : decode cX11_two 95 = .ok (.goto 4, 3) := by decide +kernel
theorem dX11_two_98 : decode cX11_two 98 = .ok (.iconst 0, 1) := by decide +kernel
theorem dX11_two_99 : decode cX11_two 99 = .ok (.ireturn, 1) := by decide +kernel
theorem dX11_two_100 : decode cX11_two 100 = .ok (.aload 4, 2) := by decide +kernel
theorem dX11_two_102 : decode cX11_two 102 = .ok (.iload_n 1, 1) := by decide +kernel
theorem dX11_two_103 : decode cX11_two 103 = .ok (.iload_n 2, 1) := by decide +kernel
theorem dX11_two_104 : decode cX11_two 104 = .ok (.invokevirtual 268, 3) := by decide +kernel
theorem dX11_two_107 : decode cX11_two 107 = .ok (.ifCond .eq 7, 3) := by decide +kernel
theorem dX11_two_110 : decode cX11_two 110 = .ok (.iconst 1, 1) := by decide +kernel
theorem dX11_two_111 : decode cX11_two 111 = .ok (.goto 4, 3) := by decide +kernel
theorem dX11_two_114 : decode cX11_two 114 = .ok (.iconst 0, 1) := by decide +kernel
theorem dX11_two_115 : decode cX11_two 115 = .ok (.ireturn, 1) := by decide +kernel
theorem dX11_two_116 : decode cX11_two 116 = .ok (.iconst (-1), 1) := by decide +kernel
theorem dX11_two_117 : decode cX11_two 117 = .ok (.ireturn, 1) := by decide +kernel
theorem dX11_more_0 : decode cX11_more 0 = .ok (.aload_n 0, 1) := by decide +kernel
theorem dX11_more_1 : decode cX11_more 1 = .ok (.getfield 19, 3) := by decide +kernel
theorem dX11_more_4 : decode cX11_more 4 = .ok (.getfield 39, 3) := by decide +kernel
theorem dX11_more_7 : decode cX11_more 7 = .ok (.iload_n 1, 1) := by decide +kernel
theorem dX11_more_8 : decode cX11_more 8 = .ok (.iload_n 2, 1) := by decide +kernel
theorem dX11_more_9 : decode cX11_more 9 = .ok (.invokevirtual 124, 3) := by decide +kernel
theorem dX11_more_12 : decode cX11_more 12 = .ok (.ifCond .eq 14, 3) := by decide +kernel
theorem dX11_more_15 : decode cX11_more 15 = .ok (.iload_n 3, 1) := by decide +kernel
theorem dX11_more_16 : decode cX11_more 16 = .ok (.iconst 0, 1) := by decide +kernel
theorem dX11_more_17 : decode cX11_more 17 = .ok (.sipush 9999, 3) := by decide +kernel
theorem dX11_more_20 : decode cX11_more 20 = .ok (.invokestatic 93, 3) := by decide +kernel
theorem dX11_more_23 : decode cX11_more 23 = .ok (.ifCond .ne 5, 3) := by decide +kernel
theorem dX11_more_26 : decode cX11_more 26 = .ok (.iconst (-1), 1) := by decide +kernel
theorem dX11_more_27 : decode cX11_more 27 = .ok (.ireturn, 1) := by decide +kernel
theorem dX11_more_28 : decode cX11_more 28 = .ok (.aload_n 0, 1) := by decide +kernel
theorem dX11_more_29 : decode cX11_more 29 = .ok (.getfield 46, 3) := by decide +kernel
theorem dX11_more_32 : decode cX11_more 32 = .ok (.getfield 212, 3) := by decide +kernel
theorem dX11_more_35 : decode cX11_more 35 = .ok (.iload_n 1, 1) := by decide +kernel
theorem dX11_more_36 : decode cX11_more 36 = .ok (.iload_n 2, 1) := by decide +kernel
theorem dX11_more_37 : decode cX11_more 37 = .ok (.iload_n 3, 1) := by decide +kernel
theorem dX11_more_38 : decode cX11_more 38 = .ok (.invokevirtual 271, 3) := by decide +kernel
theorem dX11_more_41 : decode cX11_more 41 = .ok (.ireturn, 1) := by decide +kernel
theorem dX11_book_0 : decode cX11_book 0 = .ok (.iload_n 1, 1) := by decide +kernel
theorem dX11_book_1 : decode cX11_book 1 = .ok (.iconst (-1), 1) := by decide +kernel
theorem dX11_book_2 : decode cX11_book 2 = .ok (.if_icmp .ne 14, 3) := by decide +kernel
theorem dX11_book_5 : decode cX11_book 5 = .ok (.aload_n 0, 1) := by decide +kernel
theorem dX11_book_6 : decode cX11_book 6 = .ok (.getfield 19, 3) := by decide +kernel
theorem dX11_book_9 : decode cX11_book 9 = .ok (.getfield 39, 3) := by decide +kernel
theorem dX11_book_12 : decode cX11_book 12 = .ok (.getfield 274, 3) := by decide +kernel
theorem dX11_book_15 : decode cX11_book 15 = .ok (.ireturn, 1) := by decide +kernel
theorem dX11_book_16 : decode cX11_book 16 = .ok (.iload_n 1, 1) := by decide +kernel
theorem dX11_book_17 : decode cX11_book 17 = .ok (.iconst 0, 1) := by decide +kernel
theorem dX11_book_18 : decode cX11_book 18 = .ok (.aload_n 0, 1) := by decide +kernel
theorem dX11_book_19 : decode cX11_book 19 = .ok (.getfield 19, 3) := by decide +kernel
theorem dX11_book_22 : decode cX11_book 22 = .ok (.getfield 39, 3) := by decide +kernel
theorem dX11_book_25 : decode cX11_book 25 = .ok (.getfield 274, 3) := by decide +kernel
theorem dX11_book_28 : decode cX11_book 28 = .ok (.iconst 1, 1) := by decide +kernel
theorem dX11_book_29 : decode cX11_book 29 = .ok (.isub, 1) := by decide +kernel
theorem dX11_book_30 : decode cX11_book 30 = .ok (.invokestatic 93, 3) := by decide +kernel
theorem dX11_book_33 : decode cX11_book 33 = .ok (.ifCond .eq 12, 3) := by decide +kernel
theorem dX11_book_36 : decode cX11_book 36 = .ok (.iload_n 2, 1) := by decide +kernel
theorem dX11_book_37 : decode cX11_book 37 = .ok (.iconst 0, 1) := by decide +kernel
theorem dX11_book_38 : decode cX11_book 38 = .ok (.iconst 2, 1) := by decide +kernel
theorem dX11_book_39 : decode cX11_book 39 = .ok (.invokestatic 93, 3) := by decide +kernel
theorem dX11_book_42 : decode cX11_book 42 = .ok (.ifCond .ne 6, 3) := by decide +kernel
theorem dX11_book_45 : decode cX11_book 45 = .ok (.bipush (-2), 2) := by decide +kernel
theorem dX11_book_47 : decode cX11_book 47 = .ok (.ireturn, 1) := by decide +kernel
theorem dX11_book_48 : decode cX11_book 48 = .ok (.aload_n 0, 1) := by decide +kernel
theorem dX11_book_49 : decode cX11_book 49 = .ok (.getfield 19, 3) := by decide +kernel
theorem dX11_book_52 : decode cX11_book 52 = .ok (.getfield 39, 3) := by decide +kernel
theorem dX11_book_55 : decode cX11_book 55 = .ok (.iload_n 1, 1) := by decide +kernel
theorem dX11_book_56 : decode cX11_book 56 = .ok (.iload_n 2, 1) := by decide +kernel
theorem dX11_book_57 : decode cX11_book 57 = .ok (.invokevirtual 277, 3) := by decide +kernel
theorem dX11_book_60 : decode cX11_book 60 = .ok (.ireturn, 1) := by decide +kernel
theorem dX11_foretold_0 : decode cX11_foretold 0 = .ok (.aload_n 0, 1) := by decide +kernel
theorem dX11_foretold_1 : decode cX11_foretold 1 = .ok (.getfield 19, 3) := by decide +kernel
theorem dX11_foretold_4 : decode cX11_foretold 4 = .ok (.getfield 39, 3) := by decide +kernel
theorem dX11_foretold_7 : decode cX11_foretold 7 = .ok (.astore 4, 2) := by decide +kernel
theorem dX11_foretold_9 : decode cX11_foretold 9 = .ok (.iload_n 3, 1) := by decide +kernel
theorem dX11_foretold_10 : decode cX11_foretold 10 = .ok (.iconst (-1), 1) := by decide +kernel
theorem dX11_foretold_11 : decode cX11_foretold 11 = .ok (.if_icmp .ne 12, 3) := by decide +kernel
theorem dX11_foretold_14 : decode cX11_foretold 14 = .ok (.aload 4, 2) := by decide +kernel
theorem dX11_foretold_16 : decode cX11_foretold 16 = .ok (.iload_n 2, 1) := by decide +kernel
theorem dX11_foretold_17 : decode cX11_foretold 17 = .ok (.invokevirtual 241, 3) := by decide +kernel
theorem dX11_foretold_20 : decode cX11_foretold 20 = .ok (.goto 10, 3) := by decide +kernel
theorem dX11_foretold_23 : decode cX11_foretold 23 = .ok (.aload 4, 2) := by decide +kernel
theorem dX11_foretold_25 : decode cX11_foretold 25 = .ok (.iload_n 2, 1) := by decide +kernel
theorem dX11_foretold_26 : decode cX11_foretold 26 = .ok (.iload_n 3, 1) := by decide +kernel
theorem dX11_foretold_27 : decode cX11_foretold 27 = .ok (.invokevirtual 124, 3) := by decide +kernel
theorem dX11_foretold_30 : decode cX11_foretold 30 = .ok (.istore 5, 2) := by decide +kernel
theorem dX11_foretold_32 : decode cX11_foretold 32 = .ok (.iload 5, 2) := by decide +kernel
theorem dX11_foretold_34 : decode cX11_foretold 34 = .ok (.ifCond .eq 13, 3) := by decide +kernel
theorem dX11_foretold_37 : decode cX11_foretold 37 = .ok (.iload_n 1, 1) := by decide +kernel
theorem dX11_foretold_38 : decode cX11_foretold 38 = .ok (.iconst 1, 1) := by decide +kernel
theorem dX11_foretold_39 : decode cX11_foretold 39 = .ok (.bipush 60, 2) := by decide +kernel
theorem dX11_foretold_41 : decode cX11_foretold 41 = .ok (.invokestatic 93, 3) := by decide +kernel
theorem dX11_foretold_44 : decode cX11_foretold 44 = .ok (.ifCond .ne 6, 3) := by decide +kernel
theorem dX11_foretold_47 : decode cX11_foretold 47 = .ok (.bipush (-2), 2) := by decide +kernel
theorem dX11_foretold_49 : decode cX11_foretold 49 = .ok (.ireturn, 1) := by decide +kernel
theorem dX11_foretold_50 : decode cX11_foretold 50 = .ok (.aload_n 0, 1) := by decide +kernel
theorem dX11_foretold_51 : decode cX11_foretold 51 = .ok (.iload_n 1, 1) := by decide +kernel
theorem dX11_foretold_52 : decode cX11_foretold 52 = .ok (.aload_n 0, 1) := by decide +kernel
theorem dX11_foretold_53 : decode cX11_foretold 53 = .ok (.getfield 19, 3) := by decide +kernel
theorem dX11_foretold_56 : decode cX11_foretold 56 = .ok (.getfield 209, 3) := by decide +kernel
theorem dX11_foretold_59 : decode cX11_foretold 59 = .ok (.invokevirtual 280, 3) := by decide +kernel
theorem dX11_foretold_62 : decode cX11_foretold 62 = .ok (.pop, 1) := by decide +kernel
theorem dX11_foretold_63 : decode cX11_foretold 63 = .ok (.aload_n 0, 1) := by decide +kernel
theorem dX11_foretold_64 : decode cX11_foretold 64 = .ok (.getfield 53, 3) := by decide +kernel
theorem dX11_foretold_67 : decode cX11_foretold 67 = .ok (.getfield 283, 3) := by decide +kernel
theorem dX11_foretold_70 : decode cX11_foretold 70 = .ok (.astore 6, 2) := by decide +kernel
theorem dX11_foretold_72 : decode cX11_foretold 72 = .ok (.iload_n 3, 1) := by decide +kernel
theorem dX11_foretold_73 : decode cX11_foretold 73 = .ok (.iconst (-1), 1) := by decide +kernel
theorem dX11_foretold_74 : decode cX11_foretold 74 = .ok (.if_icmp .ne 12, 3) := by decide +kernel
theorem dX11_foretold_77 : decode cX11_foretold 77 = .ok (.aload 6, 2) := by decide +kernel
theorem dX11_foretold_79 : decode cX11_foretold 79 = .ok (.iload_n 2, 1) := by decide +kernel
theorem dX11_foretold_80 : decode cX11_foretold 80 = .ok (.invokevirtual 253, 3) := by decide +kernel
theorem dX11_foretold_83 : decode cX11_foretold 83 = .ok (.goto 10, 3) := by decide +kernel
theorem dX11_foretold_86 : decode cX11_foretold 86 = .ok (.aload 6, 2) := by decide +kernel
theorem dX11_foretold_88 : decode cX11_foretold 88 = .ok (.iload_n 2, 1) := by decide +kernel
theorem dX11_foretold_89 : decode cX11_foretold 89 = .ok (.iload_n 3, 1) := by decide +kernel
theorem dX11_foretold_90 : decode cX11_foretold 90 = .ok (.invokevirtual 127, 3) := by decide +kernel
theorem dX11_foretold_93 : decode cX11_foretold 93 = .ok (.ireturn, 1) := by decide +kernel
theorem dX11_indoors_0 : decode cX11_indoors 0 = .ok (.aload_n 0, 1) := by decide +kernel
theorem dX11_indoors_1 : decode cX11_indoors 1 = .ok (.getfield 19, 3) := by decide +kernel
theorem dX11_indoors_4 : decode cX11_indoors 4 = .ok (.getfield 39, 3) := by decide +kernel
theorem dX11_indoors_7 : decode cX11_indoors 7 = .ok (.iload_n 2, 1) := by decide +kernel
theorem dX11_indoors_8 : decode cX11_indoors 8 = .ok (.invokevirtual 241, 3) := by decide +kernel
theorem dX11_indoors_11 : decode cX11_indoors 11 = .ok (.ifCond .eq 13, 3) := by decide +kernel
theorem dX11_indoors_14 : decode cX11_indoors 14 = .ok (.iload_n 1, 1) := by decide +kernel
theorem dX11_indoors_15 : decode cX11_indoors 15 = .ok (.iconst 1, 1) := by decide +kernel
theorem dX11_indoors_16 : decode cX11_indoors 16 = .ok (.bipush 60, 2) := by decide +kernel
theorem dX11_indoors_18 : decode cX11_indoors 18 = .ok (.invokestatic 93, 3) := by decide +kernel
theorem dX11_indoors_21 : decode cX11_indoors 21 = .ok (.ifCond .ne 6, 3) := by decide +kernel
theorem dX11_indoors_24 : decode cX11_indoors 24 = .ok (.bipush (-2), 2) := by decide +kernel
theorem dX11_indoors_26 : decode cX11_indoors 26 = .ok (.ireturn, 1) := by decide +kernel
theorem dX11_indoors_27 : decode cX11_indoors 27 = .ok (.aload_n 0, 1) := by decide +kernel
theorem dX11_indoors_28 : decode cX11_indoors 28 = .ok (.iload_n 1, 1) := by decide +kernel
theorem dX11_indoors_29 : decode cX11_indoors 29 = .ok (.aload_n 0, 1) := by decide +kernel
theorem dX11_indoors_30 : decode cX11_indoors 30 = .ok (.getfield 19, 3) := by decide +kernel
theorem dX11_indoors_33 : decode cX11_indoors 33 = .ok (.getfield 209, 3) := by decide +kernel
theorem dX11_indoors_36 : decode cX11_indoors 36 = .ok (.invokevirtual 280, 3) := by decide +kernel
theorem dX11_indoors_39 : decode cX11_indoors 39 = .ok (.pop, 1) := by decide +kernel
theorem dX11_indoors_40 : decode cX11_indoors 40 = .ok (.aload_n 0, 1) := by decide +kernel
theorem dX11_indoors_41 : decode cX11_indoors 41 = .ok (.getfield 53, 3) := by decide +kernel
theorem dX11_indoors_44 : decode cX11_indoors 44 = .ok (.getfield 283, 3) := by decide +kernel
theorem dX11_indoors_47 : decode cX11_indoors 47 = .ok (.iload_n 2, 1) := by decide +kernel
theorem dX11_indoors_48 : decode cX11_indoors 48 = .ok (.invokevirtual 250, 3) := by decide +kernel
theorem dX11_indoors_51 : decode cX11_indoors 51 = .ok (.ireturn, 1) := by decide +kernel
theorem dX11_first_0 : decode cX11_first 0 = .ok (.iload_n 1, 1) := by decide +kernel
theorem dX11_first_1 : decode cX11_first 1 = .ok (.iconst 1, 1) := by decide +kernel
theorem dX11_first_2 : decode cX11_first 2 = .ok (.bipush 60, 2) := by decide +kernel
theorem dX11_first_4 : decode cX11_first 4 = .ok (.invokestatic 93, 3) := by decide +kernel
theorem dX11_first_7 : decode cX11_first 7 = .ok (.ifCond .eq 18, 3) := by decide +kernel
theorem dX11_first_10 : decode cX11_first 10 = .ok (.aload_n 0, 1) := by decide +kernel
theorem dX11_first_11 : decode cX11_first 11 = .ok (.iload_n 1, 1) := by decide +kernel
theorem dX11_first_12 : decode cX11_first 12 = .ok (.aload_n 0, 1) := by decide +kernel
theorem dX11_first_13 : decode cX11_first 13 = .ok (.getfield 19, 3) := by decide +kernel
theorem dX11_first_16 : decode cX11_first 16 = .ok (.getfield 209, 3) := by decide +kernel
theorem dX11_first_19 : decode cX11_first 19 = .ok (.invokevirtual 280, 3) := by decide +kernel
theorem dX11_first_22 : decode cX11_first 22 = .ok (.ifCond .ne 5, 3) := by decide +kernel
theorem dX11_first_25 : decode cX11_first 25 = .ok (.iconst (-1), 1) := by decide +kernel
theorem dX11_first_26 : decode cX11_first 26 = .ok (.ireturn, 1) := by decide +kernel
theorem dX11_first_27 : decode cX11_first 27 = .ok (.aload_n 0, 1) := by decide +kernel
theorem dX11_first_28 : decode cX11_first 28 = .ok (.getfield 53, 3) := by decide +kernel
theorem dX11_first_31 : decode cX11_first 31 = .ok (.getfield 283, 3) := by decide +kernel
theorem dX11_first_34 : decode cX11_first 34 = .ok (.iconst 0, 1) := by decide +kernel
theorem dX11_first_35 : decode cX11_first 35 = .ok (.iconst 1, 1) := by decide +kernel
theorem dX11_first_36 : decode cX11_first 36 = .ok (.invokevirtual 277, 3) := by decide +kernel
theorem dX11_first_39 : decode cX11_first 39 = .ok (.ireturn, 1) := by decide +kernel
theorem dX11_whose_0 : decode cX11_whose 0 = .ok (.iload_n 1, 1) := by decide +kernel
theorem dX11_whose_1 : decode cX11_whose 1 = .ok (.iconst 1, 1) := by decide +kernel
theorem dX11_whose_2 : decode cX11_whose 2 = .ok (.bipush 60, 2) := by decide +kernel
theorem dX11_whose_4 : decode cX11_whose 4 = .ok (.invokestatic 93, 3) := by decide +kernel
theorem dX11_whose_7 : decode cX11_whose 7 = .ok (.ifCond .ne 5, 3) := by decide +kernel
theorem dX11_whose_10 : decode cX11_whose 10 = .ok (.iconst (-1), 1) := by decide +kernel
theorem dX11_whose_11 : decode cX11_whose 11 = .ok (.ireturn, 1) := by decide +kernel
theorem dX11_whose_12 : decode cX11_whose 12 = .ok (.iconst (-1), 1) := by decide +kernel
theorem dX11_whose_13 : decode cX11_whose 13 = .ok (.istore_n 2, 1) := by decide +kernel
theorem dX11_whose_14 : decode cX11_whose 14 = .ok (.ldc_w 284, 3) := by decide +kernel
theorem dX11_whose_17 : decode cX11_whose 17 = .ok (.istore_n 3, 1) := by decide +kernel
theorem dX11_whose_18 : decode cX11_whose 18 = .ok (.iconst 0, 1) := by decide +kernel
theorem dX11_whose_19 : decode cX11_whose 19 = .ok (.istore 4, 2) := by decide +kernel
theorem dX11_whose_21 : decode cX11_whose 21 = .ok (.iload 4, 2) := by decide +kernel
theorem dX11_whose_23 : decode cX11_whose 23 = .ok (.aload_n 0, 1) := by decide +kernel
theorem dX11_whose_24 : decode cX11_whose 24 = .ok (.getfield 19, 3) := by decide +kernel
theorem dX11_whose_27 : decode cX11_whose 27 = .ok (.getfield 183, 3) := by decide +kernel
theorem dX11_whose_30 : decode cX11_whose 30 = .ok (.if_icmp .ge 30, 3) := by decide +kernel
theorem dX11_whose_33 : decode cX11_whose 33 = .ok (.aload_n 0, 1) := by decide +kernel
theorem dX11_whose_34 : decode cX11_whose 34 = .ok (.iload_n 1, 1) := by decide +kernel
theorem dX11_whose_35 : decode cX11_whose 35 = .ok (.iload 4, 2) := by decide +kernel
theorem dX11_whose_37 : decode cX11_whose 37 = .ok (.invokevirtual 280, 3) := by decide +kernel
theorem dX11_whose_40 : decode cX11_whose 40 = .ok (.istore 5, 2) := by decide +kernel
theorem dX11_whose_42 : decode cX11_whose 42 = .ok (.iload 5, 2) := by decide +kernel
theorem dX11_whose_44 : decode cX11_whose 44 = .ok (.iload_n 3, 1) := by decide +kernel
theorem dX11_whose_45 : decode cX11_whose 45 = .ok (.if_icmp .ge 9, 3) := by decide +kernel
theorem dX11_whose_48 : decode cX11_whose 48 = .ok (.iload 5, 2) := by decide +kernel
theorem dX11_whose_50 : decode cX11_whose 50 = .ok (.istore_n 3, 1) := by decide +kernel
theorem dX11_whose_51 : decode cX11_whose 51 = .ok (.iload 4, 2) := by decide +kernel
theorem dX11_whose_53 : decode cX11_whose 53 = .ok (.istore_n 2, 1) := by decide +kernel
theorem dX11_whose_54 : decode cX11_whose 54 = .ok (.iinc 4 1, 3) := by decide +kernel
theorem dX11_whose_57 : decode cX11_whose 57 = .ok (.goto (-36), 3) := by decide +kernel
theorem dX11_whose_60 : decode cX11_whose 60 = .ok (.iload_n 2, 1) := by decide +kernel
theorem dX11_whose_61 : decode cX11_whose 61 = .ok (.ireturn, 1) := by decide +kernel
theorem dX11_route_0 : decode cX11_route 0 = .ok (.aload_n 0, 1) := by decide +kernel
theorem dX11_route_1 : decode cX11_route 1 = .ok (.getfield 19, 3) := by decide +kernel
theorem dX11_route_4 : decode cX11_route 4 = .ok (.getfield 39, 3) := by decide +kernel
theorem dX11_route_7 : decode cX11_route 7 = .ok (.iload_n 1, 1) := by decide +kernel
theorem dX11_route_8 : decode cX11_route 8 = .ok (.invokevirtual 135, 3) := by decide +kernel
theorem dX11_route_11 : decode cX11_route 11 = .ok (.ifCond .eq 21, 3) := by decide +kernel
theorem dX11_route_14 : decode cX11_route 14 = .ok (.aload_n 0, 1) := by decide +kernel
theorem dX11_route_15 : decode cX11_route 15 = .ok (.getfield 75, 3) := by decide +kernel
theorem dX11_route_18 : decode cX11_route 18 = .ok (.aload_n 0, 1) := by decide +kernel
theorem dX11_route_19 : decode cX11_route 19 = .ok (.getfield 19, 3) := by decide +kernel
theorem dX11_route_22 : decode cX11_route 22 = .ok (.getfield 39, 3) := by decide +kernel
theorem dX11_route_25 : decode cX11_route 25 = .ok (.iload_n 1, 1) := by decide +kernel
theorem dX11_route_26 : decode cX11_route 26 = .ok (.invokevirtual 285, 3) := by decide +kernel
theorem dX11_route_29 : decode cX11_route 29 = .ok (.ifCond .ne 6, 3) := by decide +kernel
theorem dX11_route_32 : decode cX11_route 32 = .ok (.bipush (-2), 2) := by decide +kernel
theorem dX11_route_34 : decode cX11_route 34 = .ok (.ireturn, 1) := by decide +kernel
theorem dX11_route_35 : decode cX11_route 35 = .ok (.iload_n 2, 1) := by decide +kernel
theorem dX11_route_36 : decode cX11_route 36 = .ok (.iconst (-1), 1) := by decide +kernel
theorem dX11_route_37 : decode cX11_route 37 = .ok (.if_icmp .ne 11, 3) := by decide +kernel
theorem dX11_route_40 : decode cX11_route 40 = .ok (.aload_n 0, 1) := by decide +kernel
theorem dX11_route_41 : decode cX11_route 41 = .ok (.getfield 75, 3) := by decide +kernel
theorem dX11_route_44 : decode cX11_route 44 = .ok (.getfield 289, 3) := by decide +kernel
theorem dX11_route_47 : decode cX11_route 47 = .ok (.ireturn, 1) := by decide +kernel
theorem dX11_route_48 : decode cX11_route 48 = .ok (.iload_n 2, 1) := by decide +kernel
theorem dX11_route_49 : decode cX11_route 49 = .ok (.iconst 0, 1) := by decide +kernel
theorem dX11_route_50 : decode cX11_route 50 = .ok (.aload_n 0, 1) := by decide +kernel
theorem dX11_route_51 : decode cX11_route 51 = .ok (.getfield 75, 3) := by decide +kernel
theorem dX11_route_54 : decode cX11_route 54 = .ok (.getfield 289, 3) := by decide +kernel
theorem dX11_route_57 : decode cX11_route 57 = .ok (.iconst 1, 1) := by decide +kernel
theorem dX11_route_58 : decode cX11_route 58 = .ok (.isub, 1) := by decide +kernel
theorem dX11_route_59 : decode cX11_route 59 = .ok (.invokestatic 93, 3) := by decide +kernel
theorem dX11_route_62 : decode cX11_route 62 = .ok (.ifCond .eq 14, 3) := by decide +kernel
theorem dX11_route_65 : decode cX11_route 65 = .ok (.aload_n 0, 1) := by decide +kernel
theorem dX11_route_66 : decode cX11_route 66 = .ok (.getfield 75, 3) := by decide +kernel
theorem dX11_route_69 : decode cX11_route 69 = .ok (.iload_n 2, 1) := by decide +kernel
theorem dX11_route_70 : decode cX11_route 70 = .ok (.invokevirtual 290, 3) := by decide +kernel
theorem dX11_route_73 : decode cX11_route 73 = .ok (.goto 5, 3) := by decide +kernel
theorem dX11_route_76 : decode cX11_route 76 = .ok (.bipush (-2), 2) := by decide +kernel
theorem dX11_route_78 : decode cX11_route 78 = .ok (.ireturn, 1) := by decide +kernel
theorem dX11_settled_0 : decode cX11_settled 0 = .ok (.aload_n 0, 1) := by decide +kernel
theorem dX11_settled_1 : decode cX11_settled 1 = .ok (.getfield 82, 3) := by decide +kernel
theorem dX11_settled_4 : decode cX11_settled 4 = .ok (.aload_n 0, 1) := by decide +kernel
theorem dX11_settled_5 : decode cX11_settled 5 = .ok (.getfield 19, 3) := by decide +kernel
theorem dX11_settled_8 : decode cX11_settled 8 = .ok (.getfield 39, 3) := by decide +kernel
theorem dX11_settled_11 : decode cX11_settled 11 = .ok (.invokevirtual 293, 3) := by decide +kernel
theorem dX11_settled_14 : decode cX11_settled 14 = .ok (.istore_n 2, 1) := by decide +kernel
theorem dX11_settled_15 : decode cX11_settled 15 = .ok (.iload_n 1, 1) := by decide +kernel
theorem dX11_settled_16 : decode cX11_settled 16 = .ok (.ifCond .eq 7, 3) := by decide +kernel
theorem dX11_settled_19 : decode cX11_settled 19 = .ok (.iload_n 2, 1) := by decide +kernel
theorem dX11_settled_20 : decode cX11_settled 20 = .ok (.goto 15, 3) := by decide +kernel
theorem dX11_settled_23 : decode cX11_settled 23 = .ok (.aload_n 0, 1) := by decide +kernel
theorem dX11_settled_24 : decode cX11_settled 24 = .ok (.getfield 19, 3) := by decide +kernel
theorem dX11_settled_27 : decode cX11_settled 27 = .ok (.getfield 39, 3) := by decide +kernel
theorem dX11_settled_30 : decode cX11_settled 30 = .ok (.getfield 97, 3) := by decide +kernel
theorem dX11_settled_33 : decode cX11_settled 33 = .ok (.iload_n 2, 1) := by decide +kernel
theorem dX11_settled_34 : decode cX11_settled 34 = .ok (.isub, 1) := by decide +kernel
theorem dX11_settled_35 : decode cX11_settled 35 = .ok (.ireturn, 1) := by decide +kernel
theorem dX11_lane_0 : decode cX11_lane 0 = .ok (.iload_n 1, 1) := by decide +kernel
theorem dX11_lane_1 : decode cX11_lane 1 = .ok (.iconst 1, 1) := by decide +kernel
theorem dX11_lane_2 : decode cX11_lane 2 = .ok (.bipush 20, 2) := by decide +kernel
theorem dX11_lane_4 : decode cX11_lane 4 = .ok (.invokestatic 93, 3) := by decide +kernel
theorem dX11_lane_7 : decode cX11_lane 7 = .ok (.ifCond .eq 61, 3) := by decide +kernel
theorem dX11_lane_10 : decode cX11_lane 10 = .ok (.iload_n 2, 1) := by decide +kernel
theorem dX11_lane_11 : decode cX11_lane 11 = .ok (.iconst 0, 1) := by decide +kernel
theorem dX11_lane_12 : decode cX11_lane 12 = .ok (.bipush 99, 2) := by decide +kernel
theorem dX11_lane_14 : decode cX11_lane 14 = .ok (.invokestatic 93, 3) := by decide +kernel
theorem dX11_lane_17 : decode cX11_lane 17 = .ok (.ifCond .eq 51, 3) := by decide +kernel
theorem dX11_lane_20 : decode cX11_lane 20 = .ok (.iload_n 3, 1) := by decide +kernel
theorem dX11_lane_21 : decode cX11_lane 21 = .ok (.iconst 0, 1) := by decide +kernel
theorem dX11_lane_22 : decode cX11_lane 22 = .ok (.bipush 99, 2) := by decide +kernel
theorem dX11_lane_24 : decode cX11_lane 24 = .ok (.invokestatic 93, 3) := by decide +kernel
theorem dX11_lane_27 : decode cX11_lane 27 = .ok (.ifCond .eq 41, 3) := by decide +kernel
theorem dX11_lane_30 : decode cX11_lane 30 = .ok (.iload 4, 2) := by decide +kernel
theorem dX11_lane_32 : decode cX11_lane 32 = .ok (.iconst 0, 1) := by decide +kernel
theorem dX11_lane_33 : decode cX11_lane 33 = .ok (.sipush 999, 3) := by decide +kernel
theorem dX11_lane_36 : decode cX11_lane 36 = .ok (.invokestatic 93, 3) := by decide +kernel
theorem dX11_lane_39 : decode cX11_lane 39 = .ok (.ifCond .eq 29, 3) := by decide +kernel
theorem dX11_lane_42 : decode cX11_lane 42 = .ok (.iload 5, 2) := by decide +kernel
theorem dX11_lane_44 : decode cX11_lane 44 = .ok (.iconst 0, 1) := by decide +kernel
theorem dX11_lane_45 : decode cX11_lane 45 = .ok (.sipush 9999, 3) := by decide +kernel
theorem dX11_lane_48 : decode cX11_lane 48 = .ok (.invokestatic 93, 3) := by decide +kernel
theorem dX11_lane_51 : decode cX11_lane 51 = .ok (.ifCond .eq 17, 3) := by decide +kernel
theorem dX11_lane_54 : decode cX11_lane 54 = .ok (.iload 6, 2) := by decide +kernel
theorem dX11_lane_56 : decode cX11_lane 56 = .ok (.iconst 0, 1) := by decide +kernel
theorem dX11_lane_57 : decode cX11_lane 57 = .ok (.iconst 2, 1) := by decide +kernel
theorem dX11_lane_58 : decode cX11_lane 58 = .ok (.invokestatic 93, 3) := by decide +kernel
theorem dX11_lane_61 : decode cX11_lane 61 = .ok (.ifCond .eq 7, 3) := by decide +kernel
theorem dX11_lane_64 : decode cX11_lane 64 = .ok (.iconst 1, 1) := by decide +kernel
theorem dX11_lane_65 : decode cX11_lane 65 = .ok (.goto 4, 3) := by decide +kernel
theorem dX11_lane_68 : decode cX11_lane 68 = .ok (.iconst 0, 1) := by decide +kernel
theorem dX11_lane_69 : decode cX11_lane 69 = .ok (.istore 7, 2) := by decide +kernel
theorem dX11_lane_71 : decode cX11_lane 71 = .ok (.iload 7, 2) := by decide +kernel
theorem dX11_lane_73 : decode cX11_lane 73 = .ok (.ifCond .ne 5, 3) := by decide +kernel
theorem dX11_lane_76 : decode cX11_lane 76 = .ok (.iconst (-1), 1) := by decide +kernel
theorem dX11_lane_77 : decode cX11_lane 77 = .ok (.ireturn, 1) := by decide +kernel
theorem dX11_lane_78 : decode cX11_lane 78 = .ok (.iload_n 1, 1) := by decide +kernel
theorem dX11_lane_79 : decode cX11_lane 79 = .ok (.istore 8, 2) := by decide +kernel
theorem dX11_lane_81 : decode cX11_lane 81 = .ok (.iload 5, 2) := by decide +kernel
theorem dX11_lane_83 : decode cX11_lane 83 = .ok (.istore 9, 2) := by decide +kernel
theorem dX11_lane_85 : decode cX11_lane 85 = .ok (.iload 5, 2) := by decide +kernel
theorem dX11_lane_87 : decode cX11_lane 87 = .ok (.istore 10, 2) := by decide +kernel
theorem dX11_lane_89 : decode cX11_lane 89 = .ok (.iload_n 1, 1) := by decide +kernel
theorem dX11_lane_90 : decode cX11_lane 90 = .ok (.iconst 1, 1) := by decide +kernel
theorem dX11_lane_91 : decode cX11_lane 91 = .ok (.isub, 1) := by decide +kernel
theorem dX11_lane_92 : decode cX11_lane 92 = .ok (.istore 11, 2) := by decide +kernel
theorem dX11_lane_94 : decode cX11_lane 94 = .ok (.iload 11, 2) := by decide +kernel
theorem dX11_lane_96 : decode cX11_lane 96 = .ok (.ifCond .lt 57, 3) := by decide +kernel
theorem dX11_lane_99 : decode cX11_lane 99 = .ok (.iload 10, 2) := by decide +kernel
theorem dX11_lane_101 : decode cX11_lane 101 = .ok (.istore 12, 2) := by decide +kernel
theorem dX11_lane_103 : decode cX11_lane 103 = .ok (.iload 9, 2) := by decide +kernel
theorem dX11_lane_105 : decode cX11_lane 105 = .ok (.istore 10, 2) := by decide +kernel
theorem dX11_lane_107 : decode cX11_lane 107 = .ok (.iload 12, 2) := by decide +kernel
theorem dX11_lane_109 : decode cX11_lane 109 = .ok (.istore 9, 2) := by decide +kernel
theorem dX11_lane_111 : decode cX11_lane 111 = .ok (.iload_n 2, 1) := by decide +kernel
theorem dX11_lane_112 : decode cX11_lane 112 = .ok (.iload 11, 2) := by decide +kernel
theorem dX11_lane_114 : decode cX11_lane 114 = .ok (.iload_n 3, 1) := by decide +kernel
theorem dX11_lane_115 : decode cX11_lane 115 = .ok (.imul, 1) := by decide +kernel
theorem dX11_lane_116 : decode cX11_lane 116 = .ok (.iadd, 1) := by decide +kernel
theorem dX11_lane_117 : decode cX11_lane 117 = .ok (.iload 9, 2) := by decide +kernel
theorem dX11_lane_119 : decode cX11_lane 119 = .ok (.if_icmp .gt 28, 3) := by decide +kernel
theorem dX11_lane_122 : decode cX11_lane 122 = .ok (.iload 11, 2) := by decide +kernel
theorem dX11_lane_124 : decode cX11_lane 124 = .ok (.istore 8, 2) := by decide +kernel
theorem dX11_lane_126 : decode cX11_lane 126 = .ok (.iload_n 2, 1) := by decide +kernel
theorem dX11_lane_127 : decode cX11_lane 127 = .ok (.iload 11, 2) := by decide +kernel
theorem dX11_lane_129 : decode cX11_lane 129 = .ok (.iload_n 3, 1) := by decide +kernel
theorem dX11_lane_130 : decode cX11_lane 130 = .ok (.imul, 1) := by decide +kernel
theorem dX11_lane_131 : decode cX11_lane 131 = .ok (.iadd, 1) := by decide +kernel
theorem dX11_lane_132 : decode cX11_lane 132 = .ok (.istore 9, 2) := by decide +kernel
theorem dX11_lane_134 : decode cX11_lane 134 = .ok (.iconst 0, 1) := by decide +kernel
theorem dX11_lane_135 : decode cX11_lane 135 = .ok (.iload 4, 2) := by decide +kernel
theorem dX11_lane_137 : decode cX11_lane 137 = .ok (.iload 11, 2) := by decide +kernel
theorem dX11_lane_139 : decode cX11_lane 139 = .ok (.iload_n 3, 1) := by decide +kernel
theorem dX11_lane_140 : decode cX11_lane 140 = .ok (.imul, 1) := by decide +kernel
theorem dX11_lane_141 : decode cX11_lane 141 = .ok (.isub, 1) := by decide +kernel
theorem dX11_lane_142 : decode cX11_lane 142 = .ok (.invokestatic 297, 3) := by decide +kernel
theorem dX11_lane_145 : decode cX11_lane 145 = .ok (.istore 10, 2) := by decide +kernel
theorem dX11_lane_147 : decode cX11_lane 147 = .ok (.iinc 11 (-1), 3) := by decide +kernel
theorem dX11_lane_150 : decode cX11_lane 150 = .ok (.goto (-56), 3) := by decide +kernel
theorem dX11_lane_153 : decode cX11_lane 153 = .ok (.iload 6, 2) := by decide +kernel
theorem dX11_lane_155 : decode cX11_lane 155 = .ok (.lookupswitch 31 #[(0, 25), (1, 28)], 25) := by decide +kernel
theorem dX11_lane_180 : decode cX11_lane 180 = .ok (.iload 8, 2) := by decide +kernel
theorem dX11_lane_182 : decode cX11_lane 182 = .ok (.ireturn, 1) := by decide +kernel
theorem dX11_lane_183 : decode cX11_lane 183 = .ok (.iload 9, 2) := by decide +kernel
theorem dX11_lane_185 : decode cX11_lane 185 = .ok (.ireturn, 1) := by decide +kernel
theorem dX11_lane_186 : decode cX11_lane 186 = .ok (.iload 10, 2) := by decide +kernel
theorem dX11_lane_188 : decode cX11_lane 188 = .ok (.ireturn, 1) := by decide +kernel
theorem dX11_doors_0 : decode cX11_doors 0 = .ok (.aload_n 0, 1) := by decide +kernel
theorem dX11_doors_1 : decode cX11_doors 1 = .ok (.getfield 82, 3) := by decide +kernel
theorem dX11_doors_4 : decode cX11_doors 4 = .ok (.aload_n 0, 1) := by decide +kernel
theorem dX11_doors_5 : decode cX11_doors 5 = .ok (.getfield 19, 3) := by decide +kernel
theorem dX11_doors_8 : decode cX11_doors 8 = .ok (.getfield 39, 3) := by decide +kernel
theorem dX11_doors_11 : decode cX11_doors 11 = .ok (.invokevirtual 300, 3) := by decide +kernel
theorem dX11_doors_14 : decode cX11_doors 14 = .ok (.iload_n 1, 1) := by decide +kernel
theorem dX11_doors_15 : decode cX11_doors 15 = .ok (.iconst (-1), 1) := by decide +kernel
theorem dX11_doors_16 : decode cX11_doors 16 = .ok (.if_icmp .ne 11, 3) := by decide +kernel
theorem dX11_doors_19 : decode cX11_doors 19 = .ok (.aload_n 0, 1) := by decide +kernel
theorem dX11_doors_20 : decode cX11_doors 20 = .ok (.getfield 82, 3) := by decide +kernel
theorem dX11_doors_23 : decode cX11_doors 23 = .ok (.invokevirtual 304, 3) := by decide +kernel
theorem dX11_doors_26 : decode cX11_doors 26 = .ok (.ireturn, 1) := by decide +kernel
theorem dX11_doors_27 : decode cX11_doors 27 = .ok (.iload_n 1, 1) := by decide +kernel
theorem dX11_doors_28 : decode cX11_doors 28 = .ok (.iconst 0, 1) := by decide +kernel
theorem dX11_doors_29 : decode cX11_doors 29 = .ok (.aload_n 0, 1) := by decide +kernel
theorem dX11_doors_30 : decode cX11_doors 30 = .ok (.getfield 19, 3) := by decide +kernel
theorem dX11_doors_33 : decode cX11_doors 33 = .ok (.getfield 39, 3) := by decide +kernel
theorem dX11_doors_36 : decode cX11_doors 36 = .ok (.getfield 97, 3) := by decide +kernel
theorem dX11_doors_39 : decode cX11_doors 39 = .ok (.iconst 1, 1) := by decide +kernel
theorem dX11_doors_40 : decode cX11_doors 40 = .ok (.isub, 1) := by decide +kernel
theorem dX11_doors_41 : decode cX11_doors 41 = .ok (.invokestatic 93, 3) := by decide +kernel
theorem dX11_doors_44 : decode cX11_doors 44 = .ok (.ifCond .eq 21, 3) := by decide +kernel
theorem dX11_doors_47 : decode cX11_doors 47 = .ok (.aload_n 0, 1) := by decide +kernel
theorem dX11_doors_48 : decode cX11_doors 48 = .ok (.getfield 82, 3) := by decide +kernel
theorem dX11_doors_51 : decode cX11_doors 51 = .ok (.aload_n 0, 1) := by decide +kernel
theorem dX11_doors_52 : decode cX11_doors 52 = .ok (.getfield 19, 3) := by decide +kernel
theorem dX11_doors_55 : decode cX11_doors 55 = .ok (.getfield 39, 3) := by decide +kernel
theorem dX11_doors_58 : decode cX11_doors 58 = .ok (.iload_n 1, 1) := by decide +kernel
theorem dX11_doors_59 : decode cX11_doors 59 = .ok (.invokevirtual 307, 3) := by decide +kernel
theorem dX11_doors_62 : decode cX11_doors 62 = .ok (.goto 4, 3) := by decide +kernel
theorem dX11_doors_65 : decode cX11_doors 65 = .ok (.iconst (-1), 1) := by decide +kernel
theorem dX11_doors_66 : decode cX11_doors 66 = .ok (.ireturn, 1) := by decide +kernel
theorem dX11_neck_0 : decode cX11_neck 0 = .ok (.iload_n 1, 1) := by decide +kernel
theorem dX11_neck_1 : decode cX11_neck 1 = .ok (.iconst 0, 1) := by decide +kernel
theorem dX11_neck_2 : decode cX11_neck 2 = .ok (.aload_n 0, 1) := by decide +kernel
theorem dX11_neck_3 : decode cX11_neck 3 = .ok (.invokevirtual 311, 3) := by decide +kernel
theorem dX11_neck_6 : decode cX11_neck 6 = .ok (.iconst 1, 1) := by decide +kernel
theorem dX11_neck_7 : decode cX11_neck 7 = .ok (.isub, 1) := by decide +kernel
theorem dX11_neck_8 : decode cX11_neck 8 = .ok (.invokestatic 93, 3) := by decide +kernel
theorem dX11_neck_11 : decode cX11_neck 11 = .ok (.ifCond .eq 23, 3) := by decide +kernel
theorem dX11_neck_14 : decode cX11_neck 14 = .ok (.iload_n 2, 1) := by decide +kernel
theorem dX11_neck_15 : decode cX11_neck 15 = .ok (.iconst (-1), 1) := by decide +kernel
theorem dX11_neck_16 : decode cX11_neck 16 = .ok (.if_icmp .eq 14, 3) := by decide +kernel
theorem dX11_neck_19 : decode cX11_neck 19 = .ok (.iload_n 2, 1) := by decide +kernel
theorem dX11_neck_20 : decode cX11_neck 20 = .ok (.iconst 0, 1) := by decide +kernel
theorem dX11_neck_21 : decode cX11_neck 21 = .ok (.sipush 999, 3) := by decide +kernel
theorem dX11_neck_24 : decode cX11_neck 24 = .ok (.invokestatic 93, 3) := by decide +kernel
theorem dX11_neck_27 : decode cX11_neck 27 = .ok (.ifCond .eq 7, 3) := by decide +kernel
theorem dX11_neck_30 : decode cX11_neck 30 = .ok (.iconst 1, 1) := by decide +kernel
theorem dX11_neck_31 : decode cX11_neck 31 = .ok (.goto 4, 3) := by decide +kernel
theorem dX11_neck_34 : decode cX11_neck 34 = .ok (.iconst 0, 1) := by decide +kernel
theorem dX11_neck_35 : decode cX11_neck 35 = .ok (.istore_n 3, 1) := by decide +kernel
theorem dX11_neck_36 : decode cX11_neck 36 = .ok (.iload_n 3, 1) := by decide +kernel
theorem dX11_neck_37 : decode cX11_neck 37 = .ok (.ifCond .eq 13, 3) := by decide +kernel
theorem dX11_neck_40 : decode cX11_neck 40 = .ok (.aload_n 0, 1) := by decide +kernel
theorem dX11_neck_41 : decode cX11_neck 41 = .ok (.getfield 19, 3) := by decide +kernel
theorem dX11_neck_44 : decode cX11_neck 44 = .ok (.getfield 314, 3) := by decide +kernel
theorem dX11_neck_47 : decode cX11_neck 47 = .ok (.iload_n 1, 1) := by decide +kernel
theorem dX11_neck_48 : decode cX11_neck 48 = .ok (.iload_n 2, 1) := by decide +kernel
theorem dX11_neck_49 : decode cX11_neck 49 = .ok (.iastore, 1) := by decide +kernel
theorem dX11_neck_50 : decode cX11_neck 50 = .ok (.iload_n 3, 1) := by decide +kernel
theorem dX11_neck_51 : decode cX11_neck 51 = .ok (.ireturn, 1) := by decide +kernel
theorem dX11_explained_0 : decode cX11_explained 0 = .ok (.aload_n 0, 1) := by decide +kernel
theorem dX11_explained_1 : decode cX11_explained 1 = .ok (.getfield 89, 3) := by decide +kernel
theorem dX11_explained_4 : decode cX11_explained 4 = .ok (.aload_n 0, 1) := by decide +kernel
theorem dX11_explained_5 : decode cX11_explained 5 = .ok (.getfield 19, 3) := by decide +kernel
theorem dX11_explained_8 : decode cX11_explained 8 = .ok (.getfield 39, 3) := by decide +kernel
theorem dX11_explained_11 : decode cX11_explained 11 = .ok (.aload_n 0, 1) := by decide +kernel
theorem dX11_explained_12 : decode cX11_explained 12 = .ok (.getfield 19, 3) := by decide +kernel
theorem dX11_explained_15 : decode cX11_explained 15 = .ok (.getfield 314, 3) := by decide +kernel
theorem dX11_explained_18 : decode cX11_explained 18 = .ok (.invokevirtual 318, 3) := by decide +kernel
theorem dX11_explained_21 : decode cX11_explained 21 = .ok (.aload_n 0, 1) := by decide +kernel
theorem dX11_explained_22 : decode cX11_explained 22 = .ok (.getfield 89, 3) := by decide +kernel
theorem dX11_explained_25 : decode cX11_explained 25 = .ok (.getfield 322, 3) := by decide +kernel
theorem dX11_explained_28 : decode cX11_explained 28 = .ok (.ireturn, 1) := by decide +kernel
theorem dX11_sure_0 : decode cX11_sure 0 = .ok (.aload_n 0, 1) := by decide +kernel
theorem dX11_sure_1 : decode cX11_sure 1 = .ok (.invokevirtual 311, 3) := by decide +kernel
theorem dX11_sure_4 : decode cX11_sure 4 = .ok (.iconst 1, 1) := by decide +kernel
theorem dX11_sure_5 : decode cX11_sure 5 = .ok (.isub, 1) := by decide +kernel
theorem dX11_sure_6 : decode cX11_sure 6 = .ok (.istore_n 3, 1) := by decide +kernel
theorem dX11_sure_7 : decode cX11_sure 7 = .ok (.iload_n 1, 1) := by decide +kernel
theorem dX11_sure_8 : decode cX11_sure 8 = .ok (.iload_n 2, 1) := by decide +kernel
theorem dX11_sure_9 : decode cX11_sure 9 = .ok (.if_icmp .eq 21, 3) := by decide +kernel
theorem dX11_sure_12 : decode cX11_sure 12 = .ok (.iload_n 1, 1) := by decide +kernel
theorem dX11_sure_13 : decode cX11_sure 13 = .ok (.iconst 0, 1) := by decide +kernel
theorem dX11_sure_14 : decode cX11_sure 14 = .ok (.iload_n 3, 1) := by decide +kernel
theorem dX11_sure_15 : decode cX11_sure 15 = .ok (.invokestatic 93, 3) := by decide +kernel
theorem dX11_sure_18 : decode cX11_sure 18 = .ok (.ifCond .eq 12, 3) := by decide +kernel
theorem dX11_sure_21 : decode cX11_sure 21 = .ok (.iload_n 2, 1) := by decide +kernel
theorem dX11_sure_22 : decode cX11_sure 22 = .ok (.iconst 0, 1) := by decide +kernel
theorem dX11_sure_23 : decode cX11_sure 23 = .ok (.iload_n 3, 1) := by decide +kernel
theorem dX11_sure_24 : decode cX11_sure 24 = .ok (.invokestatic 93, 3) := by decide +kernel
theorem dX11_sure_27 : decode cX11_sure 27 = .ok (.ifCond .ne 5, 3) := by decide +kernel
theorem dX11_sure_30 : decode cX11_sure 30 = .ok (.iconst (-1), 1) := by decide +kernel
theorem dX11_sure_31 : decode cX11_sure 31 = .ok (.ireturn, 1) := by decide +kernel
theorem dX11_sure_32 : decode cX11_sure 32 = .ok (.aload_n 0, 1) := by decide +kernel
theorem dX11_sure_33 : decode cX11_sure 33 = .ok (.getfield 89, 3) := by decide +kernel
theorem dX11_sure_36 : decode cX11_sure 36 = .ok (.aload_n 0, 1) := by decide +kernel
theorem dX11_sure_37 : decode cX11_sure 37 = .ok (.getfield 19, 3) := by decide +kernel
theorem dX11_sure_40 : decode cX11_sure 40 = .ok (.getfield 39, 3) := by decide +kernel
theorem dX11_sure_43 : decode cX11_sure 43 = .ok (.aload_n 0, 1) := by decide +kernel
theorem dX11_sure_44 : decode cX11_sure 44 = .ok (.getfield 19, 3) := by decide +kernel
theorem dX11_sure_47 : decode cX11_sure 47 = .ok (.getfield 314, 3) := by decide +kernel
theorem dX11_sure_50 : decode cX11_sure 50 = .ok (.invokevirtual 318, 3) := by decide +kernel
theorem dX11_sure_53 : decode cX11_sure 53 = .ok (.aload_n 0, 1) := by decide +kernel
theorem dX11_sure_54 : decode cX11_sure 54 = .ok (.getfield 89, 3) := by decide +kernel
theorem dX11_sure_57 : decode cX11_sure 57 = .ok (.iload_n 1, 1) := by decide +kernel
theorem dX11_sure_58 : decode cX11_sure 58 = .ok (.iload_n 2, 1) := by decide +kernel
theorem dX11_sure_59 : decode cX11_sure 59 = .ok (.invokestatic 159, 3) := by decide +kernel
theorem dX11_sure_62 : decode cX11_sure 62 = .ok (.iload_n 1, 1) := by decide +kernel
theorem dX11_sure_63 : decode cX11_sure 63 = .ok (.iload_n 2, 1) := by decide +kernel
theorem dX11_sure_64 : decode cX11_sure 64 = .ok (.invokestatic 297, 3) := by decide +kernel
theorem dX11_sure_67 : decode cX11_sure 67 = .ok (.invokevirtual 325, 3) := by decide +kernel
theorem dX11_sure_70 : decode cX11_sure 70 = .ok (.ireturn, 1) := by decide +kernel
theorem dX11_corner_0 : decode cX11_corner 0 = .ok (.aload_n 0, 1) := by decide +kernel
theorem dX11_corner_1 : decode cX11_corner 1 = .ok (.getfield 89, 3) := by decide +kernel
theorem dX11_corner_4 : decode cX11_corner 4 = .ok (.aload_n 0, 1) := by decide +kernel
theorem dX11_corner_5 : decode cX11_corner 5 = .ok (.getfield 19, 3) := by decide +kernel
theorem dX11_corner_8 : decode cX11_corner 8 = .ok (.getfield 39, 3) := by decide +kernel
theorem dX11_corner_11 : decode cX11_corner 11 = .ok (.aload_n 0, 1) := by decide +kernel
theorem dX11_corner_12 : decode cX11_corner 12 = .ok (.getfield 19, 3) := by decide +kernel
theorem dX11_corner_15 : decode cX11_corner 15 = .ok (.getfield 314, 3) := by decide +kernel
theorem dX11_corner_18 : decode cX11_corner 18 = .ok (.invokevirtual 318, 3) := by decide +kernel
theorem dX11_corner_21 : decode cX11_corner 21 = .ok (.aload_n 0, 1) := by decide +kernel
theorem dX11_corner_22 : decode cX11_corner 22 = .ok (.getfield 89, 3) := by decide +kernel
theorem dX11_corner_25 : decode cX11_corner 25 = .ok (.invokevirtual 328, 3) := by decide +kernel
theorem dX11_corner_28 : decode cX11_corner 28 = .ok (.ireturn, 1) := by decide +kernel
theorem dX11_image_0 : decode cX11_image 0 = .ok (.aload_n 0, 1) := by decide +kernel
theorem dX11_image_1 : decode cX11_image 1 = .ok (.getfield 23, 3) := by decide +kernel
theorem dX11_image_4 : decode cX11_image 4 = .ok (.aload_n 0, 1) := by decide +kernel
theorem dX11_image_5 : decode cX11_image 5 = .ok (.getfield 19, 3) := by decide +kernel
theorem dX11_image_8 : decode cX11_image 8 = .ok (.invokevirtual 331, 3) := by decide +kernel
theorem dX11_image_11 : decode cX11_image 11 = .ok (.aload_n 0, 1) := by decide +kernel
theorem dX11_image_12 : decode cX11_image 12 = .ok (.getfield 19, 3) := by decide +kernel
theorem dX11_image_15 : decode cX11_image 15 = .ok (.getfield 39, 3) := by decide +kernel
theorem dX11_image_18 : decode cX11_image 18 = .ok (.getfield 173, 3) := by decide +kernel
theorem dX11_image_21 : decode cX11_image 21 = .ok (.ireturn, 1) := by decide +kernel
theorem dX11_back_0 : decode cX11_back 0 = .ok (.aload_n 0, 1) := by decide +kernel
theorem dX11_back_1 : decode cX11_back 1 = .ok (.getfield 19, 3) := by decide +kernel
theorem dX11_back_4 : decode cX11_back 4 = .ok (.aload_n 0, 1) := by decide +kernel
theorem dX11_back_5 : decode cX11_back 5 = .ok (.getfield 23, 3) := by decide +kernel
theorem dX11_back_8 : decode cX11_back 8 = .ok (.invokevirtual 331, 3) := by decide +kernel
theorem dX11_back_11 : decode cX11_back 11 = .ok (.aload_n 0, 1) := by decide +kernel
theorem dX11_back_12 : decode cX11_back 12 = .ok (.getfield 46, 3) := by decide +kernel
theorem dX11_back_15 : decode cX11_back 15 = .ok (.getfield 212, 3) := by decide +kernel
theorem dX11_back_18 : decode cX11_back 18 = .ok (.aload_n 0, 1) := by decide +kernel
theorem dX11_back_19 : decode cX11_back 19 = .ok (.aload_n 0, 1) := by decide +kernel
theorem dX11_back_20 : decode cX11_back 20 = .ok (.getfield 19, 3) := by decide +kernel
theorem dX11_back_23 : decode cX11_back 23 = .ok (.getfield 209, 3) := by decide +kernel
theorem dX11_back_26 : decode cX11_back 26 = .ok (.invokevirtual 189, 3) := by decide +kernel
theorem dX11_back_29 : decode cX11_back 29 = .ok (.invokevirtual 216, 3) := by decide +kernel
theorem dX11_back_32 : decode cX11_back 32 = .ok (.aload_n 0, 1) := by decide +kernel
theorem dX11_back_33 : decode cX11_back 33 = .ok (.getfield 19, 3) := by decide +kernel
theorem dX11_back_36 : decode cX11_back 36 = .ok (.getfield 39, 3) := by decide +kernel
theorem dX11_back_39 : decode cX11_back 39 = .ok (.getfield 173, 3) := by decide +kernel
theorem dX11_back_42 : decode cX11_back 42 = .ok (.ireturn, 1) := by decide +kernel
theorem dX11_about_0 : decode cX11_about 0 = .ok (.iload_n 1, 1) := by decide +kernel
theorem dX11_about_1 : decode cX11_about 1 = .ok (.tableswitch 123 0 7 #[47, 58, 69, 80, 91, 99, 107, 115], 47) := by decide +kernel
theorem dX11_about_48 : decode cX11_about 48 = .ok (.aload_n 0, 1) := by decide +kernel
theorem dX11_about_49 : decode cX11_about 49 = .ok (.getfield 19, 3) := by decide +kernel
theorem dX11_about_52 : decode cX11_about 52 = .ok (.getfield 39, 3) := by decide +kernel
theorem dX11_about_55 : decode cX11_about 55 = .ok (.getfield 97, 3) := by decide +kernel
theorem dX11_about_58 : decode cX11_about 58 = .ok (.ireturn, 1) := by decide +kernel
theorem dX11_about_59 : decode cX11_about 59 = .ok (.aload_n 0, 1) := by decide +kernel
theorem dX11_about_60 : decode cX11_about 60 = .ok (.getfield 19, 3) := by decide +kernel
theorem dX11_about_63 : decode cX11_about 63 = .ok (.getfield 39, 3) := by decide +kernel
theorem dX11_about_66 : decode cX11_about 66 = .ok (.getfield 173, 3) := by decide +kernel
theorem dX11_about_69 : decode cX11_about 69 = .ok (.ireturn, 1) := by decide +kernel
theorem dX11_about_70 : decode cX11_about 70 = .ok (.aload_n 0, 1) := by decide +kernel
theorem dX11_about_71 : decode cX11_about 71 = .ok (.getfield 19, 3) := by decide +kernel
theorem dX11_about_74 : decode cX11_about 74 = .ok (.getfield 39, 3) := by decide +kernel
theorem dX11_about_77 : decode cX11_about 77 = .ok (.getfield 334, 3) := by decide +kernel
theorem dX11_about_80 : decode cX11_about 80 = .ok (.ireturn, 1) := by decide +kernel
theorem dX11_about_81 : decode cX11_about 81 = .ok (.aload_n 0, 1) := by decide +kernel
theorem dX11_about_82 : decode cX11_about 82 = .ok (.getfield 19, 3) := by decide +kernel
theorem dX11_about_85 : decode cX11_about 85 = .ok (.getfield 39, 3) := by decide +kernel
theorem dX11_about_88 : decode cX11_about 88 = .ok (.getfield 167, 3) := by decide +kernel
theorem dX11_about_91 : decode cX11_about 91 = .ok (.ireturn, 1) := by decide +kernel
theorem dX11_about_92 : decode cX11_about 92 = .ok (.aload_n 0, 1) := by decide +kernel
theorem dX11_about_93 : decode cX11_about 93 = .ok (.getfield 19, 3) := by decide +kernel
theorem dX11_about_96 : decode cX11_about 96 = .ok (.getfield 183, 3) := by decide +kernel
theorem dX11_about_99 : decode cX11_about 99 = .ok (.ireturn, 1) := by decide +kernel
theorem dX11_about_100 : decode cX11_about 100 = .ok (.aload_n 0, 1) := by decide +kernel
theorem dX11_about_101 : decode cX11_about 101 = .ok (.getfield 19, 3) := by decide +kernel
theorem dX11_about_104 : decode cX11_about 104 = .ok (.getfield 209, 3) := by decide +kernel
theorem dX11_about_107 : decode cX11_about 107 = .ok (.ireturn, 1) := by decide +kernel
theorem dX11_about_108 : decode cX11_about 108 = .ok (.aload_n 0, 1) := by decide +kernel
theorem dX11_about_109 : decode cX11_about 109 = .ok (.getfield 19, 3) := by decide +kernel
theorem dX11_about_112 : decode cX11_about 112 = .ok (.getfield 238, 3) := by decide +kernel
theorem dX11_about_115 : decode cX11_about 115 = .ok (.ireturn, 1) := by decide +kernel
theorem dX11_about_116 : decode cX11_about 116 = .ok (.aload_n 0, 1) := by decide +kernel
theorem dX11_about_117 : decode cX11_about 117 = .ok (.getfield 59, 3) := by decide +kernel
theorem dX11_about_120 : decode cX11_about 120 = .ok (.getfield 176, 3) := by decide +kernel
theorem dX11_about_123 : decode cX11_about 123 = .ok (.ireturn, 1) := by decide +kernel
theorem dX11_about_124 : decode cX11_about 124 = .ok (.bipush (-2), 2) := by decide +kernel
theorem dX11_about_126 : decode cX11_about 126 = .ok (.ireturn, 1) := by decide +kernel
theorem dX11_within_0 : decode cX11_within 0 = .ok (.iload_n 1, 1) := by decide +kernel
theorem dX11_within_1 : decode cX11_within 1 = .ok (.iload_n 0, 1) := by decide +kernel
theorem dX11_within_2 : decode cX11_within 2 = .ok (.if_icmp .gt 12, 3) := by decide +kernel
theorem dX11_within_5 : decode cX11_within 5 = .ok (.iload_n 0, 1) := by decide +kernel
theorem dX11_within_6 : decode cX11_within 6 = .ok (.iload_n 2, 1) := by decide +kernel
theorem dX11_within_7 : decode cX11_within 7 = .ok (.if_icmp .gt 7, 3) := by decide +kernel
theorem dX11_within_10 : decode cX11_within 10 = .ok (.iconst 1, 1) := by decide +kernel
theorem dX11_within_11 : decode cX11_within 11 = .ok (.goto 4, 3) := by decide +kernel
theorem dX11_within_14 : decode cX11_within 14 = .ok (.iconst 0, 1) := by decide +kernel
theorem dX11_within_15 : decode cX11_within 15 = .ok (.ireturn, 1) := by decide +kernel
theorem dX11_clamped_0 : decode cX11_clamped 0 = .ok (.iload_n 1, 1) := by decide +kernel
theorem dX11_clamped_1 : decode cX11_clamped 1 = .ok (.iload_n 2, 1) := by decide +kernel
theorem dX11_clamped_2 : decode cX11_clamped 2 = .ok (.iload_n 0, 1) := by decide +kernel
theorem dX11_clamped_3 : decode cX11_clamped 3 = .ok (.invokestatic 159, 3) := by decide +kernel
theorem dX11_clamped_6 : decode cX11_clamped 6 = .ok (.invokestatic 297, 3) := by decide +kernel
theorem dX11_clamped_9 : decode cX11_clamped 9 = .ok (.ireturn, 1) := by decide +kernel
theorem dX11_isLaw_0 : decode cX11_isLaw 0 = .ok (.sipush 128, 3) := by decide +kernel
theorem dX11_isLaw_3 : decode cX11_isLaw 3 = .ok (.iload_n 0, 1) := by decide +kernel
theorem dX11_isLaw_4 : decode cX11_isLaw 4 = .ok (.if_icmp .gt 14, 3) := by decide +kernel
theorem dX11_isLaw_7 : decode cX11_isLaw 7 = .ok (.iload_n 0, 1) := by decide +kernel
theorem dX11_isLaw_8 : decode cX11_isLaw 8 = .ok (.sipush 131, 3) := by decide +kernel
theorem dX11_isLaw_11 : decode cX11_isLaw 11 = .ok (.if_icmp .gt 7, 3) := by decide +kernel
theorem dX11_isLaw_14 : decode cX11_isLaw 14 = .ok (.iconst 1, 1) := by decide +kernel
theorem dX11_isLaw_15 : decode cX11_isLaw 15 = .ok (.goto 4, 3) := by decide +kernel
theorem dX11_isLaw_18 : decode cX11_isLaw 18 = .ok (.iconst 0, 1) := by decide +kernel
theorem dX11_isLaw_19 : decode cX11_isLaw 19 = .ok (.ireturn, 1) := by decide +kernel
theorem dX11_isText_0 : decode cX11_isText 0 = .ok (.iload_n 1, 1) := by decide +kernel
theorem dX11_isText_1 : decode cX11_isText 1 = .ok (.iconst 0, 1) := by decide +kernel
theorem dX11_isText_2 : decode cX11_isText 2 = .ok (.aload_n 0, 1) := by decide +kernel
theorem dX11_isText_3 : decode cX11_isText 3 = .ok (.getfield 19, 3) := by decide +kernel
theorem dX11_isText_6 : decode cX11_isText 6 = .ok (.getfield 183, 3) := by decide +kernel
theorem dX11_isText_9 : decode cX11_isText 9 = .ok (.iconst 1, 1) := by decide +kernel
theorem dX11_isText_10 : decode cX11_isText 10 = .ok (.isub, 1) := by decide +kernel
theorem dX11_isText_11 : decode cX11_isText 11 = .ok (.invokestatic 93, 3) := by decide +kernel
theorem dX11_isText_14 : decode cX11_isText 14 = .ok (.ireturn, 1) := by decide +kernel
theorem dX11_script_0 : decode cX11_script 0 = .ok (.iload_n 1, 1) := by decide +kernel
theorem dX11_script_1 : decode cX11_script 1 = .ok (.iconst 0, 1) := by decide +kernel
theorem dX11_script_2 : decode cX11_script 2 = .ok (.aload_n 0, 1) := by decide +kernel
theorem dX11_script_3 : decode cX11_script 3 = .ok (.getfield 33, 3) := by decide +kernel
theorem dX11_script_6 : decode cX11_script 6 = .ok (.arraylength, 1) := by decide +kernel
theorem dX11_script_7 : decode cX11_script 7 = .ok (.iconst 1, 1) := by decide +kernel
theorem dX11_script_8 : decode cX11_script 8 = .ok (.isub, 1) := by decide +kernel
theorem dX11_script_9 : decode cX11_script 9 = .ok (.invokestatic 93, 3) := by decide +kernel
theorem dX11_script_12 : decode cX11_script 12 = .ok (.ifCond .ne 8, 3) := by decide +kernel
theorem dX11_script_15 : decode cX11_script 15 = .ok (.aload_n 0, 1) := by decide +kernel
theorem dX11_script_16 : decode cX11_script 16 = .ok (.getfield 29, 3) := by decide +kernel
theorem dX11_script_19 : decode cX11_script 19 = .ok (.areturn, 1) := by decide +kernel
theorem dX11_script_20 : decode cX11_script 20 = .ok (.aload_n 0, 1) := by decide +kernel
theorem dX11_script_21 : decode cX11_script 21 = .ok (.getfield 33, 3) := by decide +kernel
theorem dX11_script_24 : decode cX11_script 24 = .ok (.iload_n 1, 1) := by decide +kernel
theorem dX11_script_25 : decode cX11_script 25 = .ok (.aaload, 1) := by decide +kernel
theorem dX11_script_26 : decode cX11_script 26 = .ok (.astore_n 2, 1) := by decide +kernel
theorem dX11_script_27 : decode cX11_script 27 = .ok (.aload_n 2, 1) := by decide +kernel
theorem dX11_script_28 : decode cX11_script 28 = .ok (.ifnonnull 10, 3) := by decide +kernel
theorem dX11_script_31 : decode cX11_script 31 = .ok (.aload_n 0, 1) := by decide +kernel
theorem dX11_script_32 : decode cX11_script 32 = .ok (.getfield 29, 3) := by decide +kernel
theorem dX11_script_35 : decode cX11_script 35 = .ok (.goto 4, 3) := by decide +kernel
theorem dX11_script_38 : decode cX11_script 38 = .ok (.aload_n 2, 1) := by decide +kernel
theorem dX11_script_39 : decode cX11_script 39 = .ok (.areturn, 1) := by decide +kernel
theorem dX11_necksNow_0 : decode cX11_necksNow 0 = .ok (.iconst 5, 1) := by decide +kernel
theorem dX11_necksNow_1 : decode cX11_necksNow 1 = .ok (.aload_n 0, 1) := by decide +kernel
theorem dX11_necksNow_2 : decode cX11_necksNow 2 = .ok (.getfield 19, 3) := by decide +kernel
theorem dX11_necksNow_5 : decode cX11_necksNow 5 = .ok (.getfield 39, 3) := by decide +kernel
theorem dX11_necksNow_8 : decode cX11_necksNow 8 = .ok (.getfield 97, 3) := by decide +kernel
theorem dX11_necksNow_11 : decode cX11_necksNow 11 = .ok (.invokestatic 159, 3) := by decide +kernel
theorem dX11_necksNow_14 : decode cX11_necksNow 14 = .ok (.ireturn, 1) := by decide +kernel
theorem dX11_foresee_0 : decode cX11_foresee 0 = .ok (.aload_n 0, 1) := by decide +kernel
theorem dX11_foresee_1 : decode cX11_foresee 1 = .ok (.getfield 53, 3) := by decide +kernel
theorem dX11_foresee_4 : decode cX11_foresee 4 = .ok (.getfield 283, 3) := by decide +kernel
theorem dX11_foresee_7 : decode cX11_foresee 7 = .ok (.astore_n 3, 1) := by decide +kernel
theorem dX11_foresee_8 : decode cX11_foresee 8 = .ok (.aload_n 3, 1) := by decide +kernel
theorem dX11_foresee_9 : decode cX11_foresee 9 = .ok (.aload_n 0, 1) := by decide +kernel
theorem dX11_foresee_10 : decode cX11_foresee 10 = .ok (.getfield 19, 3) := by decide +kernel
theorem dX11_foresee_13 : decode cX11_foresee 13 = .ok (.getfield 39, 3) := by decide +kernel
theorem dX11_foresee_16 : decode cX11_foresee 16 = .ok (.invokevirtual 337, 3) := by decide +kernel
theorem dX11_foresee_19 : decode cX11_foresee 19 = .ok (.aload_n 3, 1) := by decide +kernel
theorem dX11_foresee_20 : decode cX11_foresee 20 = .ok (.iconst 0, 1) := by decide +kernel
theorem dX11_foresee_21 : decode cX11_foresee 21 = .ok (.putfield 274, 3) := by decide +kernel
theorem dX11_foresee_24 : decode cX11_foresee 24 = .ok (.aload_n 0, 1) := by decide +kernel
theorem dX11_foresee_25 : decode cX11_foresee 25 = .ok (.getfield 53, 3) := by decide +kernel
theorem dX11_foresee_28 : decode cX11_foresee 28 = .ok (.getfield 212, 3) := by decide +kernel
theorem dX11_foresee_31 : decode cX11_foresee 31 = .ok (.aload_n 0, 1) := by decide +kernel
theorem dX11_foresee_32 : decode cX11_foresee 32 = .ok (.iload_n 2, 1) := by decide +kernel
theorem dX11_foresee_33 : decode cX11_foresee 33 = .ok (.invokevirtual 189, 3) := by decide +kernel
theorem dX11_foresee_36 : decode cX11_foresee 36 = .ok (.invokevirtual 216, 3) := by decide +kernel
theorem dX11_foresee_39 : decode cX11_foresee 39 = .ok (.iload_n 1, 1) := by decide +kernel
theorem dX11_foresee_40 : decode cX11_foresee 40 = .ok (.aload_n 3, 1) := by decide +kernel
theorem dX11_foresee_41 : decode cX11_foresee 41 = .ok (.invokevirtual 156, 3) := by decide +kernel
theorem dX11_foresee_44 : decode cX11_foresee 44 = .ok (.invokestatic 159, 3) := by decide +kernel
theorem dX11_foresee_47 : decode cX11_foresee 47 = .ok (.istore 4, 2) := by decide +kernel
theorem dX11_foresee_49 : decode cX11_foresee 49 = .ok (.iconst 0, 1) := by decide +kernel
theorem dX11_foresee_50 : decode cX11_foresee 50 = .ok (.istore 5, 2) := by decide +kernel
theorem dX11_foresee_52 : decode cX11_foresee 52 = .ok (.iconst 0, 1) := by decide +kernel
theorem dX11_foresee_53 : decode cX11_foresee 53 = .ok (.istore 6, 2) := by decide +kernel
theorem dX11_foresee_55 : decode cX11_foresee 55 = .ok (.iload 6, 2) := by decide +kernel
theorem dX11_foresee_57 : decode cX11_foresee 57 = .ok (.iload 4, 2) := by decide +kernel
theorem dX11_foresee_59 : decode cX11_foresee 59 = .ok (.if_icmp .ge 21, 3) := by decide +kernel
theorem dX11_foresee_62 : decode cX11_foresee 62 = .ok (.iload 5, 2) := by decide +kernel
theorem dX11_foresee_64 : decode cX11_foresee 64 = .ok (.aload_n 0, 1) := by decide +kernel
theorem dX11_foresee_65 : decode cX11_foresee 65 = .ok (.getfield 53, 3) := by decide +kernel
theorem dX11_foresee_68 : decode cX11_foresee 68 = .ok (.invokevirtual 164, 3) := by decide +kernel
theorem dX11_foresee_71 : decode cX11_foresee 71 = .ok (.iadd, 1) := by decide +kernel
theorem dX11_foresee_72 : decode cX11_foresee 72 = .ok (.istore 5, 2) := by decide +kernel
theorem dX11_foresee_74 : decode cX11_foresee 74 = .ok (.iinc 6 1, 3) := by decide +kernel
theorem dX11_foresee_77 : decode cX11_foresee 77 = .ok (.goto (-22), 3) := by decide +kernel
theorem dX11_foresee_80 : decode cX11_foresee 80 = .ok (.iload 5, 2) := by decide +kernel
theorem dX11_foresee_82 : decode cX11_foresee 82 = .ok (.ireturn, 1) := by decide +kernel
theorem dX11_play_0 : decode cX11_play 0 = .ok (.aload_n 1, 1) := by decide +kernel
theorem dX11_play_1 : decode cX11_play 1 = .ok (.iload_n 2, 1) := by decide +kernel
theorem dX11_play_2 : decode cX11_play 2 = .ok (.iconst 0, 1) := by decide +kernel
theorem dX11_play_3 : decode cX11_play 3 = .ok (.invokevirtual 339, 3) := by decide +kernel
theorem dX11_play_6 : decode cX11_play 6 = .ok (.istore_n 3, 1) := by decide +kernel
theorem dX11_play_7 : decode cX11_play 7 = .ok (.aload_n 1, 1) := by decide +kernel
theorem dX11_play_8 : decode cX11_play 8 = .ok (.iload_n 2, 1) := by decide +kernel
theorem dX11_play_9 : decode cX11_play 9 = .ok (.iconst 1, 1) := by decide +kernel
theorem dX11_play_10 : decode cX11_play 10 = .ok (.invokevirtual 339, 3) := by decide +kernel
theorem dX11_play_13 : decode cX11_play 13 = .ok (.istore 4, 2) := by decide +kernel
theorem dX11_play_15 : decode cX11_play 15 = .ok (.aload_n 1, 1) := by decide +kernel
theorem dX11_play_16 : decode cX11_play 16 = .ok (.iload_n 2, 1) := by decide +kernel
theorem dX11_play_17 : decode cX11_play 17 = .ok (.iconst 2, 1) := by decide +kernel
theorem dX11_play_18 : decode cX11_play 18 = .ok (.invokevirtual 339, 3) := by decide +kernel
theorem dX11_play_21 : decode cX11_play 21 = .ok (.istore 5, 2) := by decide +kernel
theorem dX11_play_23 : decode cX11_play 23 = .ok (.aload_n 1, 1) := by decide +kernel
theorem dX11_play_24 : decode cX11_play 24 = .ok (.iload_n 2, 1) := by decide +kernel
theorem dX11_play_25 : decode cX11_play 25 = .ok (.invokevirtual 224, 3) := by decide +kernel
theorem dX11_play_28 : decode cX11_play 28 = .ok (.tableswitch 187 132 139 #[48, 67, 84, 94, 110, 126, 145, 159], 48) := by decide +kernel
theorem dX11_play_76 : decode cX11_play 76 = .ok (.aload_n 0, 1) := by decide +kernel
theorem dX11_play_77 : decode cX11_play 77 = .ok (.iload_n 3, 1) := by decide +kernel
theorem dX11_play_78 : decode cX11_play 78 = .ok (.iload 4, 2) := by decide +kernel
theorem dX11_play_80 : decode cX11_play 80 = .ok (.iload 5, 2) := by decide +kernel
theorem dX11_play_82 : decode cX11_play 82 = .ok (.invokevirtual 342, 3) := by decide +kernel
theorem dX11_play_85 : decode cX11_play 85 = .ok (.iconst (-1), 1) := by decide +kernel
theorem dX11_play_86 : decode cX11_play 86 = .ok (.if_icmp .eq 7, 3) := by decide +kernel
theorem dX11_play_89 : decode cX11_play 89 = .ok (.iconst 1, 1) := by decide +kernel
theorem dX11_play_90 : decode cX11_play 90 = .ok (.goto 4, 3) := by decide +kernel
theorem dX11_play_93 : decode cX11_play 93 = .ok (.iconst 0, 1) := by decide +kernel
theorem dX11_play_94 : decode cX11_play 94 = .ok (.ireturn, 1) := by decide +kernel
theorem dX11_play_95 : decode cX11_play 95 = .ok (.aload_n 0, 1) := by decide +kernel
theorem dX11_play_96 : decode cX11_play 96 = .ok (.iload_n 3, 1) := by decide +kernel
theorem dX11_play_97 : decode cX11_play 97 = .ok (.iload 4, 2) := by decide +kernel
theorem dX11_play_99 : decode cX11_play 99 = .ok (.invokevirtual 345, 3) := by decide +kernel
theorem dX11_play_102 : decode cX11_play 102 = .ok (.iconst (-1), 1) := by decide +kernel
theorem dX11_play_103 : decode cX11_play 103 = .ok (.if_icmp .eq 7, 3) := by decide +kernel
theorem dX11_play_106 : decode cX11_play 106 = .ok (.iconst 1, 1) := by decide +kernel
theorem dX11_play_107 : decode cX11_play 107 = .ok (.goto 4, 3) := by decide +kernel
theorem dX11_play_110 : decode cX11_play 110 = .ok (.iconst 0, 1) := by decide +kernel
theorem dX11_play_111 : decode cX11_play 111 = .ok (.ireturn, 1) := by decide +kernel
theorem dX11_play_112 : decode cX11_play 112 = .ok (.aload_n 0, 1) := by decide +kernel
theorem dX11_play_113 : decode cX11_play 113 = .ok (.iload_n 3, 1) := by decide +kernel
theorem dX11_play_114 : decode cX11_play 114 = .ok (.iload 4, 2) := by decide +kernel
theorem dX11_play_116 : decode cX11_play 116 = .ok (.iload 5, 2) := by decide +kernel
theorem dX11_play_118 : decode cX11_play 118 = .ok (.invokevirtual 348, 3) := by decide +kernel
theorem dX11_play_121 : decode cX11_play 121 = .ok (.ireturn, 1) := by decide +kernel
theorem dX11_play_122 : decode cX11_play 122 = .ok (.aload_n 0, 1) := by decide +kernel
theorem dX11_play_123 : decode cX11_play 123 = .ok (.iload_n 3, 1) := by decide +kernel
theorem dX11_play_124 : decode cX11_play 124 = .ok (.iconst 1, 1) := by decide +kernel
theorem dX11_play_125 : decode cX11_play 125 = .ok (.invokevirtual 351, 3) := by decide +kernel
theorem dX11_play_128 : decode cX11_play 128 = .ok (.iconst (-1), 1) := by decide +kernel
theorem dX11_play_129 : decode cX11_play 129 = .ok (.if_icmp .eq 7, 3) := by decide +kernel
theorem dX11_play_132 : decode cX11_play 132 = .ok (.iconst 1, 1) := by decide +kernel
theorem dX11_play_133 : decode cX11_play 133 = .ok (.goto 4, 3) := by decide +kernel
theorem dX11_play_136 : decode cX11_play 136 = .ok (.iconst 0, 1) := by decide +kernel
theorem dX11_play_137 : decode cX11_play 137 = .ok (.ireturn, 1) := by decide +kernel
theorem dX11_play_138 : decode cX11_play 138 = .ok (.aload_n 0, 1) := by decide +kernel
theorem dX11_play_139 : decode cX11_play 139 = .ok (.iload_n 3, 1) := by decide +kernel
theorem dX11_play_140 : decode cX11_play 140 = .ok (.iconst (-1), 1) := by decide +kernel
theorem dX11_play_141 : decode cX11_play 141 = .ok (.invokevirtual 351, 3) := by decide +kernel
theorem dX11_play_144 : decode cX11_play 144 = .ok (.iconst (-1), 1) := by decide +kernel
theorem dX11_play_145 : decode cX11_play 145 = .ok (.if_icmp .eq 7, 3) := by decide +kernel
theorem dX11_play_148 : decode cX11_play 148 = .ok (.iconst 1, 1) := by decide +kernel
theorem dX11_play_149 : decode cX11_play 149 = .ok (.goto 4, 3) := by decide +kernel
theorem dX11_play_152 : decode cX11_play 152 = .ok (.iconst 0, 1) := by decide +kernel
theorem dX11_play_153 : decode cX11_play 153 = .ok (.ireturn, 1) := by decide +kernel
theorem dX11_play_154 : decode cX11_play 154 = .ok (.aload_n 0, 1) := by decide +kernel
theorem dX11_play_155 : decode cX11_play 155 = .ok (.iload_n 3, 1) := by decide +kernel
theorem dX11_play_156 : decode cX11_play 156 = .ok (.iload 4, 2) := by decide +kernel
theorem dX11_play_158 : decode cX11_play 158 = .ok (.iload 5, 2) := by decide +kernel
theorem dX11_play_160 : decode cX11_play 160 = .ok (.invokevirtual 354, 3) := by decide +kernel
theorem dX11_play_163 : decode cX11_play 163 = .ok (.iconst (-1), 1) := by decide +kernel
theorem dX11_play_164 : decode cX11_play 164 = .ok (.if_icmp .eq 7, 3) := by decide +kernel
theorem dX11_play_167 : decode cX11_play 167 = .ok (.iconst 1, 1) := by decide +kernel
theorem dX11_play_168 : decode cX11_play 168 = .ok (.goto 4, 3) := by decide +kernel
theorem dX11_play_171 : decode cX11_play 171 = .ok (.iconst 0, 1) := by decide +kernel
theorem dX11_play_172 : decode cX11_play 172 = .ok (.ireturn, 1) := by decide +kernel
theorem dX11_play_173 : decode cX11_play 173 = .ok (.aload_n 0, 1) := by decide +kernel
theorem dX11_play_174 : decode cX11_play 174 = .ok (.invokevirtual 357, 3) := by decide +kernel
theorem dX11_play_177 : decode cX11_play 177 = .ok (.iconst (-1), 1) := by decide +kernel
theorem dX11_play_178 : decode cX11_play 178 = .ok (.if_icmp .eq 7, 3) := by decide +kernel
theorem dX11_play_181 : decode cX11_play 181 = .ok (.iconst 1, 1) := by decide +kernel
theorem dX11_play_182 : decode cX11_play 182 = .ok (.goto 4, 3) := by decide +kernel
theorem dX11_play_185 : decode cX11_play 185 = .ok (.iconst 0, 1) := by decide +kernel
theorem dX11_play_186 : decode cX11_play 186 = .ok (.ireturn, 1) := by decide +kernel
theorem dX11_play_187 : decode cX11_play 187 = .ok (.iconst 0, 1) := by decide +kernel
theorem dX11_play_188 : decode cX11_play 188 = .ok (.istore 6, 2) := by decide +kernel
theorem dX11_play_190 : decode cX11_play 190 = .ok (.iload 6, 2) := by decide +kernel
theorem dX11_play_192 : decode cX11_play 192 = .ok (.iload_n 3, 1) := by decide +kernel
theorem dX11_play_193 : decode cX11_play 193 = .ok (.if_icmp .ge 20, 3) := by decide +kernel
theorem dX11_play_196 : decode cX11_play 196 = .ok (.aload_n 0, 1) := by decide +kernel
theorem dX11_play_197 : decode cX11_play 197 = .ok (.iconst 1, 1) := by decide +kernel
theorem dX11_play_198 : decode cX11_play 198 = .ok (.invokevirtual 360, 3) := by decide +kernel
theorem dX11_play_201 : decode cX11_play 201 = .ok (.iconst (-1), 1) := by decide +kernel
theorem dX11_play_202 : decode cX11_play 202 = .ok (.if_icmp .ne 5, 3) := by decide +kernel
theorem dX11_play_205 : decode cX11_play 205 = .ok (.iconst 0, 1) := by decide +kernel
theorem dX11_play_206 : decode cX11_play 206 = .ok (.ireturn, 1) := by decide +kernel
theorem dX11_play_207 : decode cX11_play 207 = .ok (.iinc 6 1, 3) := by decide +kernel
theorem dX11_play_210 : decode cX11_play 210 = .ok (.goto (-20), 3) := by decide +kernel
theorem dX11_play_213 : decode cX11_play 213 = .ok (.iconst 1, 1) := by decide +kernel
theorem dX11_play_214 : decode cX11_play 214 = .ok (.ireturn, 1) := by decide +kernel
theorem dX11_play_215 : decode cX11_play 215 = .ok (.iconst 0, 1) := by decide +kernel
theorem dX11_play_216 : decode cX11_play 216 = .ok (.ireturn, 1) := by decide +kernel
theorem dX12_init_0 : decode cX12_init 0 = .ok (.aload_n 0, 1) := by decide +kernel
theorem dX12_init_1 : decode cX12_init 1 = .ok (.invokespecial 1, 3) := by decide +kernel
theorem dX12_init_4 : decode cX12_init 4 = .ok (.aload_n 0, 1) := by decide +kernel
theorem dX12_init_5 : decode cX12_init 5 = .ok (.sipush 5130, 3) := by decide +kernel
theorem dX12_init_8 : decode cX12_init 8 = .ok (.newarray .int, 2) := by decide +kernel
theorem dX12_init_10 : decode cX12_init 10 = .ok (.putfield 7, 3) := by decide +kernel
theorem dX12_init_13 : decode cX12_init 13 = .ok (.aload_n 0, 1) := by decide +kernel
theorem dX12_init_14 : decode cX12_init 14 = .ok (.sipush 5130, 3) := by decide +kernel
theorem dX12_init_17 : decode cX12_init 17 = .ok (.newarray .int, 2) := by decide +kernel
theorem dX12_init_19 : decode cX12_init 19 = .ok (.putfield 13, 3) := by decide +kernel
theorem dX12_init_22 : decode cX12_init 22 = .ok (.aload_n 0, 1) := by decide +kernel
theorem dX12_init_23 : decode cX12_init 23 = .ok (.sipush 300, 3) := by decide +kernel
theorem dX12_init_26 : decode cX12_init 26 = .ok (.newarray .byte, 2) := by decide +kernel
theorem dX12_init_28 : decode cX12_init 28 = .ok (.putfield 16, 3) := by decide +kernel
theorem dX12_init_31 : decode cX12_init 31 = .ok (.aload_n 0, 1) := by decide +kernel
theorem dX12_init_32 : decode cX12_init 32 = .ok (.iconst (-1), 1) := by decide +kernel
theorem dX12_init_33 : decode cX12_init 33 = .ok (.putfield 20, 3) := by decide +kernel
theorem dX12_init_36 : decode cX12_init 36 = .ok (.aload_n 0, 1) := by decide +kernel
theorem dX12_init_37 : decode cX12_init 37 = .ok (.iconst (-1), 1) := by decide +kernel
theorem dX12_init_38 : decode cX12_init 38 = .ok (.putfield 24, 3) := by decide +kernel
theorem dX12_init_41 : decode cX12_init 41 = .ok (.aload_n 0, 1) := by decide +kernel
theorem dX12_init_42 : decode cX12_init 42 = .ok (.iconst 4, 1) := by decide +kernel
theorem dX12_init_43 : decode cX12_init 43 = .ok (.newarray .int, 2) := by decide +kernel
theorem dX12_init_45 : decode cX12_init 45 = .ok (.putfield 27, 3) := by decide +kernel
theorem dX12_init_48 : decode cX12_init 48 = .ok (.aload_n 0, 1) := by decide +kernel
theorem dX12_init_49 : decode cX12_init 49 = .ok (.bipush 96, 2) := by decide +kernel
theorem dX12_init_51 : decode cX12_init 51 = .ok (.newarray .int, 2) := by decide +kernel
theorem dX12_init_53 : decode cX12_init 53 = .ok (.putfield 30, 3) := by decide +kernel
theorem dX12_init_56 : decode cX12_init 56 = .ok (.aload_n 0, 1) := by decide +kernel
theorem dX12_init_57 : decode cX12_init 57 = .ok (.bipush 96, 2) := by decide +kernel
theorem dX12_init_59 : decode cX12_init 59 = .ok (.newarray .int, 2) := by decide +kernel
theorem dX12_init_61 : decode cX12_init 61 = .ok (.putfield 33, 3) := by decide +kernel
theorem dX12_init_64 : decode cX12_init 64 = .ok (.aload_n 0, 1) := by decide +kernel
theorem dX12_init_65 : decode cX12_init 65 = .ok (.bipush 96, 2) := by decide +kernel
theorem dX12_init_67 : decode cX12_init 67 = .ok (.newarray .int, 2) := by decide +kernel
theorem dX12_init_69 : decode cX12_init 69 = .ok (.putfield 36, 3) := by decide +kernel
theorem dX12_init_72 : decode cX12_init 72 = .ok (.aload_n 0, 1) := by decide +kernel
theorem dX12_init_73 : decode cX12_init 73 = .ok (.bipush 96, 2) := by decide +kernel
theorem dX12_init_75 : decode cX12_init 75 = .ok (.newarray .int, 2) := by decide +kernel
theorem dX12_init_77 : decode cX12_init 77 = .ok (.putfield 39, 3) := by decide +kernel
theorem dX12_init_80 : decode cX12_init 80 = .ok (.aload_n 0, 1) := by decide +kernel
theorem dX12_init_81 : decode cX12_init 81 = .ok (.bipush 96, 2) := by decide +kernel
theorem dX12_init_83 : decode cX12_init 83 = .ok (.newarray .int, 2) := by decide +kernel
theorem dX12_init_85 : decode cX12_init 85 = .ok (.putfield 42, 3) := by decide +kernel
theorem dX12_init_88 : decode cX12_init 88 = .ok (.aload_n 0, 1) := by decide +kernel
theorem dX12_init_89 : decode cX12_init 89 = .ok (.sipush 1600, 3) := by decide +kernel
theorem dX12_init_92 : decode cX12_init 92 = .ok (.newarray .int, 2) := by decide +kernel
theorem dX12_init_94 : decode cX12_init 94 = .ok (.putfield 45, 3) := by decide +kernel
theorem dX12_init_97 : decode cX12_init 97 = .ok (.aload_n 0, 1) := by decide +kernel
theorem dX12_init_98 : decode cX12_init 98 = .ok (.sipush 1600, 3) := by decide +kernel
theorem dX12_init_101 : decode cX12_init 101 = .ok (.newarray .int, 2) := by decide +kernel
theorem dX12_init_103 : decode cX12_init 103 = .ok (.putfield 48, 3) := by decide +kernel
theorem dX12_init_106 : decode cX12_init 106 = .ok (.aload_n 0, 1) := by decide +kernel
theorem dX12_init_107 : decode cX12_init 107 = .ok (.bipush 40, 2) := by decide +kernel
theorem dX12_init_109 : decode cX12_init 109 = .ok (.newarray .int, 2) := by decide +kernel
theorem dX12_init_111 : decode cX12_init 111 = .ok (.putfield 51, 3) := by decide +kernel
theorem dX12_init_114 : decode cX12_init 114 = .ok (.aload_n 0, 1) := by decide +kernel
theorem dX12_init_115 : decode cX12_init 115 = .ok (.bipush 41, 2) := by decide +kernel
theorem dX12_init_117 : decode cX12_init 117 = .ok (.newarray .int, 2) := by decide +kernel
theorem dX12_init_119 : decode cX12_init 119 = .ok (.putfield 54, 3) := by decide +kernel
theorem dX12_init_122 : decode cX12_init 122 = .ok (.aload_n 0, 1) := by decide +kernel
theorem dX12_init_123 : decode cX12_init 123 = .ok (.bipush 80, 2) := by decide +kernel
theorem dX12_init_125 : decode cX12_init 125 = .ok (.newarray .int, 2) := by decide +kernel
theorem dX12_init_127 : decode cX12_init 127 = .ok (.putfield 57, 3) := by decide +kernel
theorem dX12_init_130 : decode cX12_init 130 = .ok (.aload_n 0, 1) := by decide +kernel
theorem dX12_init_131 : decode cX12_init 131 = .ok (.bipush 80, 2) := by decide +kernel
theorem dX12_init_133 : decode cX12_init 133 = .ok (.newarray .int, 2) := by decide +kernel
theorem dX12_init_135 : decode cX12_init 135 = .ok (.putfield 60, 3) := by decide +kernel
theorem dX12_init_138 : decode cX12_init 138 = .ok (.aload_n 0, 1) := by decide +kernel
theorem dX12_init_139 : decode cX12_init 139 = .ok (.bipush 41, 2) := by decide +kernel
theorem dX12_init_141 : decode cX12_init 141 = .ok (.newarray .int, 2) := by decide +kernel
theorem dX12_init_143 : decode cX12_init 143 = .ok (.putfield 63, 3) := by decide +kernel
theorem dX12_init_146 : decode cX12_init 146 = .ok (.aload_n 0, 1) := by decide +kernel
theorem dX12_init_147 : decode cX12_init 147 = .ok (.bipush 24, 2) := by decide +kernel
theorem dX12_init_149 : decode cX12_init 149 = .ok (.newarray .int, 2) := by decide +kernel
theorem dX12_init_151 : decode cX12_init 151 = .ok (.putfield 66, 3) := by decide +kernel
theorem dX12_init_154 : decode cX12_init 154 = .ok (.aload_n 0, 1) := by decide +kernel
theorem dX12_init_155 : decode cX12_init 155 = .ok (.bipush 24, 2) := by decide +kernel
theorem dX12_init_157 : decode cX12_init 157 = .ok (.newarray .int, 2) := by decide +kernel
theorem dX12_init_159 : decode cX12_init 159 = .ok (.putfield 69, 3) := by decide +kernel
theorem dX12_init_162 : decode cX12_init 162 = .ok (.aload_n 0, 1) := by decide +kernel
theorem dX12_init_163 : decode cX12_init 163 = .ok (.bipush 24, 2) := by decide +kernel
theorem dX12_init_165 : decode cX12_init 165 = .ok (.newarray .int, 2) := by decide +kernel
theorem dX12_init_167 : decode cX12_init 167 = .ok (.putfield 72, 3) := by decide +kernel
theorem dX12_init_170 : decode cX12_init 170 = .ok (.aload_n 0, 1) := by decide +kernel
theorem dX12_init_171 : decode cX12_init 171 = .ok (.bipush 24, 2) := by decide +kernel
theorem dX12_init_173 : decode cX12_init 173 = .ok (.newarray .int, 2) := by decide +kernel
theorem dX12_init_175 : decode cX12_init 175 = .ok (.putfield 75, 3) := by decide +kernel
theorem dX12_init_178 : decode cX12_init 178 = .ok (.aload_n 0, 1) := by decide +kernel
theorem dX12_init_179 : decode cX12_init 179 = .ok (.bipush 24, 2) := by decide +kernel
theorem dX12_init_181 : decode cX12_init 181 = .ok (.newarray .int, 2) := by decide +kernel
theorem dX12_init_183 : decode cX12_init 183 = .ok (.putfield 78, 3) := by decide +kernel
theorem dX12_init_186 : decode cX12_init 186 = .ok (.aload_n 0, 1) := by decide +kernel
theorem dX12_init_187 : decode cX12_init 187 = .ok (.sipush 400, 3) := by decide +kernel
theorem dX12_init_190 : decode cX12_init 190 = .ok (.newarray .int, 2) := by decide +kernel
theorem dX12_init_192 : decode cX12_init 192 = .ok (.putfield 81, 3) := by decide +kernel
theorem dX12_init_195 : decode cX12_init 195 = .ok (.aload_n 0, 1) := by decide +kernel
theorem dX12_init_196 : decode cX12_init 196 = .ok (.sipush 400, 3) := by decide +kernel
theorem dX12_init_199 : decode cX12_init 199 = .ok (.newarray .int, 2) := by decide +kernel
theorem dX12_init_201 : decode cX12_init 201 = .ok (.putfield 84, 3) := by decide +kernel
theorem dX12_init_204 : decode cX12_init 204 = .ok (.aload_n 0, 1) := by decide +kernel
theorem dX12_init_205 : decode cX12_init 205 = .ok (.sipush 164, 3) := by decide +kernel
theorem dX12_init_208 : decode cX12_init 208 = .ok (.newarray .int, 2) := by decide +kernel
theorem dX12_init_210 : decode cX12_init 210 = .ok (.putfield 87, 3) := by decide +kernel
theorem dX12_init_213 : decode cX12_init 213 = .ok (.aload_n 0, 1) := by decide +kernel
theorem dX12_init_214 : decode cX12_init 214 = .ok (.bipush 10, 2) := by decide +kernel
theorem dX12_init_216 : decode cX12_init 216 = .ok (.newarray .int, 2) := by decide +kernel
theorem dX12_init_218 : decode cX12_init 218 = .ok (.putfield 90, 3) := by decide +kernel
theorem dX12_init_221 : decode cX12_init 221 = .ok (.aload_n 0, 1) := by decide +kernel
theorem dX12_init_222 : decode cX12_init 222 = .ok (.sipush 200, 3) := by decide +kernel
theorem dX12_init_225 : decode cX12_init 225 = .ok (.newarray .long, 2) := by decide +kernel
theorem dX12_init_227 : decode cX12_init 227 = .ok (.putfield 93, 3) := by decide +kernel
theorem dX12_init_230 : decode cX12_init 230 = .ok (.aload_n 0, 1) := by decide +kernel
theorem dX12_init_231 : decode cX12_init 231 = .ok (.sipush 2048, 3) := by decide +kernel
theorem dX12_init_234 : decode cX12_init 234 = .ok (.newarray .int, 2) := by decide +kernel
theorem dX12_init_236 : decode cX12_init 236 = .ok (.putfield 97, 3) := by decide +kernel
theorem dX12_init_239 : decode cX12_init 239 = .ok (.aload_n 0, 1) := by decide +kernel
theorem dX12_init_240 : decode cX12_init 240 = .ok (.sipush 128, 3) := by decide +kernel
theorem dX12_init_243 : decode cX12_init 243 = .ok (.newarray .int, 2) := by decide +kernel
theorem dX12_init_245 : decode cX12_init 245 = .ok (.putfield 100, 3) := by decide +kernel
theorem dX12_init_248 : decode cX12_init 248 = .ok (.aload_n 0, 1) := by decide +kernel
theorem dX12_init_249 : decode cX12_init 249 = .ok (.getfield 7, 3) := by decide +kernel
theorem dX12_init_252 : decode cX12_init 252 = .ok (.iconst 2, 1) := by decide +kernel
theorem dX12_init_253 : decode cX12_init 253 = .ok (.iconst (-1), 1) := by decide +kernel
theorem dX12_init_254 : decode cX12_init 254 = .ok (.iastore, 1) := by decide +kernel
theorem dX12_init_255 : decode cX12_init 255 = .ok (.aload_n 0, 1) := by decide +kernel
theorem dX12_init_256 : decode cX12_init 256 = .ok (.getfield 7, 3) := by decide +kernel
theorem dX12_init_259 : decode cX12_init 259 = .ok (.bipush 112, 2) := by decide +kernel
theorem dX12_init_261 : decode cX12_init 261 = .ok (.bipush 97, 2) := by decide +kernel
theorem dX12_init_263 : decode cX12_init 263 = .ok (.iastore, 1) := by decide +kernel
theorem dX12_init_264 : decode cX12_init 264 = .ok (.iconst 0, 1) := by decide +kernel
theorem dX12_init_265 : decode cX12_init 265 = .ok (.istore_n 1, 1) := by decide +kernel
theorem dX12_init_266 : decode cX12_init 266 = .ok (.iload_n 1, 1) := by decide +kernel
theorem dX12_init_267 : decode cX12_init 267 = .ok (.iconst 5, 1) := by decide +kernel
theorem dX12_init_268 : decode cX12_init 268 = .ok (.if_icmp .ge 19, 3) := by decide +kernel
theorem dX12_init_271 : decode cX12_init 271 = .ok (.aload_n 0, 1) := by decide +kernel
theorem dX12_init_272 : decode cX12_init 272 = .ok (.getfield 7, 3) := by decide +kernel
theorem dX12_init_275 : decode cX12_init 275 = .ok (.bipush 24, 2) := by decide +kernel
theorem dX12_init_277 : decode cX12_init 277 = .ok (.iload_n 1, 1) := by decide +kernel
theorem dX12_init_278 : decode cX12_init 278 = .ok (.iadd, 1) := by decide +kernel
theorem dX12_init_279 : decode cX12_init 279 = .ok (.iconst (-1), 1) := by decide +kernel
theorem dX12_init_280 : decode cX12_init 280 = .ok (.iastore, 1) := by decide +kernel
theorem dX12_init_281 : decode cX12_init 281 = .ok (.iinc 1 1, 3) := by decide +kernel
theorem dX12_init_284 : decode cX12_init 284 = .ok (.goto (-18), 3) := by decide +kernel
theorem dX12_init_287 : decode cX12_init 287 = .ok (.aload_n 0, 1) := by decide +kernel
theorem dX12_init_288 : decode cX12_init 288 = .ok (.iconst 1, 1) := by decide +kernel
theorem dX12_init_289 : decode cX12_init 289 = .ok (.invokevirtual 103, 3) := by decide +kernel
theorem dX12_init_292 : decode cX12_init 292 = .ok (.return_, 1) := by decide +kernel
theorem dX12_in_0 : decode cX12_in 0 = .ok (.iload_n 0, 1) := by decide +kernel
theorem dX12_in_1 : decode cX12_in 1 = .ok (.iload_n 1, 1) := by decide +kernel
theorem dX12_in_2 : decode cX12_in 2 = .ok (.if_icmp .lt 12, 3) := by decide +kernel
theorem dX12_in_5 : decode cX12_in 5 = .ok (.iload_n 0, 1) := by decide +kernel
theorem dX12_in_6 : decode cX12_in 6 = .ok (.iload_n 2, 1) := by decide +kernel
theorem dX12_in_7 : decode cX12_in 7 = .ok (.if_icmp .gt 7, 3) := by decide +kernel
theorem dX12_in_10 : decode cX12_in 10 = .ok (.iconst 1, 1) := by decide +kernel
theorem dX12_in_11 : decode cX12_in 11 = .ok (.goto 4, 3) := by decide +kernel
theorem dX12_in_14 : decode cX12_in 14 = .ok (.iconst 0, 1) := by decide +kernel
theorem dX12_in_15 : decode cX12_in 15 = .ok (.ireturn, 1) := by decide +kernel
theorem dX12_has_0 : decode cX12_has 0 = .ok (.iload_n 0, 1) := by decide +kernel
theorem dX12_has_1 : decode cX12_has 1 = .ok (.iload_n 1, 1) := by decide +kernel
theorem dX12_has_2 : decode cX12_has 2 = .ok (.ishr, 1) := by decide +kernel
theorem dX12_has_3 : decode cX12_has 3 = .ok (.iconst 1, 1) := by decide +kernel
theorem dX12_has_4 : decode cX12_has 4 = .ok (.iand, 1) := by decide +kernel
theorem dX12_has_5 : decode cX12_has 5 = .ok (.iconst 1, 1) := by decide +kernel
theorem dX12_has_6 : decode cX12_has 6 = .ok (.if_icmp .ne 7, 3) := by decide +kernel
theorem dX12_has_9 : decode cX12_has 9 = .ok (.iconst 1, 1) := by decide +kernel
theorem dX12_has_10 : decode cX12_has 10 = .ok (.goto 4, 3) := by decide +kernel
theorem dX12_has_13 : decode cX12_has 13 = .ok (.iconst 0, 1) := by decide +kernel
theorem dX12_has_14 : decode cX12_has 14 = .ok (.ireturn, 1) := by decide +kernel
theorem dX12_held_0 : decode cX12_held 0 = .ok (.lload_n 0, 1) := by decide +kernel
theorem dX12_held_1 : decode cX12_held 1 = .ok (.iload_n 2, 1) := by decide +kernel
theorem dX12_held_2 : decode cX12_held 2 = .ok (.i2l, 1) := by decide +kernel
theorem dX12_held_3 : decode cX12_held 3 = .ok (.lcmp, 1) := by decide +kernel
theorem dX12_held_4 : decode cX12_held 4 = .ok (.ifCond .ge 7, 3) := by decide +kernel
theorem dX12_held_7 : decode cX12_held 7 = .ok (.iload_n 2, 1) := by decide +kernel
theorem dX12_held_8 : decode cX12_held 8 = .ok (.goto 16, 3) := by decide +kernel
theorem dX12_held_11 : decode cX12_held 11 = .ok (.lload_n 0, 1) := by decide +kernel
theorem dX12_held_12 : decode cX12_held 12 = .ok (.iload_n 3, 1) := by decide +kernel
theorem dX12_held_13 : decode cX12_held 13 = .ok (.i2l, 1) := by decide +kernel
theorem dX12_held_14 : decode cX12_held 14 = .ok (.lcmp, 1) := by decide +kernel
theorem dX12_held_15 : decode cX12_held 15 = .ok (.ifCond .le 7, 3) := by decide +kernel
theorem dX12_held_18 : decode cX12_held 18 = .ok (.iload_n 3, 1) := by decide +kernel
theorem dX12_held_19 : decode cX12_held 19 = .ok (.goto 5, 3) := by decide +kernel
theorem dX12_held_22 : decode cX12_held 22 = .ok (.lload_n 0, 1) := by decide +kernel
theorem dX12_held_23 : decode cX12_held 23 = .ok (.l2i, 1) := by decide +kernel
theorem dX12_held_24 : decode cX12_held 24 = .ok (.ireturn, 1) := by decide +kernel
theorem dX12_copies_0 : decode cX12_copies 0 = .ok (.iconst 0, 1) := by decide +kernel
theorem dX12_copies_1 : decode cX12_copies 1 = .ok (.istore_n 2, 1) := by decide +kernel
theorem dX12_copies_2 : decode cX12_copies 2 = .ok (.iload_n 2, 1) := by decide +kernel
theorem dX12_copies_3 : decode cX12_copies 3 = .ok (.sipush 5130, 3) := by decide +kernel
theorem dX12_copies_6 : decode cX12_copies 6 = .ok (.if_icmp .ge 40, 3) := by decide +kernel
theorem dX12_copies_9 : decode cX12_copies 9 = .ok (.iload_n 1, 1) := by decide +kernel
theorem dX12_copies_10 : decode cX12_copies 10 = .ok (.ifCond .eq 18, 3) := by decide +kernel
theorem dX12_copies_13 : decode cX12_copies 13 = .ok (.aload_n 0, 1) := by decide +kernel
theorem dX12_copies_14 : decode cX12_copies 14 = .ok (.getfield 13, 3) := by decide +kernel
theorem dX12_copies_17 : decode cX12_copies 17 = .ok (.iload_n 2, 1) := by decide +kernel
theorem dX12_copies_18 : decode cX12_copies 18 = .ok (.aload_n 0, 1) := by decide +kernel
theorem dX12_copies_19 : decode cX12_copies 19 = .ok (.getfield 7, 3) := by decide +kernel
theorem dX12_copies_22 : decode cX12_copies 22 = .ok (.iload_n 2, 1) := by decide +kernel
theorem dX12_copies_23 : decode cX12_copies 23 = .ok (.iaload, 1) := by decide +kernel
theorem dX12_copies_24 : decode cX12_copies 24 = .ok (.iastore, 1) := by decide +kernel
theorem dX12_copies_25 : decode cX12_copies 25 = .ok (.goto 15, 3) := by decide +kernel
theorem dX12_copies_28 : decode cX12_copies 28 = .ok (.aload_n 0, 1) := by decide +kernel
theorem dX12_copies_29 : decode cX12_copies 29 = .ok (.getfield 7, 3) := by decide +kernel
theorem dX12_copies_32 : decode cX12_copies 32 = .ok (.iload_n 2, 1) := by decide +kernel
theorem dX12_copies_33 : decode cX12_copies 33 = .ok (.aload_n 0, 1) := by decide +kernel
theorem dX12_copies_34 : decode cX12_copies 34 = .ok (.getfield 13, 3) := by decide +kernel
theorem dX12_copies_37 : decode cX12_copies 37 = .ok (.iload_n 2, 1) := by decide +kernel
theorem dX12_copies_38 : decode cX12_copies 38 = .ok (.iaload, 1) := by decide +kernel
theorem dX12_copies_39 : decode cX12_copies 39 = .ok (.iastore, 1) := by decide +kernel
theorem dX12_copies_40 : decode cX12_copies 40 = .ok (.iinc 2 1, 3) := by decide +kernel
theorem dX12_copies_43 : decode cX12_copies 43 = .ok (.goto (-41), 3) := by decide +kernel
theorem dX12_copies_46 : decode cX12_copies 46 = .ok (.return_, 1) := by decide +kernel
theorem dX12_isOne_0 : decode cX12_isOne 0 = .ok (.iload_n 1, 1) := by decide +kernel
theorem dX12_isOne_1 : decode cX12_isOne 1 = .ok (.iconst 0, 1) := by decide +kernel
theorem dX12_isOne_2 : decode cX12_isOne 2 = .ok (.aload_n 0, 1) := by decide +kernel
theorem dX12_isOne_3 : decode cX12_isOne 3 = .ok (.getfield 7, 3) := by decide +kernel
theorem dX12_isOne_6 : decode cX12_isOne 6 = .ok (.iconst 0, 1) := by decide +kernel
theorem dX12_isOne_7 : decode cX12_isOne 7 = .ok (.iaload, 1) := by decide +kernel
theorem dX12_isOne_8 : decode cX12_isOne 8 = .ok (.iconst 1, 1) := by decide +kernel
theorem dX12_isOne_9 : decode cX12_isOne 9 = .ok (.isub, 1) := by decide +kernel
theorem dX12_isOne_10 : decode cX12_isOne 10 = .ok (.invokestatic 107, 3) := by decide +kernel
theorem dX12_isOne_13 : decode cX12_isOne 13 = .ok (.ireturn, 1) := by decide +kernel
theorem dX12_areTwo_0 : decode cX12_areTwo 0 = .ok (.aload_n 0, 1) := by decide +kernel
theorem dX12_areTwo_1 : decode cX12_areTwo 1 = .ok (.iload_n 1, 1) := by decide +kernel
theorem dX12_areTwo_2 : decode cX12_areTwo 2 = .ok (.invokevirtual 111, 3) := by decide +kernel
theorem dX12_areTwo_5 : decode cX12_areTwo 5 = .ok (.ifCond .eq 20, 3) := by decide +kernel
theorem dX12_areTwo_8 : decode cX12_areTwo 8 = .ok (.aload_n 0, 1) := by decide +kernel
theorem dX12_areTwo_9 : decode cX12_areTwo 9 = .ok (.iload_n 2, 1) := by decide +kernel
theorem dX12_areTwo_10 : decode cX12_areTwo 10 = .ok (.invokevirtual 111, 3) := by decide +kernel
theorem dX12_areTwo_13 : decode cX12_areTwo 13 = .ok (.ifCond .eq 12, 3) := by decide +kernel
theorem dX12_areTwo_16 : decode cX12_areTwo 16 = .ok (.iload_n 1, 1) := by decide +kernel
theorem dX12_areTwo_17 : decode cX12_areTwo 17 = .ok (.iload_n 2, 1) := by decide +kernel
theorem dX12_areTwo_18 : decode cX12_areTwo 18 = .ok (.if_icmp .eq 7, 3) := by decide +kernel
theorem dX12_areTwo_21 : decode cX12_areTwo 21 = .ok (.iconst 1, 1) := by decide +kernel
theorem dX12_areTwo_22 : decode cX12_areTwo 22 = .ok (.goto 4, 3) := by decide +kernel
theorem dX12_areTwo_25 : decode cX12_areTwo 25 = .ok (.iconst 0, 1) := by decide +kernel
theorem dX12_areTwo_26 : decode cX12_areTwo 26 = .ok (.ireturn, 1) := by decide +kernel
theorem dX12_tells_0 : decode cX12_tells 0 = .ok (.aload_n 0, 1) := by decide +kernel
theorem dX12_tells_1 : decode cX12_tells 1 = .ok (.getfield 7, 3) := by decide +kernel
theorem dX12_tells_4 : decode cX12_tells 4 = .ok (.bipush 40, 2) := by decide +kernel
theorem dX12_tells_6 : decode cX12_tells 6 = .ok (.iload_n 1, 1) := by decide +kernel
theorem dX12_tells_7 : decode cX12_tells 7 = .ok (.iadd, 1) := by decide +kernel
theorem dX12_tells_8 : decode cX12_tells 8 = .ok (.iload_n 2, 1) := by decide +kernel
theorem dX12_tells_9 : decode cX12_tells 9 = .ok (.iastore, 1) := by decide +kernel
theorem dX12_tells_10 : decode cX12_tells 10 = .ok (.iconst 0, 1) := by decide +kernel
theorem dX12_tells_11 : decode cX12_tells 11 = .ok (.istore_n 3, 1) := by decide +kernel
theorem dX12_tells_12 : decode cX12_tells 12 = .ok (.iload_n 3, 1) := by decide +kernel
theorem dX12_tells_13 : decode cX12_tells 13 = .ok (.aload_n 0, 1) := by decide +kernel
theorem dX12_tells_14 : decode cX12_tells 14 = .ok (.getfield 7, 3) := by decide +kernel
theorem dX12_tells_17 : decode cX12_tells 17 = .ok (.iconst 3, 1) := by decide +kernel
theorem dX12_tells_18 : decode cX12_tells 18 = .ok (.iaload, 1) := by decide +kernel
theorem dX12_tells_19 : decode cX12_tells 19 = .ok (.if_icmp .ge 26, 3) := by decide +kernel
theorem dX12_tells_22 : decode cX12_tells 22 = .ok (.aload_n 0, 1) := by decide +kernel
theorem dX12_tells_23 : decode cX12_tells 23 = .ok (.getfield 7, 3) := by decide +kernel
theorem dX12_tells_26 : decode cX12_tells 26 = .ok (.sipush 210, 3) := by decide +kernel
theorem dX12_tells_29 : decode cX12_tells 29 = .ok (.sipush 164, 3) := by decide +kernel
theorem dX12_tells_32 : decode cX12_tells 32 = .ok (.iload_n 3, 1) := by decide +kernel
theorem dX12_tells_33 : decode cX12_tells 33 = .ok (.imul, 1) := by decide +kernel
theorem dX12_tells_34 : decode cX12_tells 34 = .ok (.iadd, 1) := by decide +kernel
theorem dX12_tells_35 : decode cX12_tells 35 = .ok (.iload_n 1, 1) := by decide +kernel
theorem dX12_tells_36 : decode cX12_tells 36 = .ok (.iadd, 1) := by decide +kernel
theorem dX12_tells_37 : decode cX12_tells 37 = .ok (.iload_n 2, 1) := by decide +kernel
theorem dX12_tells_38 : decode cX12_tells 38 = .ok (.iastore, 1) := by decide +kernel
theorem dX12_tells_39 : decode cX12_tells 39 = .ok (.iinc 3 1, 3) := by decide +kernel
theorem dX12_tells_42 : decode cX12_tells 42 = .ok (.goto (-30), 3) := by decide +kernel
theorem dX12_tells_45 : decode cX12_tells 45 = .ok (.return_, 1) := by decide +kernel
theorem dX12_person_0 : decode cX12_person 0 = .ok (.aload_n 0, 1) := by decide +kernel
theorem dX12_person_1 : decode cX12_person 1 = .ok (.getfield 7, 3) := by decide +kernel
theorem dX12_person_4 : decode cX12_person 4 = .ok (.iconst 0, 1) := by decide +kernel
theorem dX12_person_5 : decode cX12_person 5 = .ok (.iaload, 1) := by decide +kernel
theorem dX12_person_6 : decode cX12_person 6 = .ok (.istore 4, 2) := by decide +kernel
theorem dX12_person_8 : decode cX12_person 8 = .ok (.iload_n 1, 1) := by decide +kernel
theorem dX12_person_9 : decode cX12_person 9 = .ok (.iconst 0, 1) := by decide +kernel
theorem dX12_person_10 : decode cX12_person 10 = .ok (.bipush 99, 2) := by decide +kernel
theorem dX12_person_12 : decode cX12_person 12 = .ok (.invokestatic 107, 3) := by decide +kernel
theorem dX12_person_15 : decode cX12_person 15 = .ok (.ifCond .eq 30, 3) := by decide +kernel
theorem dX12_person_18 : decode cX12_person 18 = .ok (.iload_n 2, 1) := by decide +kernel
theorem dX12_person_19 : decode cX12_person 19 = .ok (.iconst 0, 1) := by decide +kernel
theorem dX12_person_20 : decode cX12_person 20 = .ok (.bipush 99, 2) := by decide +kernel
theorem dX12_person_22 : decode cX12_person 22 = .ok (.invokestatic 107, 3) := by decide +kernel
theorem dX12_person_25 : decode cX12_person 25 = .ok (.ifCond .eq 20, 3) := by decide +kernel
theorem dX12_person_28 : decode cX12_person 28 = .ok (.iload_n 3, 1) := by decide +kernel
theorem dX12_person_29 : decode cX12_person 29 = .ok (.iconst 0, 1) := by decide +kernel
theorem dX12_person_30 : decode cX12_person 30 = .ok (.bipush 7, 2) := by decide +kernel
theorem dX12_person_32 : decode cX12_person 32 = .ok (.invokestatic 107, 3) := by decide +kernel
theorem dX12_person_35 : decode cX12_person 35 = .ok (.ifCond .eq 10, 3) := by decide +kernel
theorem dX12_person_38 : decode cX12_person 38 = .ok (.iload 4, 2) := by decide +kernel
theorem dX12_person_40 : decode cX12_person 40 = .ok (.bipush 7, 2) := by decide +kernel
theorem dX12_person_42 : decode cX12_person 42 = .ok (.if_icmp .ne 5, 3) := by decide +kernel
theorem dX12_person_45 : decode cX12_person 45 = .ok (.iconst (-1), 1) := by decide +kernel
theorem dX12_person_46 : decode cX12_person 46 = .ok (.ireturn, 1) := by decide +kernel
theorem dX12_person_47 : decode cX12_person 47 = .ok (.aload_n 0, 1) := by decide +kernel
theorem dX12_person_48 : decode cX12_person 48 = .ok (.getfield 7, 3) := by decide +kernel
theorem dX12_person_51 : decode cX12_person 51 = .ok (.bipush 10, 2) := by decide +kernel
theorem dX12_person_53 : decode cX12_person 53 = .ok (.iload 4, 2) := by decide +kernel
theorem dX12_person_55 : decode cX12_person 55 = .ok (.iadd, 1) := by decide +kernel
theorem dX12_person_56 : decode cX12_person 56 = .ok (.iload_n 1, 1) := by decide +kernel
theorem dX12_person_57 : decode cX12_person 57 = .ok (.iastore, 1) := by decide +kernel
theorem dX12_person_58 : decode cX12_person 58 = .ok (.aload_n 0, 1) := by decide +kernel
theorem dX12_person_59 : decode cX12_person 59 = .ok (.getfield 7, 3) := by decide +kernel
theorem dX12_person_62 : decode cX12_person 62 = .ok (.bipush 17, 2) := by decide +kernel
theorem dX12_person_64 : decode cX12_person 64 = .ok (.iload 4, 2) := by decide +kernel
theorem dX12_person_66 : decode cX12_person 66 = .ok (.iadd, 1) := by decide +kernel
theorem dX12_person_67 : decode cX12_person 67 = .ok (.iload_n 2, 1) := by decide +kernel
theorem dX12_person_68 : decode cX12_person 68 = .ok (.iastore, 1) := by decide +kernel
theorem dX12_person_69 : decode cX12_person 69 = .ok (.aload_n 0, 1) := by decide +kernel
theorem dX12_person_70 : decode cX12_person 70 = .ok (.iconst 0, 1) := by decide +kernel
theorem dX12_person_71 : decode cX12_person 71 = .ok (.iload 4, 2) := by decide +kernel
theorem dX12_person_73 : decode cX12_person 73 = .ok (.iadd, 1) := by decide +kernel
theorem dX12_person_74 : decode cX12_person 74 = .ok (.iload_n 2, 1) := by decide +kernel
theorem dX12_person_75 : decode cX12_person 75 = .ok (.invokevirtual 115, 3) := by decide +kernel
theorem dX12_person_78 : decode cX12_person 78 = .ok (.aload_n 0, 1) := by decide +kernel
theorem dX12_person_79 : decode cX12_person 79 = .ok (.bipush 7, 2) := by decide +kernel
theorem dX12_person_81 : decode cX12_person 81 = .ok (.iload 4, 2) := by decide +kernel
theorem dX12_person_83 : decode cX12_person 83 = .ok (.iadd, 1) := by decide +kernel
theorem dX12_person_84 : decode cX12_person 84 = .ok (.iload_n 3, 1) := by decide +kernel
theorem dX12_person_85 : decode cX12_person 85 = .ok (.invokevirtual 115, 3) := by decide +kernel
theorem dX12_person_88 : decode cX12_person 88 = .ok (.aload_n 0, 1) := by decide +kernel
theorem dX12_person_89 : decode cX12_person 89 = .ok (.getfield 7, 3) := by decide +kernel
theorem dX12_person_92 : decode cX12_person 92 = .ok (.iconst 0, 1) := by decide +kernel
theorem dX12_person_93 : decode cX12_person 93 = .ok (.dup2, 1) := by decide +kernel
theorem dX12_person_94 : decode cX12_person 94 = .ok (.iaload, 1) := by decide +kernel
theorem dX12_person_95 : decode cX12_person 95 = .ok (.iconst 1, 1) := by decide +kernel
theorem dX12_person_96 : decode cX12_person 96 = .ok (.iadd, 1) := by decide +kernel
theorem dX12_person_97 : decode cX12_person 97 = .ok (.iastore, 1) := by decide +kernel
theorem dX12_person_98 : decode cX12_person 98 = .ok (.iload 4, 2) := by decide +kernel
theorem dX12_person_100 : decode cX12_person 100 = .ok (.ireturn, 1) := by decide +kernel
theorem dX12_keepsStep_0 : decode cX12_keepsStep 0 = .ok (.aload_n 0, 1) := by decide +kernel
theorem dX12_keepsStep_1 : decode cX12_keepsStep 1 = .ok (.getfield 7, 3) := by decide +kernel
theorem dX12_keepsStep_4 : decode cX12_keepsStep 4 = .ok (.iconst 3, 1) := by decide +kernel
theorem dX12_keepsStep_5 : decode cX12_keepsStep 5 = .ok (.iaload, 1) := by decide +kernel
theorem dX12_keepsStep_6 : decode cX12_keepsStep 6 = .ok (.bipush 30, 2) := by decide +kernel
theorem dX12_keepsStep_8 : decode cX12_keepsStep 8 = .ok (.if_icmp .ne 44, 3) := by decide +kernel
theorem dX12_keepsStep_11 : decode cX12_keepsStep 11 = .ok (.sipush 210, 3) := by decide +kernel
theorem dX12_keepsStep_14 : decode cX12_keepsStep 14 = .ok (.istore_n 1, 1) := by decide +kernel
theorem dX12_keepsStep_15 : decode cX12_keepsStep 15 = .ok (.iload_n 1, 1) := by decide +kernel
theorem dX12_keepsStep_16 : decode cX12_keepsStep 16 = .ok (.sipush 4966, 3) := by decide +kernel
theorem dX12_keepsStep_19 : decode cX12_keepsStep 19 = .ok (.if_icmp .ge 25, 3) := by decide +kernel
theorem dX12_keepsStep_22 : decode cX12_keepsStep 22 = .ok (.aload_n 0, 1) := by decide +kernel
theorem dX12_keepsStep_23 : decode cX12_keepsStep 23 = .ok (.getfield 7, 3) := by decide +kernel
theorem dX12_keepsStep_26 : decode cX12_keepsStep 26 = .ok (.iload_n 1, 1) := by decide +kernel
theorem dX12_keepsStep_27 : decode cX12_keepsStep 27 = .ok (.aload_n 0, 1) := by decide +kernel
theorem dX12_keepsStep_28 : decode cX12_keepsStep 28 = .ok (.getfield 7, 3) := by decide +kernel
theorem dX12_keepsStep_31 : decode cX12_keepsStep 31 = .ok (.iload_n 1, 1) := by decide +kernel
theorem dX12_keepsStep_32 : decode cX12_keepsStep 32 = .ok (.sipush 164, 3) := by decide +kernel
theorem dX12_keepsStep_35 : decode cX12_keepsStep 35 = .ok (.iadd, 1) := by decide +kernel
theorem dX12_keepsStep_36 : decode cX12_keepsStep 36 = .ok (.iaload, 1) := by decide +kernel
theorem dX12_keepsStep_37 : decode cX12_keepsStep 37 = .ok (.iastore, 1) := by decide +kernel
theorem dX12_keepsStep_38 : decode cX12_keepsStep 38 = .ok (.iinc 1 1, 3) := by decide +kernel
theorem dX12_keepsStep_41 : decode cX12_keepsStep 41 = .ok (.goto (-26), 3) := by decide +kernel
theorem dX12_keepsStep_44 : decode cX12_keepsStep 44 = .ok (.aload_n 0, 1) := by decide +kernel
theorem dX12_keepsStep_45 : decode cX12_keepsStep 45 = .ok (.getfield 7, 3) := by decide +kernel
theorem dX12_keepsStep_48 : decode cX12_keepsStep 48 = .ok (.iconst 3, 1) := by decide +kernel
theorem dX12_keepsStep_49 : decode cX12_keepsStep 49 = .ok (.bipush 29, 2) := by decide +kernel
theorem dX12_keepsStep_51 : decode cX12_keepsStep 51 = .ok (.iastore, 1) := by decide +kernel
theorem dX12_keepsStep_52 : decode cX12_keepsStep 52 = .ok (.iconst 0, 1) := by decide +kernel
theorem dX12_keepsStep_53 : decode cX12_keepsStep 53 = .ok (.istore_n 1, 1) := by decide +kernel
theorem dX12_keepsStep_54 : decode cX12_keepsStep 54 = .ok (.iload_n 1, 1) := by decide +kernel
theorem dX12_keepsStep_55 : decode cX12_keepsStep 55 = .ok (.sipush 164, 3) := by decide +kernel
theorem dX12_keepsStep_58 : decode cX12_keepsStep 58 = .ok (.if_icmp .ge 39, 3) := by decide +kernel
theorem dX12_keepsStep_61 : decode cX12_keepsStep 61 = .ok (.aload_n 0, 1) := by decide +kernel
theorem dX12_keepsStep_62 : decode cX12_keepsStep 62 = .ok (.getfield 7, 3) := by decide +kernel
theorem dX12_keepsStep_65 : decode cX12_keepsStep 65 = .ok (.sipush 210, 3) := by decide +kernel
theorem dX12_keepsStep_68 : decode cX12_keepsStep 68 = .ok (.sipush 164, 3) := by decide +kernel
theorem dX12_keepsStep_71 : decode cX12_keepsStep 71 = .ok (.aload_n 0, 1) := by decide +kernel
theorem dX12_keepsStep_72 : decode cX12_keepsStep 72 = .ok (.getfield 7, 3) := by decide +kernel
theorem dX12_keepsStep_75 : decode cX12_keepsStep 75 = .ok (.iconst 3, 1) := by decide +kernel
theorem dX12_keepsStep_76 : decode cX12_keepsStep 76 = .ok (.iaload, 1) := by decide +kernel
theorem dX12_keepsStep_77 : decode cX12_keepsStep 77 = .ok (.imul, 1) := by decide +kernel
theorem dX12_keepsStep_78 : decode cX12_keepsStep 78 = .ok (.iadd, 1) := by decide +kernel
theorem dX12_keepsStep_79 : decode cX12_keepsStep 79 = .ok (.iload_n 1, 1) := by decide +kernel
theorem dX12_keepsStep_80 : decode cX12_keepsStep 80 = .ok (.iadd, 1) := by decide +kernel
theorem dX12_keepsStep_81 : decode cX12_keepsStep 81 = .ok (.aload_n 0, 1) := by decide +kernel
theorem dX12_keepsStep_82 : decode cX12_keepsStep 82 = .ok (.getfield 7, 3) := by decide +kernel
theorem dX12_keepsStep_85 : decode cX12_keepsStep 85 = .ok (.bipush 40, 2) := by decide +kernel
theorem dX12_keepsStep_87 : decode cX12_keepsStep 87 = .ok (.iload_n 1, 1) := by decide +kernel
theorem dX12_keepsStep_88 : decode cX12_keepsStep 88 = .ok (.iadd, 1) := by decide +kernel
theorem dX12_keepsStep_89 : decode cX12_keepsStep 89 = .ok (.iaload, 1) := by decide +kernel
theorem dX12_keepsStep_90 : decode cX12_keepsStep 90 = .ok (.iastore, 1) := by decide +kernel
theorem dX12_keepsStep_91 : decode cX12_keepsStep 91 = .ok (.iinc 1 1, 3) := by decide +kernel
theorem dX12_keepsStep_94 : decode cX12_keepsStep 94 = .ok (.goto (-40), 3) := by decide +kernel
theorem dX12_keepsStep_97 : decode cX12_keepsStep 97 = .ok (.aload_n 0, 1) := by decide +kernel
theorem dX12_keepsStep_98 : decode cX12_keepsStep 98 = .ok (.getfield 7, 3) := by decide +kernel
theorem dX12_keepsStep_101 : decode cX12_keepsStep 101 = .ok (.iconst 3, 1) := by decide +kernel
theorem dX12_keepsStep_102 : decode cX12_keepsStep 102 = .ok (.dup2, 1) := by decide +kernel
theorem dX12_keepsStep_103 : decode cX12_keepsStep 103 = .ok (.iaload, 1) := by decide +kernel
theorem dX12_keepsStep_104 : decode cX12_keepsStep 104 = .ok (.iconst 1, 1) := by decide +kernel
theorem dX12_keepsStep_105 : decode cX12_keepsStep 105 = .ok (.iadd, 1) := by decide +kernel
theorem dX12_keepsStep_106 : decode cX12_keepsStep 106 = .ok (.iastore, 1) := by decide +kernel
theorem dX12_keepsStep_107 : decode cX12_keepsStep 107 = .ok (.return_, 1) := by decide +kernel
theorem dX12_undo_0 : decode cX12_undo 0 = .ok (.aload_n 0, 1) := by decide +kernel
theorem dX12_undo_1 : decode cX12_undo 1 = .ok (.getfield 7, 3) := by decide +kernel
theorem dX12_undo_4 : decode cX12_undo 4 = .ok (.iconst 3, 1) := by decide +kernel
theorem dX12_undo_5 : decode cX12_undo 5 = .ok (.iaload, 1) := by decide +kernel
theorem dX12_undo_6 : decode cX12_undo 6 = .ok (.ifCond .ne 5, 3) := by decide +kernel
theorem dX12_undo_9 : decode cX12_undo 9 = .ok (.iconst (-1), 1) := by decide +kernel
theorem dX12_undo_10 : decode cX12_undo 10 = .ok (.ireturn, 1) := by decide +kernel
theorem dX12_undo_11 : decode cX12_undo 11 = .ok (.aload_n 0, 1) := by decide +kernel
theorem dX12_undo_12 : decode cX12_undo 12 = .ok (.getfield 7, 3) := by decide +kernel
theorem dX12_undo_15 : decode cX12_undo 15 = .ok (.iconst 3, 1) := by decide +kernel
theorem dX12_undo_16 : decode cX12_undo 16 = .ok (.dup2, 1) := by decide +kernel
theorem dX12_undo_17 : decode cX12_undo 17 = .ok (.iaload, 1) := by decide +kernel
theorem dX12_undo_18 : decode cX12_undo 18 = .ok (.iconst 1, 1) := by decide +kernel
theorem dX12_undo_19 : decode cX12_undo 19 = .ok (.isub, 1) := by decide +kernel
theorem dX12_undo_20 : decode cX12_undo 20 = .ok (.iastore, 1) := by decide +kernel
theorem dX12_undo_21 : decode cX12_undo 21 = .ok (.iconst 0, 1) := by decide +kernel
theorem dX12_undo_22 : decode cX12_undo 22 = .ok (.istore_n 1, 1) := by decide +kernel
theorem dX12_undo_23 : decode cX12_undo 23 = .ok (.iload_n 1, 1) := by decide +kernel
theorem dX12_undo_24 : decode cX12_undo 24 = .ok (.sipush 164, 3) := by decide +kernel
theorem dX12_undo_27 : decode cX12_undo 27 = .ok (.if_icmp .ge 39, 3) := by decide +kernel
theorem dX12_undo_30 : decode cX12_undo 30 = .ok (.aload_n 0, 1) := by decide +kernel
theorem dX12_undo_31 : decode cX12_undo 31 = .ok (.getfield 7, 3) := by decide +kernel
theorem dX12_undo_34 : decode cX12_undo 34 = .ok (.bipush 40, 2) := by decide +kernel
theorem dX12_undo_36 : decode cX12_undo 36 = .ok (.iload_n 1, 1) := by decide +kernel
theorem dX12_undo_37 : decode cX12_undo 37 = .ok (.iadd, 1) := by decide +kernel
theorem dX12_undo_38 : decode cX12_undo 38 = .ok (.aload_n 0, 1) := by decide +kernel
theorem dX12_undo_39 : decode cX12_undo 39 = .ok (.getfield 7, 3) := by decide +kernel
theorem dX12_undo_42 : decode cX12_undo 42 = .ok (.sipush 210, 3) := by decide +kernel
theorem dX12_undo_45 : decode cX12_undo 45 = .ok (.sipush 164, 3) := by decide +kernel
theorem dX12_undo_48 : decode cX12_undo 48 = .ok (.aload_n 0, 1) := by decide +kernel
theorem dX12_undo_49 : decode cX12_undo 49 = .ok (.getfield 7, 3) := by decide +kernel
theorem dX12_undo_52 : decode cX12_undo 52 = .ok (.iconst 3, 1) := by decide +kernel
theorem dX12_undo_53 : decode cX12_undo 53 = .ok (.iaload, 1) := by decide +kernel
theorem dX12_undo_54 : decode cX12_undo 54 = .ok (.imul, 1) := by decide +kernel
theorem dX12_undo_55 : decode cX12_undo 55 = .ok (.iadd, 1) := by decide +kernel
theorem dX12_undo_56 : decode cX12_undo 56 = .ok (.iload_n 1, 1) := by decide +kernel
theorem dX12_undo_57 : decode cX12_undo 57 = .ok (.iadd, 1) := by decide +kernel
theorem dX12_undo_58 : decode cX12_undo 58 = .ok (.iaload, 1) := by decide +kernel
theorem dX12_undo_59 : decode cX12_undo 59 = .ok (.iastore, 1) := by decide +kernel
theorem dX12_undo_60 : decode cX12_undo 60 = .ok (.iinc 1 1, 3) := by decide +kernel
theorem dX12_undo_63 : decode cX12_undo 63 = .ok (.goto (-40), 3) := by decide +kernel
theorem dX12_undo_66 : decode cX12_undo 66 = .ok (.aload_n 0, 1) := by decide +kernel
theorem dX12_undo_67 : decode cX12_undo 67 = .ok (.getfield 7, 3) := by decide +kernel
theorem dX12_undo_70 : decode cX12_undo 70 = .ok (.iconst 3, 1) := by decide +kernel
theorem dX12_undo_71 : decode cX12_undo 71 = .ok (.iaload, 1) := by decide +kernel
theorem dX12_undo_72 : decode cX12_undo 72 = .ok (.ireturn, 1) := by decide +kernel
theorem dX12_put_0 : decode cX12_put 0 = .ok (.bipush 24, 2) := by decide +kernel
theorem dX12_put_2 : decode cX12_put 2 = .ok (.istore_n 2, 1) := by decide +kernel
theorem dX12_put_3 : decode cX12_put 3 = .ok (.iload_n 2, 1) := by decide +kernel
theorem dX12_put_4 : decode cX12_put 4 = .ok (.ifCond .lt 34, 3) := by decide +kernel
theorem dX12_put_7 : decode cX12_put 7 = .ok (.aload_n 0, 1) := by decide +kernel
theorem dX12_put_8 : decode cX12_put 8 = .ok (.getfield 16, 3) := by decide +kernel
theorem dX12_put_11 : decode cX12_put 11 = .ok (.aload_n 0, 1) := by decide +kernel
theorem dX12_put_12 : decode cX12_put 12 = .ok (.getfield 119, 3) := by decide +kernel
theorem dX12_put_15 : decode cX12_put 15 = .ok (.iload_n 1, 1) := by decide +kernel
theorem dX12_put_16 : decode cX12_put 16 = .ok (.iload_n 2, 1) := by decide +kernel
theorem dX12_put_17 : decode cX12_put 17 = .ok (.ishr, 1) := by decide +kernel
theorem dX12_put_18 : decode cX12_put 18 = .ok (.i2b, 1) := by decide +kernel
theorem dX12_put_19 : decode cX12_put 19 = .ok (.bastore, 1) := by decide +kernel
theorem dX12_put_20 : decode cX12_put 20 = .ok (.aload_n 0, 1) := by decide +kernel
theorem dX12_put_21 : decode cX12_put 21 = .ok (.dup, 1) := by decide +kernel
theorem dX12_put_22 : decode cX12_put 22 = .ok (.getfield 119, 3) := by decide +kernel
theorem dX12_put_25 : decode cX12_put 25 = .ok (.iconst 1, 1) := by decide +kernel
theorem dX12_put_26 : decode cX12_put 26 = .ok (.iadd, 1) := by decide +kernel
theorem dX12_put_27 : decode cX12_put 27 = .ok (.putfield 119, 3) := by decide +kernel
theorem dX12_put_30 : decode cX12_put 30 = .ok (.iload_n 2, 1) := by decide +kernel
theorem dX12_put_31 : decode cX12_put 31 = .ok (.bipush 8, 2) := by decide +kernel
theorem dX12_put_33 : decode cX12_put 33 = .ok (.isub, 1) := by decide +kernel
theorem dX12_put_34 : decode cX12_put 34 = .ok (.istore_n 2, 1) := by decide +kernel
theorem dX12_put_35 : decode cX12_put 35 = .ok (.goto (-32), 3) := by decide +kernel
theorem dX12_put_38 : decode cX12_put 38 = .ok (.return_, 1) := by decide +kernel
theorem dX12_feed_0 : decode cX12_feed 0 = .ok (.aload_n 0, 1) := by decide +kernel
theorem dX12_feed_1 : decode cX12_feed 1 = .ok (.getfield 119, 3) := by decide +kernel
theorem dX12_feed_4 : decode cX12_feed 4 = .ok (.bipush 20, 2) := by decide +kernel
theorem dX12_feed_6 : decode cX12_feed 6 = .ok (.iadd, 1) := by decide +kernel
theorem dX12_feed_7 : decode cX12_feed 7 = .ok (.sipush 300, 3) := by decide +kernel
theorem dX12_feed_10 : decode cX12_feed 10 = .ok (.if_icmp .le 5, 3) := by decide +kernel
theorem dX12_feed_13 : decode cX12_feed 13 = .ok (.iconst (-1), 1) := by decide +kernel
theorem dX12_feed_14 : decode cX12_feed 14 = .ok (.ireturn, 1) := by decide +kernel
