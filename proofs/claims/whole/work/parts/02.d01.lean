theorem dX4_readProduct_53 : decode cX4_readProduct 53 = .ok (.getfield 12, 3) := by decide +kernel
theorem dX4_readProduct_56 : decode cX4_readProduct 56 = .ok (.iload_n 3, 1) := by decide +kernel
theorem dX4_readProduct_57 : decode cX4_readProduct 57 = .ok (.iconst 0, 1) := by decide +kernel
theorem dX4_readProduct_58 : decode cX4_readProduct 58 = .ok (.invokevirtual 102, 3) := by decide +kernel
theorem dX4_readProduct_61 : decode cX4_readProduct 61 = .ok (.pop, 1) := by decide +kernel
theorem dX4_readProduct_62 : decode cX4_readProduct 62 = .ok (.iinc 2 1, 3) := by decide +kernel
theorem dX4_readProduct_65 : decode cX4_readProduct 65 = .ok (.goto (-58), 3) := by decide +kernel
theorem dX4_readProduct_68 : decode cX4_readProduct 68 = .ok (.return_, 1) := by decide +kernel
theorem dX4_readPart_0 : decode cX4_readPart 0 = .ok (.aload_n 0, 1) := by decide +kernel
theorem dX4_readPart_1 : decode cX4_readPart 1 = .ok (.bipush 40, 2) := by decide +kernel
theorem dX4_readPart_3 : decode cX4_readPart 3 = .ok (.invokevirtual 37, 3) := by decide +kernel
theorem dX4_readPart_6 : decode cX4_readPart 6 = .ok (.ifCond .ne 32, 3) := by decide +kernel
theorem dX4_readPart_9 : decode cX4_readPart 9 = .ok (.aload_n 0, 1) := by decide +kernel
theorem dX4_readPart_10 : decode cX4_readPart 10 = .ok (.bipush 45, 2) := by decide +kernel
theorem dX4_readPart_12 : decode cX4_readPart 12 = .ok (.invokevirtual 37, 3) := by decide +kernel
theorem dX4_readPart_15 : decode cX4_readPart 15 = .ok (.ifCond .ne 23, 3) := by decide +kernel
theorem dX4_readPart_18 : decode cX4_readPart 18 = .ok (.aload_n 0, 1) := by decide +kernel
theorem dX4_readPart_19 : decode cX4_readPart 19 = .ok (.sipush 155, 3) := by decide +kernel
theorem dX4_readPart_22 : decode cX4_readPart 22 = .ok (.invokevirtual 37, 3) := by decide +kernel
theorem dX4_readPart_25 : decode cX4_readPart 25 = .ok (.ifCond .ne 13, 3) := by decide +kernel
theorem dX4_readPart_28 : decode cX4_readPart 28 = .ok (.aload_n 0, 1) := by decide +kernel
theorem dX4_readPart_29 : decode cX4_readPart 29 = .ok (.sipush 156, 3) := by decide +kernel
theorem dX4_readPart_32 : decode cX4_readPart 32 = .ok (.invokevirtual 37, 3) := by decide +kernel
theorem dX4_readPart_35 : decode cX4_readPart 35 = .ok (.ifCond .eq 11, 3) := by decide +kernel
theorem dX4_readPart_38 : decode cX4_readPart 38 = .ok (.aload_n 0, 1) := by decide +kernel
theorem dX4_readPart_39 : decode cX4_readPart 39 = .ok (.iload_n 1, 1) := by decide +kernel
theorem dX4_readPart_40 : decode cX4_readPart 40 = .ok (.invokevirtual 109, 3) := by decide +kernel
theorem dX4_readPart_43 : decode cX4_readPart 43 = .ok (.goto 137, 3) := by decide +kernel
theorem dX4_readPart_46 : decode cX4_readPart 46 = .ok (.aload_n 0, 1) := by decide +kernel
theorem dX4_readPart_47 : decode cX4_readPart 47 = .ok (.iconst 2, 1) := by decide +kernel
theorem dX4_readPart_48 : decode cX4_readPart 48 = .ok (.invokevirtual 37, 3) := by decide +kernel
theorem dX4_readPart_51 : decode cX4_readPart 51 = .ok (.ifCond .eq 50, 3) := by decide +kernel
theorem dX4_readPart_54 : decode cX4_readPart 54 = .ok (.aload_n 0, 1) := by decide +kernel
theorem dX4_readPart_55 : decode cX4_readPart 55 = .ok (.getfield 25, 3) := by decide +kernel
theorem dX4_readPart_58 : decode cX4_readPart 58 = .ok (.getfield 92, 3) := by decide +kernel
theorem dX4_readPart_61 : decode cX4_readPart 61 = .ok (.sipush 9999, 3) := by decide +kernel
theorem dX4_readPart_64 : decode cX4_readPart 64 = .ok (.if_icmp .le 11, 3) := by decide +kernel
theorem dX4_readPart_67 : decode cX4_readPart 67 = .ok (.aload_n 0, 1) := by decide +kernel
theorem dX4_readPart_68 : decode cX4_readPart 68 = .ok (.iconst 2, 1) := by decide +kernel
theorem dX4_readPart_69 : decode cX4_readPart 69 = .ok (.invokevirtual 53, 3) := by decide +kernel
theorem dX4_readPart_72 : decode cX4_readPart 72 = .ok (.goto 108, 3) := by decide +kernel
theorem dX4_readPart_75 : decode cX4_readPart 75 = .ok (.aload_n 0, 1) := by decide +kernel
theorem dX4_readPart_76 : decode cX4_readPart 76 = .ok (.getfield 12, 3) := by decide +kernel
theorem dX4_readPart_79 : decode cX4_readPart 79 = .ok (.iconst 2, 1) := by decide +kernel
theorem dX4_readPart_80 : decode cX4_readPart 80 = .ok (.aload_n 0, 1) := by decide +kernel
theorem dX4_readPart_81 : decode cX4_readPart 81 = .ok (.getfield 25, 3) := by decide +kernel
theorem dX4_readPart_84 : decode cX4_readPart 84 = .ok (.getfield 92, 3) := by decide +kernel
theorem dX4_readPart_87 : decode cX4_readPart 87 = .ok (.invokevirtual 102, 3) := by decide +kernel
theorem dX4_readPart_90 : decode cX4_readPart 90 = .ok (.pop, 1) := by decide +kernel
theorem dX4_readPart_91 : decode cX4_readPart 91 = .ok (.aload_n 0, 1) := by decide +kernel
theorem dX4_readPart_92 : decode cX4_readPart 92 = .ok (.getfield 25, 3) := by decide +kernel
theorem dX4_readPart_95 : decode cX4_readPart 95 = .ok (.invokevirtual 50, 3) := by decide +kernel
theorem dX4_readPart_98 : decode cX4_readPart 98 = .ok (.goto 82, 3) := by decide +kernel
theorem dX4_readPart_101 : decode cX4_readPart 101 = .ok (.aload_n 0, 1) := by decide +kernel
theorem dX4_readPart_102 : decode cX4_readPart 102 = .ok (.getfield 25, 3) := by decide +kernel
theorem dX4_readPart_105 : decode cX4_readPart 105 = .ok (.getfield 44, 3) := by decide +kernel
theorem dX4_readPart_108 : decode cX4_readPart 108 = .ok (.sipush 139, 3) := by decide +kernel
theorem dX4_readPart_111 : decode cX4_readPart 111 = .ok (.sipush 148, 3) := by decide +kernel
theorem dX4_readPart_114 : decode cX4_readPart 114 = .ok (.invokestatic 57, 3) := by decide +kernel
theorem dX4_readPart_117 : decode cX4_readPart 117 = .ok (.ifCond .ne 11, 3) := by decide +kernel
theorem dX4_readPart_120 : decode cX4_readPart 120 = .ok (.aload_n 0, 1) := by decide +kernel
theorem dX4_readPart_121 : decode cX4_readPart 121 = .ok (.iconst 1, 1) := by decide +kernel
theorem dX4_readPart_122 : decode cX4_readPart 122 = .ok (.invokevirtual 53, 3) := by decide +kernel
theorem dX4_readPart_125 : decode cX4_readPart 125 = .ok (.goto 55, 3) := by decide +kernel
theorem dX4_readPart_128 : decode cX4_readPart 128 = .ok (.aload_n 0, 1) := by decide +kernel
theorem dX4_readPart_129 : decode cX4_readPart 129 = .ok (.aload_n 0, 1) := by decide +kernel
theorem dX4_readPart_130 : decode cX4_readPart 130 = .ok (.getfield 25, 3) := by decide +kernel
theorem dX4_readPart_133 : decode cX4_readPart 133 = .ok (.getfield 44, 3) := by decide +kernel
theorem dX4_readPart_136 : decode cX4_readPart 136 = .ok (.invokevirtual 112, 3) := by decide +kernel
theorem dX4_readPart_139 : decode cX4_readPart 139 = .ok (.ifCond .ne 11, 3) := by decide +kernel
theorem dX4_readPart_142 : decode cX4_readPart 142 = .ok (.aload_n 0, 1) := by decide +kernel
theorem dX4_readPart_143 : decode cX4_readPart 143 = .ok (.iconst 5, 1) := by decide +kernel
theorem dX4_readPart_144 : decode cX4_readPart 144 = .ok (.invokevirtual 53, 3) := by decide +kernel
theorem dX4_readPart_147 : decode cX4_readPart 147 = .ok (.goto 33, 3) := by decide +kernel
theorem dX4_readPart_150 : decode cX4_readPart 150 = .ok (.aload_n 0, 1) := by decide +kernel
theorem dX4_readPart_151 : decode cX4_readPart 151 = .ok (.getfield 18, 3) := by decide +kernel
theorem dX4_readPart_154 : decode cX4_readPart 154 = .ok (.ifCond .ne 26, 3) := by decide +kernel
theorem dX4_readPart_157 : decode cX4_readPart 157 = .ok (.aload_n 0, 1) := by decide +kernel
theorem dX4_readPart_158 : decode cX4_readPart 158 = .ok (.getfield 12, 3) := by decide +kernel
theorem dX4_readPart_161 : decode cX4_readPart 161 = .ok (.aload_n 0, 1) := by decide +kernel
theorem dX4_readPart_162 : decode cX4_readPart 162 = .ok (.getfield 25, 3) := by decide +kernel
theorem dX4_readPart_165 : decode cX4_readPart 165 = .ok (.getfield 44, 3) := by decide +kernel
theorem dX4_readPart_168 : decode cX4_readPart 168 = .ok (.iconst 0, 1) := by decide +kernel
theorem dX4_readPart_169 : decode cX4_readPart 169 = .ok (.invokevirtual 102, 3) := by decide +kernel
theorem dX4_readPart_172 : decode cX4_readPart 172 = .ok (.pop, 1) := by decide +kernel
theorem dX4_readPart_173 : decode cX4_readPart 173 = .ok (.aload_n 0, 1) := by decide +kernel
theorem dX4_readPart_174 : decode cX4_readPart 174 = .ok (.getfield 25, 3) := by decide +kernel
theorem dX4_readPart_177 : decode cX4_readPart 177 = .ok (.invokevirtual 50, 3) := by decide +kernel
theorem dX4_readPart_180 : decode cX4_readPart 180 = .ok (.return_, 1) := by decide +kernel
theorem dX4_readNested_0 : decode cX4_readNested 0 = .ok (.aload_n 0, 1) := by decide +kernel
theorem dX4_readNested_1 : decode cX4_readNested 1 = .ok (.getfield 25, 3) := by decide +kernel
theorem dX4_readNested_4 : decode cX4_readNested 4 = .ok (.getfield 44, 3) := by decide +kernel
theorem dX4_readNested_7 : decode cX4_readNested 7 = .ok (.istore_n 2, 1) := by decide +kernel
theorem dX4_readNested_8 : decode cX4_readNested 8 = .ok (.iload_n 1, 1) := by decide +kernel
theorem dX4_readNested_9 : decode cX4_readNested 9 = .ok (.bipush 8, 2) := by decide +kernel
theorem dX4_readNested_11 : decode cX4_readNested 11 = .ok (.if_icmp .lt 9, 3) := by decide +kernel
theorem dX4_readNested_14 : decode cX4_readNested 14 = .ok (.aload_n 0, 1) := by decide +kernel
theorem dX4_readNested_15 : decode cX4_readNested 15 = .ok (.iconst 3, 1) := by decide +kernel
theorem dX4_readNested_16 : decode cX4_readNested 16 = .ok (.invokevirtual 53, 3) := by decide +kernel
theorem dX4_readNested_19 : decode cX4_readNested 19 = .ok (.return_, 1) := by decide +kernel
theorem dX4_readNested_20 : decode cX4_readNested 20 = .ok (.aload_n 0, 1) := by decide +kernel
theorem dX4_readNested_21 : decode cX4_readNested 21 = .ok (.getfield 25, 3) := by decide +kernel
theorem dX4_readNested_24 : decode cX4_readNested 24 = .ok (.invokevirtual 50, 3) := by decide +kernel
theorem dX4_readNested_27 : decode cX4_readNested 27 = .ok (.iload_n 2, 1) := by decide +kernel
theorem dX4_readNested_28 : decode cX4_readNested 28 = .ok (.lookupswitch 108 #[(40, 36), (45, 52), (155, 72)], 36) := by decide +kernel
theorem dX4_readNested_64 : decode cX4_readNested 64 = .ok (.aload_n 0, 1) := by decide +kernel
theorem dX4_readNested_65 : decode cX4_readNested 65 = .ok (.iload_n 1, 1) := by decide +kernel
theorem dX4_readNested_66 : decode cX4_readNested 66 = .ok (.iconst 1, 1) := by decide +kernel
theorem dX4_readNested_67 : decode cX4_readNested 67 = .ok (.iadd, 1) := by decide +kernel
theorem dX4_readNested_68 : decode cX4_readNested 68 = .ok (.invokevirtual 76, 3) := by decide +kernel
theorem dX4_readNested_71 : decode cX4_readNested 71 = .ok (.aload_n 0, 1) := by decide +kernel
theorem dX4_readNested_72 : decode cX4_readNested 72 = .ok (.bipush 41, 2) := by decide +kernel
theorem dX4_readNested_74 : decode cX4_readNested 74 = .ok (.invokevirtual 85, 3) := by decide +kernel
theorem dX4_readNested_77 : decode cX4_readNested 77 = .ok (.goto 66, 3) := by decide +kernel
theorem dX4_readNested_80 : decode cX4_readNested 80 = .ok (.aload_n 0, 1) := by decide +kernel
theorem dX4_readNested_81 : decode cX4_readNested 81 = .ok (.iload_n 1, 1) := by decide +kernel
theorem dX4_readNested_82 : decode cX4_readNested 82 = .ok (.iconst 1, 1) := by decide +kernel
theorem dX4_readNested_83 : decode cX4_readNested 83 = .ok (.iadd, 1) := by decide +kernel
theorem dX4_readNested_84 : decode cX4_readNested 84 = .ok (.invokevirtual 106, 3) := by decide +kernel
theorem dX4_readNested_87 : decode cX4_readNested 87 = .ok (.aload_n 0, 1) := by decide +kernel
theorem dX4_readNested_88 : decode cX4_readNested 88 = .ok (.getfield 12, 3) := by decide +kernel
theorem dX4_readNested_91 : decode cX4_readNested 91 = .ok (.iconst 3, 1) := by decide +kernel
theorem dX4_readNested_92 : decode cX4_readNested 92 = .ok (.iconst 0, 1) := by decide +kernel
theorem dX4_readNested_93 : decode cX4_readNested 93 = .ok (.invokevirtual 102, 3) := by decide +kernel
theorem dX4_readNested_96 : decode cX4_readNested 96 = .ok (.pop, 1) := by decide +kernel
theorem dX4_readNested_97 : decode cX4_readNested 97 = .ok (.goto 46, 3) := by decide +kernel
theorem dX4_readNested_100 : decode cX4_readNested 100 = .ok (.aload_n 0, 1) := by decide +kernel
theorem dX4_readNested_101 : decode cX4_readNested 101 = .ok (.iload_n 1, 1) := by decide +kernel
theorem dX4_readNested_102 : decode cX4_readNested 102 = .ok (.iconst 1, 1) := by decide +kernel
theorem dX4_readNested_103 : decode cX4_readNested 103 = .ok (.iadd, 1) := by decide +kernel
theorem dX4_readNested_104 : decode cX4_readNested 104 = .ok (.invokevirtual 106, 3) := by decide +kernel
theorem dX4_readNested_107 : decode cX4_readNested 107 = .ok (.aload_n 0, 1) := by decide +kernel
theorem dX4_readNested_108 : decode cX4_readNested 108 = .ok (.sipush 150, 3) := by decide +kernel
theorem dX4_readNested_111 : decode cX4_readNested 111 = .ok (.invokevirtual 85, 3) := by decide +kernel
theorem dX4_readNested_114 : decode cX4_readNested 114 = .ok (.aload_n 0, 1) := by decide +kernel
theorem dX4_readNested_115 : decode cX4_readNested 115 = .ok (.iload_n 1, 1) := by decide +kernel
theorem dX4_readNested_116 : decode cX4_readNested 116 = .ok (.iconst 1, 1) := by decide +kernel
theorem dX4_readNested_117 : decode cX4_readNested 117 = .ok (.iadd, 1) := by decide +kernel
theorem dX4_readNested_118 : decode cX4_readNested 118 = .ok (.invokevirtual 106, 3) := by decide +kernel
theorem dX4_readNested_121 : decode cX4_readNested 121 = .ok (.aload_n 0, 1) := by decide +kernel
theorem dX4_readNested_122 : decode cX4_readNested 122 = .ok (.getfield 12, 3) := by decide +kernel
theorem dX4_readNested_125 : decode cX4_readNested 125 = .ok (.sipush 155, 3) := by decide +kernel
theorem dX4_readNested_128 : decode cX4_readNested 128 = .ok (.iconst 0, 1) := by decide +kernel
theorem dX4_readNested_129 : decode cX4_readNested 129 = .ok (.invokevirtual 102, 3) := by decide +kernel
theorem dX4_readNested_132 : decode cX4_readNested 132 = .ok (.pop, 1) := by decide +kernel
theorem dX4_readNested_133 : decode cX4_readNested 133 = .ok (.goto 10, 3) := by decide +kernel
theorem dX4_readNested_136 : decode cX4_readNested 136 = .ok (.aload_n 0, 1) := by decide +kernel
theorem dX4_readNested_137 : decode cX4_readNested 137 = .ok (.iload_n 1, 1) := by decide +kernel
theorem dX4_readNested_138 : decode cX4_readNested 138 = .ok (.iconst 1, 1) := by decide +kernel
theorem dX4_readNested_139 : decode cX4_readNested 139 = .ok (.iadd, 1) := by decide +kernel
theorem dX4_readNested_140 : decode cX4_readNested 140 = .ok (.invokevirtual 115, 3) := by decide +kernel
theorem dX4_readNested_143 : decode cX4_readNested 143 = .ok (.return_, 1) := by decide +kernel
theorem dX4_readChoice_0 : decode cX4_readChoice 0 = .ok (.aload_n 0, 1) := by decide +kernel
theorem dX4_readChoice_1 : decode cX4_readChoice 1 = .ok (.iload_n 1, 1) := by decide +kernel
theorem dX4_readChoice_2 : decode cX4_readChoice 2 = .ok (.invokevirtual 118, 3) := by decide +kernel
theorem dX4_readChoice_5 : decode cX4_readChoice 5 = .ok (.aload_n 0, 1) := by decide +kernel
theorem dX4_readChoice_6 : decode cX4_readChoice 6 = .ok (.sipush 157, 3) := by decide +kernel
theorem dX4_readChoice_9 : decode cX4_readChoice 9 = .ok (.invokevirtual 85, 3) := by decide +kernel
theorem dX4_readChoice_12 : decode cX4_readChoice 12 = .ok (.aload_n 0, 1) := by decide +kernel
theorem dX4_readChoice_13 : decode cX4_readChoice 13 = .ok (.getfield 12, 3) := by decide +kernel
theorem dX4_readChoice_16 : decode cX4_readChoice 16 = .ok (.sipush 157, 3) := by decide +kernel
theorem dX4_readChoice_19 : decode cX4_readChoice 19 = .ok (.iconst 0, 1) := by decide +kernel
theorem dX4_readChoice_20 : decode cX4_readChoice 20 = .ok (.invokevirtual 102, 3) := by decide +kernel
theorem dX4_readChoice_23 : decode cX4_readChoice 23 = .ok (.istore_n 2, 1) := by decide +kernel
theorem dX4_readChoice_24 : decode cX4_readChoice 24 = .ok (.aload_n 0, 1) := by decide +kernel
theorem dX4_readChoice_25 : decode cX4_readChoice 25 = .ok (.iload_n 1, 1) := by decide +kernel
theorem dX4_readChoice_26 : decode cX4_readChoice 26 = .ok (.invokevirtual 76, 3) := by decide +kernel
theorem dX4_readChoice_29 : decode cX4_readChoice 29 = .ok (.aload_n 0, 1) := by decide +kernel
theorem dX4_readChoice_30 : decode cX4_readChoice 30 = .ok (.sipush 158, 3) := by decide +kernel
theorem dX4_readChoice_33 : decode cX4_readChoice 33 = .ok (.invokevirtual 85, 3) := by decide +kernel
theorem dX4_readChoice_36 : decode cX4_readChoice 36 = .ok (.aload_n 0, 1) := by decide +kernel
theorem dX4_readChoice_37 : decode cX4_readChoice 37 = .ok (.getfield 12, 3) := by decide +kernel
theorem dX4_readChoice_40 : decode cX4_readChoice 40 = .ok (.sipush 158, 3) := by decide +kernel
theorem dX4_readChoice_43 : decode cX4_readChoice 43 = .ok (.iconst 0, 1) := by decide +kernel
theorem dX4_readChoice_44 : decode cX4_readChoice 44 = .ok (.invokevirtual 102, 3) := by decide +kernel
theorem dX4_readChoice_47 : decode cX4_readChoice 47 = .ok (.istore_n 3, 1) := by decide +kernel
theorem dX4_readChoice_48 : decode cX4_readChoice 48 = .ok (.aload_n 0, 1) := by decide +kernel
theorem dX4_readChoice_49 : decode cX4_readChoice 49 = .ok (.getfield 12, 3) := by decide +kernel
theorem dX4_readChoice_52 : decode cX4_readChoice 52 = .ok (.iload_n 2, 1) := by decide +kernel
theorem dX4_readChoice_53 : decode cX4_readChoice 53 = .ok (.invokevirtual 121, 3) := by decide +kernel
theorem dX4_readChoice_56 : decode cX4_readChoice 56 = .ok (.aload_n 0, 1) := by decide +kernel
theorem dX4_readChoice_57 : decode cX4_readChoice 57 = .ok (.iload_n 1, 1) := by decide +kernel
theorem dX4_readChoice_58 : decode cX4_readChoice 58 = .ok (.invokevirtual 76, 3) := by decide +kernel
theorem dX4_readChoice_61 : decode cX4_readChoice 61 = .ok (.aload_n 0, 1) := by decide +kernel
theorem dX4_readChoice_62 : decode cX4_readChoice 62 = .ok (.sipush 159, 3) := by decide +kernel
theorem dX4_readChoice_65 : decode cX4_readChoice 65 = .ok (.invokevirtual 85, 3) := by decide +kernel
theorem dX4_readChoice_68 : decode cX4_readChoice 68 = .ok (.aload_n 0, 1) := by decide +kernel
theorem dX4_readChoice_69 : decode cX4_readChoice 69 = .ok (.getfield 12, 3) := by decide +kernel
theorem dX4_readChoice_72 : decode cX4_readChoice 72 = .ok (.iload_n 3, 1) := by decide +kernel
theorem dX4_readChoice_73 : decode cX4_readChoice 73 = .ok (.invokevirtual 121, 3) := by decide +kernel
theorem dX4_readChoice_76 : decode cX4_readChoice 76 = .ok (.return_, 1) := by decide +kernel
theorem dX4_readEither_0 : decode cX4_readEither 0 = .ok (.aload_n 0, 1) := by decide +kernel
theorem dX4_readEither_1 : decode cX4_readEither 1 = .ok (.iload_n 1, 1) := by decide +kernel
theorem dX4_readEither_2 : decode cX4_readEither 2 = .ok (.invokevirtual 124, 3) := by decide +kernel
theorem dX4_readEither_5 : decode cX4_readEither 5 = .ok (.iconst 0, 1) := by decide +kernel
theorem dX4_readEither_6 : decode cX4_readEither 6 = .ok (.istore_n 2, 1) := by decide +kernel
theorem dX4_readEither_7 : decode cX4_readEither 7 = .ok (.iload_n 2, 1) := by decide +kernel
theorem dX4_readEither_8 : decode cX4_readEither 8 = .ok (.sipush 300, 3) := by decide +kernel
theorem dX4_readEither_11 : decode cX4_readEither 11 = .ok (.if_icmp .ge 43, 3) := by decide +kernel
theorem dX4_readEither_14 : decode cX4_readEither 14 = .ok (.aload_n 0, 1) := by decide +kernel
theorem dX4_readEither_15 : decode cX4_readEither 15 = .ok (.sipush 153, 3) := by decide +kernel
theorem dX4_readEither_18 : decode cX4_readEither 18 = .ok (.invokevirtual 37, 3) := by decide +kernel
theorem dX4_readEither_21 : decode cX4_readEither 21 = .ok (.ifCond .eq 33, 3) := by decide +kernel
theorem dX4_readEither_24 : decode cX4_readEither 24 = .ok (.aload_n 0, 1) := by decide +kernel
theorem dX4_readEither_25 : decode cX4_readEither 25 = .ok (.getfield 25, 3) := by decide +kernel
theorem dX4_readEither_28 : decode cX4_readEither 28 = .ok (.invokevirtual 50, 3) := by decide +kernel
theorem dX4_readEither_31 : decode cX4_readEither 31 = .ok (.aload_n 0, 1) := by decide +kernel
theorem dX4_readEither_32 : decode cX4_readEither 32 = .ok (.iload_n 1, 1) := by decide +kernel
theorem dX4_readEither_33 : decode cX4_readEither 33 = .ok (.invokevirtual 124, 3) := by decide +kernel
theorem dX4_readEither_36 : decode cX4_readEither 36 = .ok (.aload_n 0, 1) := by decide +kernel
theorem dX4_readEither_37 : decode cX4_readEither 37 = .ok (.getfield 12, 3) := by decide +kernel
theorem dX4_readEither_40 : decode cX4_readEither 40 = .ok (.sipush 153, 3) := by decide +kernel
theorem dX4_readEither_43 : decode cX4_readEither 43 = .ok (.iconst 0, 1) := by decide +kernel
theorem dX4_readEither_44 : decode cX4_readEither 44 = .ok (.invokevirtual 102, 3) := by decide +kernel
theorem dX4_readEither_47 : decode cX4_readEither 47 = .ok (.pop, 1) := by decide +kernel
theorem dX4_readEither_48 : decode cX4_readEither 48 = .ok (.iinc 2 1, 3) := by decide +kernel
theorem dX4_readEither_51 : decode cX4_readEither 51 = .ok (.goto (-44), 3) := by decide +kernel
theorem dX4_readEither_54 : decode cX4_readEither 54 = .ok (.return_, 1) := by decide +kernel
theorem dX4_readBoth_0 : decode cX4_readBoth 0 = .ok (.aload_n 0, 1) := by decide +kernel
theorem dX4_readBoth_1 : decode cX4_readBoth 1 = .ok (.iload_n 1, 1) := by decide +kernel
theorem dX4_readBoth_2 : decode cX4_readBoth 2 = .ok (.invokevirtual 127, 3) := by decide +kernel
theorem dX4_readBoth_5 : decode cX4_readBoth 5 = .ok (.iconst 0, 1) := by decide +kernel
theorem dX4_readBoth_6 : decode cX4_readBoth 6 = .ok (.istore_n 2, 1) := by decide +kernel
theorem dX4_readBoth_7 : decode cX4_readBoth 7 = .ok (.iload_n 2, 1) := by decide +kernel
theorem dX4_readBoth_8 : decode cX4_readBoth 8 = .ok (.sipush 300, 3) := by decide +kernel
theorem dX4_readBoth_11 : decode cX4_readBoth 11 = .ok (.if_icmp .ge 43, 3) := by decide +kernel
theorem dX4_readBoth_14 : decode cX4_readBoth 14 = .ok (.aload_n 0, 1) := by decide +kernel
theorem dX4_readBoth_15 : decode cX4_readBoth 15 = .ok (.sipush 152, 3) := by decide +kernel
theorem dX4_readBoth_18 : decode cX4_readBoth 18 = .ok (.invokevirtual 37, 3) := by decide +kernel
theorem dX4_readBoth_21 : decode cX4_readBoth 21 = .ok (.ifCond .eq 33, 3) := by decide +kernel
theorem dX4_readBoth_24 : decode cX4_readBoth 24 = .ok (.aload_n 0, 1) := by decide +kernel
theorem dX4_readBoth_25 : decode cX4_readBoth 25 = .ok (.getfield 25, 3) := by decide +kernel
theorem dX4_readBoth_28 : decode cX4_readBoth 28 = .ok (.invokevirtual 50, 3) := by decide +kernel
theorem dX4_readBoth_31 : decode cX4_readBoth 31 = .ok (.aload_n 0, 1) := by decide +kernel
theorem dX4_readBoth_32 : decode cX4_readBoth 32 = .ok (.iload_n 1, 1) := by decide +kernel
theorem dX4_readBoth_33 : decode cX4_readBoth 33 = .ok (.invokevirtual 127, 3) := by decide +kernel
theorem dX4_readBoth_36 : decode cX4_readBoth 36 = .ok (.aload_n 0, 1) := by decide +kernel
theorem dX4_readBoth_37 : decode cX4_readBoth 37 = .ok (.getfield 12, 3) := by decide +kernel
theorem dX4_readBoth_40 : decode cX4_readBoth 40 = .ok (.sipush 152, 3) := by decide +kernel
theorem dX4_readBoth_43 : decode cX4_readBoth 43 = .ok (.iconst 0, 1) := by decide +kernel
theorem dX4_readBoth_44 : decode cX4_readBoth 44 = .ok (.invokevirtual 102, 3) := by decide +kernel
theorem dX4_readBoth_47 : decode cX4_readBoth 47 = .ok (.pop, 1) := by decide +kernel
theorem dX4_readBoth_48 : decode cX4_readBoth 48 = .ok (.iinc 2 1, 3) := by decide +kernel
theorem dX4_readBoth_51 : decode cX4_readBoth 51 = .ok (.goto (-44), 3) := by decide +kernel
theorem dX4_readBoth_54 : decode cX4_readBoth 54 = .ok (.return_, 1) := by decide +kernel
theorem dX4_readAsk_0 : decode cX4_readAsk 0 = .ok (.aload_n 0, 1) := by decide +kernel
theorem dX4_readAsk_1 : decode cX4_readAsk 1 = .ok (.sipush 154, 3) := by decide +kernel
theorem dX4_readAsk_4 : decode cX4_readAsk 4 = .ok (.invokevirtual 37, 3) := by decide +kernel
theorem dX4_readAsk_7 : decode cX4_readAsk 7 = .ok (.ifCond .eq 17, 3) := by decide +kernel
theorem dX4_readAsk_10 : decode cX4_readAsk 10 = .ok (.iload_n 1, 1) := by decide +kernel
theorem dX4_readAsk_11 : decode cX4_readAsk 11 = .ok (.bipush 8, 2) := by decide +kernel
theorem dX4_readAsk_13 : decode cX4_readAsk 13 = .ok (.if_icmp .lt 11, 3) := by decide +kernel
theorem dX4_readAsk_16 : decode cX4_readAsk 16 = .ok (.aload_n 0, 1) := by decide +kernel
theorem dX4_readAsk_17 : decode cX4_readAsk 17 = .ok (.iconst 3, 1) := by decide +kernel
theorem dX4_readAsk_18 : decode cX4_readAsk 18 = .ok (.invokevirtual 53, 3) := by decide +kernel
theorem dX4_readAsk_21 : decode cX4_readAsk 21 = .ok (.goto 99, 3) := by decide +kernel
theorem dX4_readAsk_24 : decode cX4_readAsk 24 = .ok (.aload_n 0, 1) := by decide +kernel
theorem dX4_readAsk_25 : decode cX4_readAsk 25 = .ok (.sipush 154, 3) := by decide +kernel
theorem dX4_readAsk_28 : decode cX4_readAsk 28 = .ok (.invokevirtual 37, 3) := by decide +kernel
theorem dX4_readAsk_31 : decode cX4_readAsk 31 = .ok (.ifCond .eq 32, 3) := by decide +kernel
theorem dX4_readAsk_34 : decode cX4_readAsk 34 = .ok (.aload_n 0, 1) := by decide +kernel
theorem dX4_readAsk_35 : decode cX4_readAsk 35 = .ok (.getfield 25, 3) := by decide +kernel
theorem dX4_readAsk_38 : decode cX4_readAsk 38 = .ok (.invokevirtual 50, 3) := by decide +kernel
theorem dX4_readAsk_41 : decode cX4_readAsk 41 = .ok (.aload_n 0, 1) := by decide +kernel
theorem dX4_readAsk_42 : decode cX4_readAsk 42 = .ok (.iload_n 1, 1) := by decide +kernel
theorem dX4_readAsk_43 : decode cX4_readAsk 43 = .ok (.iconst 1, 1) := by decide +kernel
theorem dX4_readAsk_44 : decode cX4_readAsk 44 = .ok (.iadd, 1) := by decide +kernel
theorem dX4_readAsk_45 : decode cX4_readAsk 45 = .ok (.invokevirtual 127, 3) := by decide +kernel
theorem dX4_readAsk_48 : decode cX4_readAsk 48 = .ok (.aload_n 0, 1) := by decide +kernel
theorem dX4_readAsk_49 : decode cX4_readAsk 49 = .ok (.getfield 12, 3) := by decide +kernel
theorem dX4_readAsk_52 : decode cX4_readAsk 52 = .ok (.sipush 154, 3) := by decide +kernel
theorem dX4_readAsk_55 : decode cX4_readAsk 55 = .ok (.iconst 0, 1) := by decide +kernel
theorem dX4_readAsk_56 : decode cX4_readAsk 56 = .ok (.invokevirtual 102, 3) := by decide +kernel
theorem dX4_readAsk_59 : decode cX4_readAsk 59 = .ok (.pop, 1) := by decide +kernel
theorem dX4_readAsk_60 : decode cX4_readAsk 60 = .ok (.goto 60, 3) := by decide +kernel
theorem dX4_readAsk_63 : decode cX4_readAsk 63 = .ok (.aload_n 0, 1) := by decide +kernel
theorem dX4_readAsk_64 : decode cX4_readAsk 64 = .ok (.iload_n 1, 1) := by decide +kernel
theorem dX4_readAsk_65 : decode cX4_readAsk 65 = .ok (.invokevirtual 76, 3) := by decide +kernel
theorem dX4_readAsk_68 : decode cX4_readAsk 68 = .ok (.aload_n 0, 1) := by decide +kernel
theorem dX4_readAsk_69 : decode cX4_readAsk 69 = .ok (.getfield 25, 3) := by decide +kernel
theorem dX4_readAsk_72 : decode cX4_readAsk 72 = .ok (.getfield 44, 3) := by decide +kernel
theorem dX4_readAsk_75 : decode cX4_readAsk 75 = .ok (.istore_n 2, 1) := by decide +kernel
theorem dX4_readAsk_76 : decode cX4_readAsk 76 = .ok (.iload_n 2, 1) := by decide +kernel
theorem dX4_readAsk_77 : decode cX4_readAsk 77 = .ok (.invokestatic 130, 3) := by decide +kernel
theorem dX4_readAsk_80 : decode cX4_readAsk 80 = .ok (.ifCond .ne 11, 3) := by decide +kernel
theorem dX4_readAsk_83 : decode cX4_readAsk 83 = .ok (.aload_n 0, 1) := by decide +kernel
theorem dX4_readAsk_84 : decode cX4_readAsk 84 = .ok (.iconst 1, 1) := by decide +kernel
theorem dX4_readAsk_85 : decode cX4_readAsk 85 = .ok (.invokevirtual 53, 3) := by decide +kernel
theorem dX4_readAsk_88 : decode cX4_readAsk 88 = .ok (.goto 32, 3) := by decide +kernel
theorem dX4_readAsk_91 : decode cX4_readAsk 91 = .ok (.aload_n 0, 1) := by decide +kernel
theorem dX4_readAsk_92 : decode cX4_readAsk 92 = .ok (.getfield 18, 3) := by decide +kernel
theorem dX4_readAsk_95 : decode cX4_readAsk 95 = .ok (.ifCond .ne 25, 3) := by decide +kernel
theorem dX4_readAsk_98 : decode cX4_readAsk 98 = .ok (.aload_n 0, 1) := by decide +kernel
theorem dX4_readAsk_99 : decode cX4_readAsk 99 = .ok (.getfield 25, 3) := by decide +kernel
theorem dX4_readAsk_102 : decode cX4_readAsk 102 = .ok (.invokevirtual 50, 3) := by decide +kernel
theorem dX4_readAsk_105 : decode cX4_readAsk 105 = .ok (.aload_n 0, 1) := by decide +kernel
theorem dX4_readAsk_106 : decode cX4_readAsk 106 = .ok (.iload_n 1, 1) := by decide +kernel
theorem dX4_readAsk_107 : decode cX4_readAsk 107 = .ok (.invokevirtual 76, 3) := by decide +kernel
theorem dX4_readAsk_110 : decode cX4_readAsk 110 = .ok (.aload_n 0, 1) := by decide +kernel
theorem dX4_readAsk_111 : decode cX4_readAsk 111 = .ok (.getfield 12, 3) := by decide +kernel
theorem dX4_readAsk_114 : decode cX4_readAsk 114 = .ok (.iload_n 2, 1) := by decide +kernel
theorem dX4_readAsk_115 : decode cX4_readAsk 115 = .ok (.iconst 0, 1) := by decide +kernel
theorem dX4_readAsk_116 : decode cX4_readAsk 116 = .ok (.invokevirtual 102, 3) := by decide +kernel
theorem dX4_readAsk_119 : decode cX4_readAsk 119 = .ok (.pop, 1) := by decide +kernel
theorem dX4_readAsk_120 : decode cX4_readAsk 120 = .ok (.return_, 1) := by decide +kernel
theorem dX4_isComparison_0 : decode cX4_isComparison 0 = .ok (.iload_n 0, 1) := by decide +kernel
theorem dX4_isComparison_1 : decode cX4_isComparison 1 = .ok (.lookupswitch 61 #[(4, 59), (5, 59), (35, 59), (60, 59), (61, 59), (62, 59)], 59) := by decide +kernel
theorem dX4_isComparison_60 : decode cX4_isComparison 60 = .ok (.iconst 1, 1) := by decide +kernel
theorem dX4_isComparison_61 : decode cX4_isComparison 61 = .ok (.ireturn, 1) := by decide +kernel
theorem dX4_isComparison_62 : decode cX4_isComparison 62 = .ok (.iconst 0, 1) := by decide +kernel
theorem dX4_isComparison_63 : decode cX4_isComparison 63 = .ok (.ireturn, 1) := by decide +kernel
theorem dX4_isOfLaw_0 : decode cX4_isOfLaw 0 = .ok (.iload_n 1, 1) := by decide +kernel
theorem dX4_isOfLaw_1 : decode cX4_isOfLaw 1 = .ok (.tableswitch 151 140 148 #[51, 151, 151, 151, 77, 77, 93, 119, 135], 51) := by decide +kernel
theorem dX4_isOfLaw_52 : decode cX4_isOfLaw 52 = .ok (.aload_n 0, 1) := by decide +kernel
theorem dX4_isOfLaw_53 : decode cX4_isOfLaw 53 = .ok (.getfield 73, 3) := by decide +kernel
theorem dX4_isOfLaw_56 : decode cX4_isOfLaw 56 = .ok (.sipush 128, 3) := by decide +kernel
theorem dX4_isOfLaw_59 : decode cX4_isOfLaw 59 = .ok (.if_icmp .eq 13, 3) := by decide +kernel
theorem dX4_isOfLaw_62 : decode cX4_isOfLaw 62 = .ok (.aload_n 0, 1) := by decide +kernel
theorem dX4_isOfLaw_63 : decode cX4_isOfLaw 63 = .ok (.getfield 73, 3) := by decide +kernel
theorem dX4_isOfLaw_66 : decode cX4_isOfLaw 66 = .ok (.sipush 131, 3) := by decide +kernel
theorem dX4_isOfLaw_69 : decode cX4_isOfLaw 69 = .ok (.if_icmp .ne 7, 3) := by decide +kernel
theorem dX4_isOfLaw_72 : decode cX4_isOfLaw 72 = .ok (.iconst 1, 1) := by decide +kernel
theorem dX4_isOfLaw_73 : decode cX4_isOfLaw 73 = .ok (.goto 4, 3) := by decide +kernel
theorem dX4_isOfLaw_76 : decode cX4_isOfLaw 76 = .ok (.iconst 0, 1) := by decide +kernel
theorem dX4_isOfLaw_77 : decode cX4_isOfLaw 77 = .ok (.ireturn, 1) := by decide +kernel
theorem dX4_isOfLaw_78 : decode cX4_isOfLaw 78 = .ok (.aload_n 0, 1) := by decide +kernel
theorem dX4_isOfLaw_79 : decode cX4_isOfLaw 79 = .ok (.getfield 73, 3) := by decide +kernel
theorem dX4_isOfLaw_82 : decode cX4_isOfLaw 82 = .ok (.sipush 131, 3) := by decide +kernel
theorem dX4_isOfLaw_85 : decode cX4_isOfLaw 85 = .ok (.if_icmp .eq 7, 3) := by decide +kernel
theorem dX4_isOfLaw_88 : decode cX4_isOfLaw 88 = .ok (.iconst 1, 1) := by decide +kernel
theorem dX4_isOfLaw_89 : decode cX4_isOfLaw 89 = .ok (.goto 4, 3) := by decide +kernel
theorem dX4_isOfLaw_92 : decode cX4_isOfLaw 92 = .ok (.iconst 0, 1) := by decide +kernel
theorem dX4_isOfLaw_93 : decode cX4_isOfLaw 93 = .ok (.ireturn, 1) := by decide +kernel
theorem dX4_isOfLaw_94 : decode cX4_isOfLaw 94 = .ok (.aload_n 0, 1) := by decide +kernel
theorem dX4_isOfLaw_95 : decode cX4_isOfLaw 95 = .ok (.getfield 73, 3) := by decide +kernel
theorem dX4_isOfLaw_98 : decode cX4_isOfLaw 98 = .ok (.sipush 128, 3) := by decide +kernel
theorem dX4_isOfLaw_101 : decode cX4_isOfLaw 101 = .ok (.if_icmp .eq 13, 3) := by decide +kernel
theorem dX4_isOfLaw_104 : decode cX4_isOfLaw 104 = .ok (.aload_n 0, 1) := by decide +kernel
theorem dX4_isOfLaw_105 : decode cX4_isOfLaw 105 = .ok (.getfield 73, 3) := by decide +kernel
theorem dX4_isOfLaw_108 : decode cX4_isOfLaw 108 = .ok (.sipush 130, 3) := by decide +kernel
theorem dX4_isOfLaw_111 : decode cX4_isOfLaw 111 = .ok (.if_icmp .ne 7, 3) := by decide +kernel
theorem dX4_isOfLaw_114 : decode cX4_isOfLaw 114 = .ok (.iconst 1, 1) := by decide +kernel
theorem dX4_isOfLaw_115 : decode cX4_isOfLaw 115 = .ok (.goto 4, 3) := by decide +kernel
theorem dX4_isOfLaw_118 : decode cX4_isOfLaw 118 = .ok (.iconst 0, 1) := by decide +kernel
theorem dX4_isOfLaw_119 : decode cX4_isOfLaw 119 = .ok (.ireturn, 1) := by decide +kernel
theorem dX4_isOfLaw_120 : decode cX4_isOfLaw 120 = .ok (.aload_n 0, 1) := by decide +kernel
theorem dX4_isOfLaw_121 : decode cX4_isOfLaw 121 = .ok (.getfield 73, 3) := by decide +kernel
theorem dX4_isOfLaw_124 : decode cX4_isOfLaw 124 = .ok (.sipush 128, 3) := by decide +kernel
theorem dX4_isOfLaw_127 : decode cX4_isOfLaw 127 = .ok (.if_icmp .ne 7, 3) := by decide +kernel
theorem dX4_isOfLaw_130 : decode cX4_isOfLaw 130 = .ok (.iconst 1, 1) := by decide +kernel
theorem dX4_isOfLaw_131 : decode cX4_isOfLaw 131 = .ok (.goto 4, 3) := by decide +kernel
theorem dX4_isOfLaw_134 : decode cX4_isOfLaw 134 = .ok (.iconst 0, 1) := by decide +kernel
theorem dX4_isOfLaw_135 : decode cX4_isOfLaw 135 = .ok (.ireturn, 1) := by decide +kernel
theorem dX4_isOfLaw_136 : decode cX4_isOfLaw 136 = .ok (.aload_n 0, 1) := by decide +kernel
theorem dX4_isOfLaw_137 : decode cX4_isOfLaw 137 = .ok (.getfield 73, 3) := by decide +kernel
theorem dX4_isOfLaw_140 : decode cX4_isOfLaw 140 = .ok (.sipush 129, 3) := by decide +kernel
theorem dX4_isOfLaw_143 : decode cX4_isOfLaw 143 = .ok (.if_icmp .ne 7, 3) := by decide +kernel
theorem dX4_isOfLaw_146 : decode cX4_isOfLaw 146 = .ok (.iconst 1, 1) := by decide +kernel
theorem dX4_isOfLaw_147 : decode cX4_isOfLaw 147 = .ok (.goto 4, 3) := by decide +kernel
theorem dX4_isOfLaw_150 : decode cX4_isOfLaw 150 = .ok (.iconst 0, 1) := by decide +kernel
theorem dX4_isOfLaw_151 : decode cX4_isOfLaw 151 = .ok (.ireturn, 1) := by decide +kernel
theorem dX4_isOfLaw_152 : decode cX4_isOfLaw 152 = .ok (.iconst 1, 1) := by decide +kernel
theorem dX4_isOfLaw_153 : decode cX4_isOfLaw 153 = .ok (.ireturn, 1) := by decide +kernel
theorem dX5_init_0 : decode cX5_init 0 = .ok (.aload_n 0, 1) := by decide +kernel
theorem dX5_init_1 : decode cX5_init 1 = .ok (.invokespecial 3, 3) := by decide +kernel
theorem dX5_init_4 : decode cX5_init 4 = .ok (.aload_n 0, 1) := by decide +kernel
theorem dX5_init_5 : decode cX5_init 5 = .ok (.sipush 128, 3) := by decide +kernel
theorem dX5_init_8 : decode cX5_init 8 = .ok (.newarray .int, 2) := by decide +kernel
theorem dX5_init_10 : decode cX5_init 10 = .ok (.putfield 11, 3) := by decide +kernel
theorem dX5_init_13 : decode cX5_init 13 = .ok (.aload_n 0, 1) := by decide +kernel
theorem dX5_init_14 : decode cX5_init 14 = .ok (.sipush 128, 3) := by decide +kernel
theorem dX5_init_17 : decode cX5_init 17 = .ok (.newarray .int, 2) := by decide +kernel
theorem dX5_init_19 : decode cX5_init 19 = .ok (.putfield 15, 3) := by decide +kernel
theorem dX5_init_22 : decode cX5_init 22 = .ok (.return_, 1) := by decide +kernel
theorem dX5_mostEvenSets_0 : decode cX5_mostEvenSets 0 = .ok (.sipush 128, 3) := by decide +kernel
theorem dX5_mostEvenSets_3 : decode cX5_mostEvenSets 3 = .ok (.iconst 1, 1) := by decide +kernel
theorem dX5_mostEvenSets_4 : decode cX5_mostEvenSets 4 = .ok (.aload_n 1, 1) := by decide +kernel
theorem dX5_mostEvenSets_5 : decode cX5_mostEvenSets 5 = .ok (.getfield 18, 3) := by decide +kernel
theorem dX5_mostEvenSets_8 : decode cX5_mostEvenSets 8 = .ok (.ishl, 1) := by decide +kernel
theorem dX5_mostEvenSets_9 : decode cX5_mostEvenSets 9 = .ok (.invokestatic 24, 3) := by decide +kernel
theorem dX5_mostEvenSets_12 : decode cX5_mostEvenSets 12 = .ok (.istore_n 2, 1) := by decide +kernel
theorem dX5_mostEvenSets_13 : decode cX5_mostEvenSets 13 = .ok (.aload_n 0, 1) := by decide +kernel
theorem dX5_mostEvenSets_14 : decode cX5_mostEvenSets 14 = .ok (.getfield 11, 3) := by decide +kernel
theorem dX5_mostEvenSets_17 : decode cX5_mostEvenSets 17 = .ok (.iconst 0, 1) := by decide +kernel
theorem dX5_mostEvenSets_18 : decode cX5_mostEvenSets 18 = .ok (.iconst 0, 1) := by decide +kernel
theorem dX5_mostEvenSets_19 : decode cX5_mostEvenSets 19 = .ok (.iastore, 1) := by decide +kernel
theorem dX5_mostEvenSets_20 : decode cX5_mostEvenSets 20 = .ok (.aload_n 0, 1) := by decide +kernel
theorem dX5_mostEvenSets_21 : decode cX5_mostEvenSets 21 = .ok (.getfield 15, 3) := by decide +kernel
theorem dX5_mostEvenSets_24 : decode cX5_mostEvenSets 24 = .ok (.iconst 0, 1) := by decide +kernel
theorem dX5_mostEvenSets_25 : decode cX5_mostEvenSets 25 = .ok (.iconst 0, 1) := by decide +kernel
theorem dX5_mostEvenSets_26 : decode cX5_mostEvenSets 26 = .ok (.iastore, 1) := by decide +kernel
theorem dX5_mostEvenSets_27 : decode cX5_mostEvenSets 27 = .ok (.iconst 1, 1) := by decide +kernel
theorem dX5_mostEvenSets_28 : decode cX5_mostEvenSets 28 = .ok (.istore_n 3, 1) := by decide +kernel
theorem dX5_mostEvenSets_29 : decode cX5_mostEvenSets 29 = .ok (.iload_n 3, 1) := by decide +kernel
theorem dX5_mostEvenSets_30 : decode cX5_mostEvenSets 30 = .ok (.iload_n 2, 1) := by decide +kernel
theorem dX5_mostEvenSets_31 : decode cX5_mostEvenSets 31 = .ok (.if_icmp .ge 130, 3) := by decide +kernel
theorem dX5_mostEvenSets_34 : decode cX5_mostEvenSets 34 = .ok (.iload_n 3, 1) := by decide +kernel
theorem dX5_mostEvenSets_35 : decode cX5_mostEvenSets 35 = .ok (.invokestatic 30, 3) := by decide +kernel
theorem dX5_mostEvenSets_38 : decode cX5_mostEvenSets 38 = .ok (.istore 4, 2) := by decide +kernel
theorem dX5_mostEvenSets_40 : decode cX5_mostEvenSets 40 = .ok (.aload_n 1, 1) := by decide +kernel
theorem dX5_mostEvenSets_41 : decode cX5_mostEvenSets 41 = .ok (.iload 4, 2) := by decide +kernel
theorem dX5_mostEvenSets_43 : decode cX5_mostEvenSets 43 = .ok (.invokevirtual 36, 3) := by decide +kernel
theorem dX5_mostEvenSets_46 : decode cX5_mostEvenSets 46 = .ok (.aload_n 1, 1) := by decide +kernel
theorem dX5_mostEvenSets_47 : decode cX5_mostEvenSets 47 = .ok (.iload 4, 2) := by decide +kernel
theorem dX5_mostEvenSets_49 : decode cX5_mostEvenSets 49 = .ok (.invokevirtual 39, 3) := by decide +kernel
theorem dX5_mostEvenSets_52 : decode cX5_mostEvenSets 52 = .ok (.isub, 1) := by decide +kernel
theorem dX5_mostEvenSets_53 : decode cX5_mostEvenSets 53 = .ok (.istore 5, 2) := by decide +kernel
theorem dX5_mostEvenSets_55 : decode cX5_mostEvenSets 55 = .ok (.aload_n 0, 1) := by decide +kernel
theorem dX5_mostEvenSets_56 : decode cX5_mostEvenSets 56 = .ok (.getfield 11, 3) := by decide +kernel
theorem dX5_mostEvenSets_59 : decode cX5_mostEvenSets 59 = .ok (.iload_n 3, 1) := by decide +kernel
theorem dX5_mostEvenSets_60 : decode cX5_mostEvenSets 60 = .ok (.aload_n 0, 1) := by decide +kernel
theorem dX5_mostEvenSets_61 : decode cX5_mostEvenSets 61 = .ok (.getfield 11, 3) := by decide +kernel
theorem dX5_mostEvenSets_64 : decode cX5_mostEvenSets 64 = .ok (.iload_n 3, 1) := by decide +kernel
theorem dX5_mostEvenSets_65 : decode cX5_mostEvenSets 65 = .ok (.iload_n 3, 1) := by decide +kernel
theorem dX5_mostEvenSets_66 : decode cX5_mostEvenSets 66 = .ok (.iconst 1, 1) := by decide +kernel
theorem dX5_mostEvenSets_67 : decode cX5_mostEvenSets 67 = .ok (.isub, 1) := by decide +kernel
theorem dX5_mostEvenSets_68 : decode cX5_mostEvenSets 68 = .ok (.iand, 1) := by decide +kernel
theorem dX5_mostEvenSets_69 : decode cX5_mostEvenSets 69 = .ok (.iaload, 1) := by decide +kernel
theorem dX5_mostEvenSets_70 : decode cX5_mostEvenSets 70 = .ok (.iload 5, 2) := by decide +kernel
theorem dX5_mostEvenSets_72 : decode cX5_mostEvenSets 72 = .ok (.iadd, 1) := by decide +kernel
theorem dX5_mostEvenSets_73 : decode cX5_mostEvenSets 73 = .ok (.iastore, 1) := by decide +kernel
theorem dX5_mostEvenSets_74 : decode cX5_mostEvenSets 74 = .ok (.aload_n 0, 1) := by decide +kernel
theorem dX5_mostEvenSets_75 : decode cX5_mostEvenSets 75 = .ok (.getfield 15, 3) := by decide +kernel
theorem dX5_mostEvenSets_78 : decode cX5_mostEvenSets 78 = .ok (.iload_n 3, 1) := by decide +kernel
theorem dX5_mostEvenSets_79 : decode cX5_mostEvenSets 79 = .ok (.iconst 0, 1) := by decide +kernel
theorem dX5_mostEvenSets_80 : decode cX5_mostEvenSets 80 = .ok (.iastore, 1) := by decide +kernel
theorem dX5_mostEvenSets_81 : decode cX5_mostEvenSets 81 = .ok (.iconst 0, 1) := by decide +kernel
theorem dX5_mostEvenSets_82 : decode cX5_mostEvenSets 82 = .ok (.istore 6, 2) := by decide +kernel
theorem dX5_mostEvenSets_84 : decode cX5_mostEvenSets 84 = .ok (.iload 6, 2) := by decide +kernel
theorem dX5_mostEvenSets_86 : decode cX5_mostEvenSets 86 = .ok (.aload_n 1, 1) := by decide +kernel
theorem dX5_mostEvenSets_87 : decode cX5_mostEvenSets 87 = .ok (.getfield 18, 3) := by decide +kernel
theorem dX5_mostEvenSets_90 : decode cX5_mostEvenSets 90 = .ok (.if_icmp .ge 46, 3) := by decide +kernel
theorem dX5_mostEvenSets_93 : decode cX5_mostEvenSets 93 = .ok (.iload_n 3, 1) := by decide +kernel
theorem dX5_mostEvenSets_94 : decode cX5_mostEvenSets 94 = .ok (.iload 6, 2) := by decide +kernel
theorem dX5_mostEvenSets_96 : decode cX5_mostEvenSets 96 = .ok (.ishr, 1) := by decide +kernel
theorem dX5_mostEvenSets_97 : decode cX5_mostEvenSets 97 = .ok (.iconst 1, 1) := by decide +kernel
theorem dX5_mostEvenSets_98 : decode cX5_mostEvenSets 98 = .ok (.iand, 1) := by decide +kernel
theorem dX5_mostEvenSets_99 : decode cX5_mostEvenSets 99 = .ok (.ifCond .eq 31, 3) := by decide +kernel
theorem dX5_mostEvenSets_102 : decode cX5_mostEvenSets 102 = .ok (.aload_n 0, 1) := by decide +kernel
theorem dX5_mostEvenSets_103 : decode cX5_mostEvenSets 103 = .ok (.getfield 15, 3) := by decide +kernel
theorem dX5_mostEvenSets_106 : decode cX5_mostEvenSets 106 = .ok (.iload_n 3, 1) := by decide +kernel
theorem dX5_mostEvenSets_107 : decode cX5_mostEvenSets 107 = .ok (.aload_n 0, 1) := by decide +kernel
theorem dX5_mostEvenSets_108 : decode cX5_mostEvenSets 108 = .ok (.getfield 15, 3) := by decide +kernel
theorem dX5_mostEvenSets_111 : decode cX5_mostEvenSets 111 = .ok (.iload_n 3, 1) := by decide +kernel
theorem dX5_mostEvenSets_112 : decode cX5_mostEvenSets 112 = .ok (.iaload, 1) := by decide +kernel
theorem dX5_mostEvenSets_113 : decode cX5_mostEvenSets 113 = .ok (.aload_n 0, 1) := by decide +kernel
theorem dX5_mostEvenSets_114 : decode cX5_mostEvenSets 114 = .ok (.getfield 15, 3) := by decide +kernel
theorem dX5_mostEvenSets_117 : decode cX5_mostEvenSets 117 = .ok (.iload_n 3, 1) := by decide +kernel
theorem dX5_mostEvenSets_118 : decode cX5_mostEvenSets 118 = .ok (.iconst 1, 1) := by decide +kernel
theorem dX5_mostEvenSets_119 : decode cX5_mostEvenSets 119 = .ok (.iload 6, 2) := by decide +kernel
theorem dX5_mostEvenSets_121 : decode cX5_mostEvenSets 121 = .ok (.ishl, 1) := by decide +kernel
theorem dX5_mostEvenSets_122 : decode cX5_mostEvenSets 122 = .ok (.iconst (-1), 1) := by decide +kernel
theorem dX5_mostEvenSets_123 : decode cX5_mostEvenSets 123 = .ok (.ixor, 1) := by decide +kernel
theorem dX5_mostEvenSets_124 : decode cX5_mostEvenSets 124 = .ok (.iand, 1) := by decide +kernel
theorem dX5_mostEvenSets_125 : decode cX5_mostEvenSets 125 = .ok (.iaload, 1) := by decide +kernel
theorem dX5_mostEvenSets_126 : decode cX5_mostEvenSets 126 = .ok (.invokestatic 42, 3) := by decide +kernel
theorem dX5_mostEvenSets_129 : decode cX5_mostEvenSets 129 = .ok (.iastore, 1) := by decide +kernel
theorem dX5_mostEvenSets_130 : decode cX5_mostEvenSets 130 = .ok (.iinc 6 1, 3) := by decide +kernel
theorem dX5_mostEvenSets_133 : decode cX5_mostEvenSets 133 = .ok (.goto (-49), 3) := by decide +kernel
theorem dX5_mostEvenSets_136 : decode cX5_mostEvenSets 136 = .ok (.aload_n 0, 1) := by decide +kernel
theorem dX5_mostEvenSets_137 : decode cX5_mostEvenSets 137 = .ok (.getfield 11, 3) := by decide +kernel
theorem dX5_mostEvenSets_140 : decode cX5_mostEvenSets 140 = .ok (.iload_n 3, 1) := by decide +kernel
theorem dX5_mostEvenSets_141 : decode cX5_mostEvenSets 141 = .ok (.iaload, 1) := by decide +kernel
theorem dX5_mostEvenSets_142 : decode cX5_mostEvenSets 142 = .ok (.ifCond .ne 13, 3) := by decide +kernel
theorem dX5_mostEvenSets_145 : decode cX5_mostEvenSets 145 = .ok (.aload_n 0, 1) := by decide +kernel
theorem dX5_mostEvenSets_146 : decode cX5_mostEvenSets 146 = .ok (.getfield 15, 3) := by decide +kernel
theorem dX5_mostEvenSets_149 : decode cX5_mostEvenSets 149 = .ok (.iload_n 3, 1) := by decide +kernel
theorem dX5_mostEvenSets_150 : decode cX5_mostEvenSets 150 = .ok (.dup2, 1) := by decide +kernel
theorem dX5_mostEvenSets_151 : decode cX5_mostEvenSets 151 = .ok (.iaload, 1) := by decide +kernel
theorem dX5_mostEvenSets_152 : decode cX5_mostEvenSets 152 = .ok (.iconst 1, 1) := by decide +kernel
theorem dX5_mostEvenSets_153 : decode cX5_mostEvenSets 153 = .ok (.iadd, 1) := by decide +kernel
theorem dX5_mostEvenSets_154 : decode cX5_mostEvenSets 154 = .ok (.iastore, 1) := by decide +kernel
theorem dX5_mostEvenSets_155 : decode cX5_mostEvenSets 155 = .ok (.iinc 3 1, 3) := by decide +kernel
theorem dX5_mostEvenSets_158 : decode cX5_mostEvenSets 158 = .ok (.goto (-129), 3) := by decide +kernel
theorem dX5_mostEvenSets_161 : decode cX5_mostEvenSets 161 = .ok (.aload_n 0, 1) := by decide +kernel
theorem dX5_mostEvenSets_162 : decode cX5_mostEvenSets 162 = .ok (.getfield 15, 3) := by decide +kernel
theorem dX5_mostEvenSets_165 : decode cX5_mostEvenSets 165 = .ok (.iload_n 2, 1) := by decide +kernel
theorem dX5_mostEvenSets_166 : decode cX5_mostEvenSets 166 = .ok (.iconst 1, 1) := by decide +kernel
theorem dX5_mostEvenSets_167 : decode cX5_mostEvenSets 167 = .ok (.isub, 1) := by decide +kernel
theorem dX5_mostEvenSets_168 : decode cX5_mostEvenSets 168 = .ok (.iaload, 1) := by decide +kernel
theorem dX5_mostEvenSets_169 : decode cX5_mostEvenSets 169 = .ok (.ireturn, 1) := by decide +kernel
theorem dX5_weighOrders_0 : decode cX5_weighOrders 0 = .ok (.sipush 128, 3) := by decide +kernel
theorem dX5_weighOrders_3 : decode cX5_weighOrders 3 = .ok (.iconst 1, 1) := by decide +kernel
theorem dX5_weighOrders_4 : decode cX5_weighOrders 4 = .ok (.aload_n 1, 1) := by decide +kernel
theorem dX5_weighOrders_5 : decode cX5_weighOrders 5 = .ok (.getfield 18, 3) := by decide +kernel
theorem dX5_weighOrders_8 : decode cX5_weighOrders 8 = .ok (.ishl, 1) := by decide +kernel
theorem dX5_weighOrders_9 : decode cX5_weighOrders 9 = .ok (.invokestatic 24, 3) := by decide +kernel
theorem dX5_weighOrders_12 : decode cX5_weighOrders 12 = .ok (.iconst 1, 1) := by decide +kernel
theorem dX5_weighOrders_13 : decode cX5_weighOrders 13 = .ok (.isub, 1) := by decide +kernel
theorem dX5_weighOrders_14 : decode cX5_weighOrders 14 = .ok (.istore_n 2, 1) := by decide +kernel
theorem dX5_weighOrders_15 : decode cX5_weighOrders 15 = .ok (.aload_n 0, 1) := by decide +kernel
theorem dX5_weighOrders_16 : decode cX5_weighOrders 16 = .ok (.getfield 15, 3) := by decide +kernel
theorem dX5_weighOrders_19 : decode cX5_weighOrders 19 = .ok (.iload_n 2, 1) := by decide +kernel
theorem dX5_weighOrders_20 : decode cX5_weighOrders 20 = .ok (.iconst 0, 1) := by decide +kernel
theorem dX5_weighOrders_21 : decode cX5_weighOrders 21 = .ok (.iastore, 1) := by decide +kernel
theorem dX5_weighOrders_22 : decode cX5_weighOrders 22 = .ok (.iload_n 2, 1) := by decide +kernel
theorem dX5_weighOrders_23 : decode cX5_weighOrders 23 = .ok (.iconst 1, 1) := by decide +kernel
theorem dX5_weighOrders_24 : decode cX5_weighOrders 24 = .ok (.isub, 1) := by decide +kernel
theorem dX5_weighOrders_25 : decode cX5_weighOrders 25 = .ok (.istore_n 3, 1) := by decide +kernel
theorem dX5_weighOrders_26 : decode cX5_weighOrders 26 = .ok (.iload_n 3, 1) := by decide +kernel
theorem dX5_weighOrders_27 : decode cX5_weighOrders 27 = .ok (.ifCond .lt 67, 3) := by decide +kernel
theorem dX5_weighOrders_30 : decode cX5_weighOrders 30 = .ok (.aload_n 0, 1) := by decide +kernel
theorem dX5_weighOrders_31 : decode cX5_weighOrders 31 = .ok (.getfield 15, 3) := by decide +kernel
theorem dX5_weighOrders_34 : decode cX5_weighOrders 34 = .ok (.iload_n 3, 1) := by decide +kernel
theorem dX5_weighOrders_35 : decode cX5_weighOrders 35 = .ok (.ldc 45, 2) := by decide +kernel
theorem dX5_weighOrders_37 : decode cX5_weighOrders 37 = .ok (.iastore, 1) := by decide +kernel
theorem dX5_weighOrders_38 : decode cX5_weighOrders 38 = .ok (.iconst 0, 1) := by decide +kernel
theorem dX5_weighOrders_39 : decode cX5_weighOrders 39 = .ok (.istore 4, 2) := by decide +kernel
theorem dX5_weighOrders_41 : decode cX5_weighOrders 41 = .ok (.iload 4, 2) := by decide +kernel
theorem dX5_weighOrders_43 : decode cX5_weighOrders 43 = .ok (.aload_n 1, 1) := by decide +kernel
theorem dX5_weighOrders_44 : decode cX5_weighOrders 44 = .ok (.getfield 18, 3) := by decide +kernel
theorem dX5_weighOrders_47 : decode cX5_weighOrders 47 = .ok (.if_icmp .ge 41, 3) := by decide +kernel
theorem dX5_weighOrders_50 : decode cX5_weighOrders 50 = .ok (.iload_n 3, 1) := by decide +kernel
theorem dX5_weighOrders_51 : decode cX5_weighOrders 51 = .ok (.iload 4, 2) := by decide +kernel
theorem dX5_weighOrders_53 : decode cX5_weighOrders 53 = .ok (.ishr, 1) := by decide +kernel
theorem dX5_weighOrders_54 : decode cX5_weighOrders 54 = .ok (.iconst 1, 1) := by decide +kernel
theorem dX5_weighOrders_55 : decode cX5_weighOrders 55 = .ok (.iand, 1) := by decide +kernel
theorem dX5_weighOrders_56 : decode cX5_weighOrders 56 = .ok (.ifCond .ne 26, 3) := by decide +kernel
theorem dX5_weighOrders_59 : decode cX5_weighOrders 59 = .ok (.aload_n 0, 1) := by decide +kernel
theorem dX5_weighOrders_60 : decode cX5_weighOrders 60 = .ok (.getfield 15, 3) := by decide +kernel
theorem dX5_weighOrders_63 : decode cX5_weighOrders 63 = .ok (.iload_n 3, 1) := by decide +kernel
theorem dX5_weighOrders_64 : decode cX5_weighOrders 64 = .ok (.aload_n 0, 1) := by decide +kernel
theorem dX5_weighOrders_65 : decode cX5_weighOrders 65 = .ok (.getfield 15, 3) := by decide +kernel
theorem dX5_weighOrders_68 : decode cX5_weighOrders 68 = .ok (.iload_n 3, 1) := by decide +kernel
theorem dX5_weighOrders_69 : decode cX5_weighOrders 69 = .ok (.iaload, 1) := by decide +kernel
theorem dX5_weighOrders_70 : decode cX5_weighOrders 70 = .ok (.aload_n 0, 1) := by decide +kernel
theorem dX5_weighOrders_71 : decode cX5_weighOrders 71 = .ok (.aload_n 1, 1) := by decide +kernel
theorem dX5_weighOrders_72 : decode cX5_weighOrders 72 = .ok (.iload_n 3, 1) := by decide +kernel
theorem dX5_weighOrders_73 : decode cX5_weighOrders 73 = .ok (.iload 4, 2) := by decide +kernel
theorem dX5_weighOrders_75 : decode cX5_weighOrders 75 = .ok (.invokevirtual 46, 3) := by decide +kernel
theorem dX5_weighOrders_78 : decode cX5_weighOrders 78 = .ok (.invokestatic 24, 3) := by decide +kernel
theorem dX5_weighOrders_81 : decode cX5_weighOrders 81 = .ok (.iastore, 1) := by decide +kernel
theorem dX5_weighOrders_82 : decode cX5_weighOrders 82 = .ok (.iinc 4 1, 3) := by decide +kernel
theorem dX5_weighOrders_85 : decode cX5_weighOrders 85 = .ok (.goto (-44), 3) := by decide +kernel
theorem dX5_weighOrders_88 : decode cX5_weighOrders 88 = .ok (.iinc 3 (-1), 3) := by decide +kernel
theorem dX5_weighOrders_91 : decode cX5_weighOrders 91 = .ok (.goto (-65), 3) := by decide +kernel
theorem dX5_weighOrders_94 : decode cX5_weighOrders 94 = .ok (.return_, 1) := by decide +kernel
theorem dX5_leastPaid_0 : decode cX5_leastPaid 0 = .ok (.aload_n 0, 1) := by decide +kernel
theorem dX5_leastPaid_1 : decode cX5_leastPaid 1 = .ok (.getfield 15, 3) := by decide +kernel
theorem dX5_leastPaid_4 : decode cX5_leastPaid 4 = .ok (.iconst 0, 1) := by decide +kernel
theorem dX5_leastPaid_5 : decode cX5_leastPaid 5 = .ok (.iaload, 1) := by decide +kernel
theorem dX5_leastPaid_6 : decode cX5_leastPaid 6 = .ok (.ireturn, 1) := by decide +kernel
theorem dX5_door_0 : decode cX5_door 0 = .ok (.iconst 0, 1) := by decide +kernel
theorem dX5_door_1 : decode cX5_door 1 = .ok (.istore_n 3, 1) := by decide +kernel
theorem dX5_door_2 : decode cX5_door 2 = .ok (.iconst (-1), 1) := by decide +kernel
theorem dX5_door_3 : decode cX5_door 3 = .ok (.istore 4, 2) := by decide +kernel
theorem dX5_door_5 : decode cX5_door 5 = .ok (.iconst 0, 1) := by decide +kernel
theorem dX5_door_6 : decode cX5_door 6 = .ok (.istore 5, 2) := by decide +kernel
theorem dX5_door_8 : decode cX5_door 8 = .ok (.iload 5, 2) := by decide +kernel
theorem dX5_door_10 : decode cX5_door 10 = .ok (.iload_n 2, 1) := by decide +kernel
theorem dX5_door_11 : decode cX5_door 11 = .ok (.if_icmp .gt 43, 3) := by decide +kernel
theorem dX5_door_14 : decode cX5_door 14 = .ok (.iload 5, 2) := by decide +kernel
theorem dX5_door_16 : decode cX5_door 16 = .ok (.aload_n 1, 1) := by decide +kernel
theorem dX5_door_17 : decode cX5_door 17 = .ok (.getfield 18, 3) := by decide +kernel
theorem dX5_door_20 : decode cX5_door 20 = .ok (.if_icmp .ge 34, 3) := by decide +kernel
theorem dX5_door_23 : decode cX5_door 23 = .ok (.aload_n 0, 1) := by decide +kernel
theorem dX5_door_24 : decode cX5_door 24 = .ok (.aload_n 1, 1) := by decide +kernel
theorem dX5_door_25 : decode cX5_door 25 = .ok (.iload_n 3, 1) := by decide +kernel
theorem dX5_door_26 : decode cX5_door 26 = .ok (.invokevirtual 50, 3) := by decide +kernel
theorem dX5_door_29 : decode cX5_door 29 = .ok (.istore 4, 2) := by decide +kernel
theorem dX5_door_31 : decode cX5_door 31 = .ok (.iload_n 3, 1) := by decide +kernel
theorem dX5_door_32 : decode cX5_door 32 = .ok (.iload 4, 2) := by decide +kernel
theorem dX5_door_34 : decode cX5_door 34 = .ok (.iconst (-1), 1) := by decide +kernel
theorem dX5_door_35 : decode cX5_door 35 = .ok (.if_icmp .ne 7, 3) := by decide +kernel
theorem dX5_door_38 : decode cX5_door 38 = .ok (.iconst 0, 1) := by decide +kernel
theorem dX5_door_39 : decode cX5_door 39 = .ok (.goto 7, 3) := by decide +kernel
theorem dX5_door_42 : decode cX5_door 42 = .ok (.iconst 1, 1) := by decide +kernel
theorem dX5_door_43 : decode cX5_door 43 = .ok (.iload 4, 2) := by decide +kernel
theorem dX5_door_45 : decode cX5_door 45 = .ok (.ishl, 1) := by decide +kernel
theorem dX5_door_46 : decode cX5_door 46 = .ok (.ior, 1) := by decide +kernel
theorem dX5_door_47 : decode cX5_door 47 = .ok (.istore_n 3, 1) := by decide +kernel
theorem dX5_door_48 : decode cX5_door 48 = .ok (.iinc 5 1, 3) := by decide +kernel
theorem dX5_door_51 : decode cX5_door 51 = .ok (.goto (-43), 3) := by decide +kernel
theorem dX5_door_54 : decode cX5_door 54 = .ok (.iload 4, 2) := by decide +kernel
theorem dX5_door_56 : decode cX5_door 56 = .ok (.ireturn, 1) := by decide +kernel
theorem dX5_nextDoor_0 : decode cX5_nextDoor 0 = .ok (.iconst 0, 1) := by decide +kernel
theorem dX5_nextDoor_1 : decode cX5_nextDoor 1 = .ok (.istore_n 3, 1) := by decide +kernel
theorem dX5_nextDoor_2 : decode cX5_nextDoor 2 = .ok (.iload_n 3, 1) := by decide +kernel
theorem dX5_nextDoor_3 : decode cX5_nextDoor 3 = .ok (.aload_n 1, 1) := by decide +kernel
theorem dX5_nextDoor_4 : decode cX5_nextDoor 4 = .ok (.getfield 18, 3) := by decide +kernel
theorem dX5_nextDoor_7 : decode cX5_nextDoor 7 = .ok (.if_icmp .ge 50, 3) := by decide +kernel
theorem dX5_nextDoor_10 : decode cX5_nextDoor 10 = .ok (.iload_n 2, 1) := by decide +kernel
theorem dX5_nextDoor_11 : decode cX5_nextDoor 11 = .ok (.iload_n 3, 1) := by decide +kernel
theorem dX5_nextDoor_12 : decode cX5_nextDoor 12 = .ok (.ishr, 1) := by decide +kernel
theorem dX5_nextDoor_13 : decode cX5_nextDoor 13 = .ok (.iconst 1, 1) := by decide +kernel
theorem dX5_nextDoor_14 : decode cX5_nextDoor 14 = .ok (.iand, 1) := by decide +kernel
theorem dX5_nextDoor_15 : decode cX5_nextDoor 15 = .ok (.ifCond .ne 7, 3) := by decide +kernel
theorem dX5_nextDoor_18 : decode cX5_nextDoor 18 = .ok (.iconst 1, 1) := by decide +kernel
theorem dX5_nextDoor_19 : decode cX5_nextDoor 19 = .ok (.goto 4, 3) := by decide +kernel
theorem dX5_nextDoor_22 : decode cX5_nextDoor 22 = .ok (.iconst 0, 1) := by decide +kernel
theorem dX5_nextDoor_23 : decode cX5_nextDoor 23 = .ok (.istore 4, 2) := by decide +kernel
theorem dX5_nextDoor_25 : decode cX5_nextDoor 25 = .ok (.iload 4, 2) := by decide +kernel
theorem dX5_nextDoor_27 : decode cX5_nextDoor 27 = .ok (.ifCond .eq 24, 3) := by decide +kernel
theorem dX5_nextDoor_30 : decode cX5_nextDoor 30 = .ok (.aload_n 0, 1) := by decide +kernel
theorem dX5_nextDoor_31 : decode cX5_nextDoor 31 = .ok (.aload_n 1, 1) := by decide +kernel
theorem dX5_nextDoor_32 : decode cX5_nextDoor 32 = .ok (.iload_n 2, 1) := by decide +kernel
theorem dX5_nextDoor_33 : decode cX5_nextDoor 33 = .ok (.iload_n 3, 1) := by decide +kernel
theorem dX5_nextDoor_34 : decode cX5_nextDoor 34 = .ok (.invokevirtual 46, 3) := by decide +kernel
theorem dX5_nextDoor_37 : decode cX5_nextDoor 37 = .ok (.aload_n 0, 1) := by decide +kernel
theorem dX5_nextDoor_38 : decode cX5_nextDoor 38 = .ok (.getfield 15, 3) := by decide +kernel
theorem dX5_nextDoor_41 : decode cX5_nextDoor 41 = .ok (.iload_n 2, 1) := by decide +kernel
theorem dX5_nextDoor_42 : decode cX5_nextDoor 42 = .ok (.bipush 127, 2) := by decide +kernel
theorem dX5_nextDoor_44 : decode cX5_nextDoor 44 = .ok (.iand, 1) := by decide +kernel
theorem dX5_nextDoor_45 : decode cX5_nextDoor 45 = .ok (.iaload, 1) := by decide +kernel
theorem dX5_nextDoor_46 : decode cX5_nextDoor 46 = .ok (.if_icmp .ne 5, 3) := by decide +kernel
theorem dX5_nextDoor_49 : decode cX5_nextDoor 49 = .ok (.iload_n 3, 1) := by decide +kernel
theorem dX5_nextDoor_50 : decode cX5_nextDoor 50 = .ok (.ireturn, 1) := by decide +kernel
theorem dX5_nextDoor_51 : decode cX5_nextDoor 51 = .ok (.iinc 3 1, 3) := by decide +kernel
theorem dX5_nextDoor_54 : decode cX5_nextDoor 54 = .ok (.goto (-52), 3) := by decide +kernel
theorem dX5_nextDoor_57 : decode cX5_nextDoor 57 = .ok (.iconst (-1), 1) := by decide +kernel
theorem dX5_nextDoor_58 : decode cX5_nextDoor 58 = .ok (.ireturn, 1) := by decide +kernel
theorem dX5_paidWith_0 : decode cX5_paidWith 0 = .ok (.aload_n 0, 1) := by decide +kernel
theorem dX5_paidWith_1 : decode cX5_paidWith 1 = .ok (.getfield 15, 3) := by decide +kernel
theorem dX5_paidWith_4 : decode cX5_paidWith 4 = .ok (.iload_n 2, 1) := by decide +kernel
theorem dX5_paidWith_5 : decode cX5_paidWith 5 = .ok (.iconst 1, 1) := by decide +kernel
theorem dX5_paidWith_6 : decode cX5_paidWith 6 = .ok (.iload_n 3, 1) := by decide +kernel
theorem dX5_paidWith_7 : decode cX5_paidWith 7 = .ok (.ishl, 1) := by decide +kernel
theorem dX5_paidWith_8 : decode cX5_paidWith 8 = .ok (.ior, 1) := by decide +kernel
theorem dX5_paidWith_9 : decode cX5_paidWith 9 = .ok (.bipush 127, 2) := by decide +kernel
theorem dX5_paidWith_11 : decode cX5_paidWith 11 = .ok (.iand, 1) := by decide +kernel
theorem dX5_paidWith_12 : decode cX5_paidWith 12 = .ok (.iaload, 1) := by decide +kernel
theorem dX5_paidWith_13 : decode cX5_paidWith 13 = .ok (.istore 4, 2) := by decide +kernel
theorem dX5_paidWith_15 : decode cX5_paidWith 15 = .ok (.iconst 0, 1) := by decide +kernel
theorem dX5_paidWith_16 : decode cX5_paidWith 16 = .ok (.istore 5, 2) := by decide +kernel
theorem dX5_paidWith_18 : decode cX5_paidWith 18 = .ok (.iload 5, 2) := by decide +kernel
theorem dX5_paidWith_20 : decode cX5_paidWith 20 = .ok (.aload_n 1, 1) := by decide +kernel
theorem dX5_paidWith_21 : decode cX5_paidWith 21 = .ok (.getfield 18, 3) := by decide +kernel
theorem dX5_paidWith_24 : decode cX5_paidWith 24 = .ok (.if_icmp .ge 30, 3) := by decide +kernel
theorem dX5_paidWith_27 : decode cX5_paidWith 27 = .ok (.iload_n 2, 1) := by decide +kernel
theorem dX5_paidWith_28 : decode cX5_paidWith 28 = .ok (.iload 5, 2) := by decide +kernel
theorem dX5_paidWith_30 : decode cX5_paidWith 30 = .ok (.ishr, 1) := by decide +kernel
theorem dX5_paidWith_31 : decode cX5_paidWith 31 = .ok (.iconst 1, 1) := by decide +kernel
theorem dX5_paidWith_32 : decode cX5_paidWith 32 = .ok (.iand, 1) := by decide +kernel
theorem dX5_paidWith_33 : decode cX5_paidWith 33 = .ok (.ifCond .eq 15, 3) := by decide +kernel
theorem dX5_paidWith_36 : decode cX5_paidWith 36 = .ok (.iload 4, 2) := by decide +kernel
theorem dX5_paidWith_38 : decode cX5_paidWith 38 = .ok (.aload_n 1, 1) := by decide +kernel
theorem dX5_paidWith_39 : decode cX5_paidWith 39 = .ok (.iload 5, 2) := by decide +kernel
theorem dX5_paidWith_41 : decode cX5_paidWith 41 = .ok (.iload_n 3, 1) := by decide +kernel
theorem dX5_paidWith_42 : decode cX5_paidWith 42 = .ok (.invokevirtual 54, 3) := by decide +kernel
theorem dX5_paidWith_45 : decode cX5_paidWith 45 = .ok (.iadd, 1) := by decide +kernel
theorem dX5_paidWith_46 : decode cX5_paidWith 46 = .ok (.istore 4, 2) := by decide +kernel
theorem dX5_paidWith_48 : decode cX5_paidWith 48 = .ok (.iinc 5 1, 3) := by decide +kernel
theorem dX5_paidWith_51 : decode cX5_paidWith 51 = .ok (.goto (-33), 3) := by decide +kernel
theorem dX5_paidWith_54 : decode cX5_paidWith 54 = .ok (.iload 4, 2) := by decide +kernel
theorem dX5_paidWith_56 : decode cX5_paidWith 56 = .ok (.ireturn, 1) := by decide +kernel
theorem dX6_init_0 : decode cX6_init 0 = .ok (.aload_n 0, 1) := by decide +kernel
theorem dX6_init_1 : decode cX6_init 1 = .ok (.invokespecial 3, 3) := by decide +kernel
theorem dX6_init_4 : decode cX6_init 4 = .ok (.aload_n 0, 1) := by decide +kernel
theorem dX6_init_5 : decode cX6_init 5 = .ok (.sipush 300, 3) := by decide +kernel
theorem dX6_init_8 : decode cX6_init 8 = .ok (.newarray .int, 2) := by decide +kernel
theorem dX6_init_10 : decode cX6_init 10 = .ok (.putfield 9, 3) := by decide +kernel
theorem dX6_init_13 : decode cX6_init 13 = .ok (.aload_n 0, 1) := by decide +kernel
theorem dX6_init_14 : decode cX6_init 14 = .ok (.iconst 4, 1) := by decide +kernel
theorem dX6_init_15 : decode cX6_init 15 = .ok (.newarray .int, 2) := by decide +kernel
theorem dX6_init_17 : decode cX6_init 17 = .ok (.putfield 15, 3) := by decide +kernel
theorem dX6_init_20 : decode cX6_init 20 = .ok (.aload_n 0, 1) := by decide +kernel
theorem dX6_init_21 : decode cX6_init 21 = .ok (.iconst 4, 1) := by decide +kernel
theorem dX6_init_22 : decode cX6_init 22 = .ok (.newarray .int, 2) := by decide +kernel
theorem dX6_init_24 : decode cX6_init 24 = .ok (.putfield 18, 3) := by decide +kernel
theorem dX6_init_27 : decode cX6_init 27 = .ok (.aload_n 0, 1) := by decide +kernel
theorem dX6_init_28 : decode cX6_init 28 = .ok (.bipush 24, 2) := by decide +kernel
theorem dX6_init_30 : decode cX6_init 30 = .ok (.newarray .int, 2) := by decide +kernel
theorem dX6_init_32 : decode cX6_init 32 = .ok (.putfield 21, 3) := by decide +kernel
theorem dX6_init_35 : decode cX6_init 35 = .ok (.aload_n 0, 1) := by decide +kernel
theorem dX6_init_36 : decode cX6_init 36 = .ok (.bipush 72, 2) := by decide +kernel
theorem dX6_init_38 : decode cX6_init 38 = .ok (.newarray .int, 2) := by decide +kernel
theorem dX6_init_40 : decode cX6_init 40 = .ok (.putfield 24, 3) := by decide +kernel
theorem dX6_init_43 : decode cX6_init 43 = .ok (.return_, 1) := by decide +kernel
theorem dX6_empty_0 : decode cX6_empty 0 = .ok (.aload_n 0, 1) := by decide +kernel
theorem dX6_empty_1 : decode cX6_empty 1 = .ok (.iconst 0, 1) := by decide +kernel
theorem dX6_empty_2 : decode cX6_empty 2 = .ok (.putfield 27, 3) := by decide +kernel
theorem dX6_empty_5 : decode cX6_empty 5 = .ok (.aload_n 0, 1) := by decide +kernel
theorem dX6_empty_6 : decode cX6_empty 6 = .ok (.iconst 0, 1) := by decide +kernel
theorem dX6_empty_7 : decode cX6_empty 7 = .ok (.putfield 31, 3) := by decide +kernel
theorem dX6_empty_10 : decode cX6_empty 10 = .ok (.iconst 0, 1) := by decide +kernel
theorem dX6_empty_11 : decode cX6_empty 11 = .ok (.istore_n 1, 1) := by decide +kernel
theorem dX6_empty_12 : decode cX6_empty 12 = .ok (.iload_n 1, 1) := by decide +kernel
theorem dX6_empty_13 : decode cX6_empty 13 = .ok (.iconst 4, 1) := by decide +kernel
theorem dX6_empty_14 : decode cX6_empty 14 = .ok (.if_icmp .ge 23, 3) := by decide +kernel
theorem dX6_empty_17 : decode cX6_empty 17 = .ok (.aload_n 0, 1) := by decide +kernel
theorem dX6_empty_18 : decode cX6_empty 18 = .ok (.getfield 15, 3) := by decide +kernel
theorem dX6_empty_21 : decode cX6_empty 21 = .ok (.iload_n 1, 1) := by decide +kernel
theorem dX6_empty_22 : decode cX6_empty 22 = .ok (.iconst 0, 1) := by decide +kernel
theorem dX6_empty_23 : decode cX6_empty 23 = .ok (.iastore, 1) := by decide +kernel
theorem dX6_empty_24 : decode cX6_empty 24 = .ok (.aload_n 0, 1) := by decide +kernel
theorem dX6_empty_25 : decode cX6_empty 25 = .ok (.getfield 18, 3) := by decide +kernel
theorem dX6_empty_28 : decode cX6_empty 28 = .ok (.iload_n 1, 1) := by decide +kernel
theorem dX6_empty_29 : decode cX6_empty 29 = .ok (.iconst 0, 1) := by decide +kernel
theorem dX6_empty_30 : decode cX6_empty 30 = .ok (.iastore, 1) := by decide +kernel
theorem dX6_empty_31 : decode cX6_empty 31 = .ok (.iinc 1 1, 3) := by decide +kernel
theorem dX6_empty_34 : decode cX6_empty 34 = .ok (.goto (-22), 3) := by decide +kernel
theorem dX6_empty_37 : decode cX6_empty 37 = .ok (.return_, 1) := by decide +kernel
theorem dX6_copyFrom_0 : decode cX6_copyFrom 0 = .ok (.aload_n 0, 1) := by decide +kernel
theorem dX6_copyFrom_1 : decode cX6_copyFrom 1 = .ok (.aload_n 1, 1) := by decide +kernel
theorem dX6_copyFrom_2 : decode cX6_copyFrom 2 = .ok (.getfield 27, 3) := by decide +kernel
theorem dX6_copyFrom_5 : decode cX6_copyFrom 5 = .ok (.putfield 27, 3) := by decide +kernel
theorem dX6_copyFrom_8 : decode cX6_copyFrom 8 = .ok (.aload_n 0, 1) := by decide +kernel
theorem dX6_copyFrom_9 : decode cX6_copyFrom 9 = .ok (.aload_n 1, 1) := by decide +kernel
theorem dX6_copyFrom_10 : decode cX6_copyFrom 10 = .ok (.getfield 31, 3) := by decide +kernel
theorem dX6_copyFrom_13 : decode cX6_copyFrom 13 = .ok (.putfield 31, 3) := by decide +kernel
theorem dX6_copyFrom_16 : decode cX6_copyFrom 16 = .ok (.aload_n 1, 1) := by decide +kernel
theorem dX6_copyFrom_17 : decode cX6_copyFrom 17 = .ok (.getfield 9, 3) := by decide +kernel
theorem dX6_copyFrom_20 : decode cX6_copyFrom 20 = .ok (.iconst 0, 1) := by decide +kernel
theorem dX6_copyFrom_21 : decode cX6_copyFrom 21 = .ok (.aload_n 0, 1) := by decide +kernel
theorem dX6_copyFrom_22 : decode cX6_copyFrom 22 = .ok (.getfield 9, 3) := by decide +kernel
theorem dX6_copyFrom_25 : decode cX6_copyFrom 25 = .ok (.iconst 0, 1) := by decide +kernel
theorem dX6_copyFrom_26 : decode cX6_copyFrom 26 = .ok (.aload_n 0, 1) := by decide +kernel
theorem dX6_copyFrom_27 : decode cX6_copyFrom 27 = .ok (.getfield 9, 3) := by decide +kernel
theorem dX6_copyFrom_30 : decode cX6_copyFrom 30 = .ok (.arraylength, 1) := by decide +kernel
theorem dX6_copyFrom_31 : decode cX6_copyFrom 31 = .ok (.invokestatic 34, 3) := by decide +kernel
theorem dX6_copyFrom_34 : decode cX6_copyFrom 34 = .ok (.aload_n 1, 1) := by decide +kernel
theorem dX6_copyFrom_35 : decode cX6_copyFrom 35 = .ok (.getfield 15, 3) := by decide +kernel
theorem dX6_copyFrom_38 : decode cX6_copyFrom 38 = .ok (.iconst 0, 1) := by decide +kernel
theorem dX6_copyFrom_39 : decode cX6_copyFrom 39 = .ok (.aload_n 0, 1) := by decide +kernel
theorem dX6_copyFrom_40 : decode cX6_copyFrom 40 = .ok (.getfield 15, 3) := by decide +kernel
theorem dX6_copyFrom_43 : decode cX6_copyFrom 43 = .ok (.iconst 0, 1) := by decide +kernel
theorem dX6_copyFrom_44 : decode cX6_copyFrom 44 = .ok (.aload_n 0, 1) := by decide +kernel
theorem dX6_copyFrom_45 : decode cX6_copyFrom 45 = .ok (.getfield 15, 3) := by decide +kernel
theorem dX6_copyFrom_48 : decode cX6_copyFrom 48 = .ok (.arraylength, 1) := by decide +kernel
theorem dX6_copyFrom_49 : decode cX6_copyFrom 49 = .ok (.invokestatic 34, 3) := by decide +kernel
theorem dX6_copyFrom_52 : decode cX6_copyFrom 52 = .ok (.aload_n 1, 1) := by decide +kernel
theorem dX6_copyFrom_53 : decode cX6_copyFrom 53 = .ok (.getfield 18, 3) := by decide +kernel
theorem dX6_copyFrom_56 : decode cX6_copyFrom 56 = .ok (.iconst 0, 1) := by decide +kernel
theorem dX6_copyFrom_57 : decode cX6_copyFrom 57 = .ok (.aload_n 0, 1) := by decide +kernel
theorem dX6_copyFrom_58 : decode cX6_copyFrom 58 = .ok (.getfield 18, 3) := by decide +kernel
theorem dX6_copyFrom_61 : decode cX6_copyFrom 61 = .ok (.iconst 0, 1) := by decide +kernel
theorem dX6_copyFrom_62 : decode cX6_copyFrom 62 = .ok (.aload_n 0, 1) := by decide +kernel
theorem dX6_copyFrom_63 : decode cX6_copyFrom 63 = .ok (.getfield 18, 3) := by decide +kernel
theorem dX6_copyFrom_66 : decode cX6_copyFrom 66 = .ok (.arraylength, 1) := by decide +kernel
theorem dX6_copyFrom_67 : decode cX6_copyFrom 67 = .ok (.invokestatic 34, 3) := by decide +kernel
theorem dX6_copyFrom_70 : decode cX6_copyFrom 70 = .ok (.aload_n 1, 1) := by decide +kernel
theorem dX6_copyFrom_71 : decode cX6_copyFrom 71 = .ok (.getfield 21, 3) := by decide +kernel
theorem dX6_copyFrom_74 : decode cX6_copyFrom 74 = .ok (.iconst 0, 1) := by decide +kernel
theorem dX6_copyFrom_75 : decode cX6_copyFrom 75 = .ok (.aload_n 0, 1) := by decide +kernel
theorem dX6_copyFrom_76 : decode cX6_copyFrom 76 = .ok (.getfield 21, 3) := by decide +kernel
theorem dX6_copyFrom_79 : decode cX6_copyFrom 79 = .ok (.iconst 0, 1) := by decide +kernel
theorem dX6_copyFrom_80 : decode cX6_copyFrom 80 = .ok (.aload_n 0, 1) := by decide +kernel
theorem dX6_copyFrom_81 : decode cX6_copyFrom 81 = .ok (.getfield 21, 3) := by decide +kernel
theorem dX6_copyFrom_84 : decode cX6_copyFrom 84 = .ok (.arraylength, 1) := by decide +kernel
theorem dX6_copyFrom_85 : decode cX6_copyFrom 85 = .ok (.invokestatic 34, 3) := by decide +kernel
theorem dX6_copyFrom_88 : decode cX6_copyFrom 88 = .ok (.aload_n 1, 1) := by decide +kernel
theorem dX6_copyFrom_89 : decode cX6_copyFrom 89 = .ok (.getfield 24, 3) := by decide +kernel
theorem dX6_copyFrom_92 : decode cX6_copyFrom 92 = .ok (.iconst 0, 1) := by decide +kernel
theorem dX6_copyFrom_93 : decode cX6_copyFrom 93 = .ok (.aload_n 0, 1) := by decide +kernel
theorem dX6_copyFrom_94 : decode cX6_copyFrom 94 = .ok (.getfield 24, 3) := by decide +kernel
theorem dX6_copyFrom_97 : decode cX6_copyFrom 97 = .ok (.iconst 0, 1) := by decide +kernel
theorem dX6_copyFrom_98 : decode cX6_copyFrom 98 = .ok (.aload_n 0, 1) := by decide +kernel
theorem dX6_copyFrom_99 : decode cX6_copyFrom 99 = .ok (.getfield 24, 3) := by decide +kernel
theorem dX6_copyFrom_102 : decode cX6_copyFrom 102 = .ok (.arraylength, 1) := by decide +kernel
theorem dX6_copyFrom_103 : decode cX6_copyFrom 103 = .ok (.invokestatic 34, 3) := by decide +kernel
theorem dX6_copyFrom_106 : decode cX6_copyFrom 106 = .ok (.return_, 1) := by decide +kernel
theorem dX6_begin_0 : decode cX6_begin 0 = .ok (.aload_n 0, 1) := by decide +kernel
theorem dX6_begin_1 : decode cX6_begin 1 = .ok (.getfield 31, 3) := by decide +kernel
theorem dX6_begin_4 : decode cX6_begin 4 = .ok (.iconst 0, 1) := by decide +kernel
theorem dX6_begin_5 : decode cX6_begin 5 = .ok (.bipush 23, 2) := by decide +kernel
theorem dX6_begin_7 : decode cX6_begin 7 = .ok (.invokestatic 40, 3) := by decide +kernel
theorem dX6_begin_10 : decode cX6_begin 10 = .ok (.ifCond .eq 23, 3) := by decide +kernel
theorem dX6_begin_13 : decode cX6_begin 13 = .ok (.aload_n 0, 1) := by decide +kernel
theorem dX6_begin_14 : decode cX6_begin 14 = .ok (.getfield 21, 3) := by decide +kernel
theorem dX6_begin_17 : decode cX6_begin 17 = .ok (.aload_n 0, 1) := by decide +kernel
theorem dX6_begin_18 : decode cX6_begin 18 = .ok (.getfield 31, 3) := by decide +kernel
theorem dX6_begin_21 : decode cX6_begin 21 = .ok (.iload_n 1, 1) := by decide +kernel
theorem dX6_begin_22 : decode cX6_begin 22 = .ok (.iastore, 1) := by decide +kernel
theorem dX6_begin_23 : decode cX6_begin 23 = .ok (.aload_n 0, 1) := by decide +kernel
theorem dX6_begin_24 : decode cX6_begin 24 = .ok (.dup, 1) := by decide +kernel
theorem dX6_begin_25 : decode cX6_begin 25 = .ok (.getfield 31, 3) := by decide +kernel
theorem dX6_begin_28 : decode cX6_begin 28 = .ok (.iconst 1, 1) := by decide +kernel
theorem dX6_begin_29 : decode cX6_begin 29 = .ok (.iadd, 1) := by decide +kernel
theorem dX6_begin_30 : decode cX6_begin 30 = .ok (.putfield 31, 3) := by decide +kernel
theorem dX6_begin_33 : decode cX6_begin 33 = .ok (.iload_n 1, 1) := by decide +kernel
theorem dX6_begin_34 : decode cX6_begin 34 = .ok (.invokestatic 44, 3) := by decide +kernel
theorem dX6_begin_37 : decode cX6_begin 37 = .ok (.ifCond .eq 31, 3) := by decide +kernel
theorem dX6_begin_40 : decode cX6_begin 40 = .ok (.aload_n 0, 1) := by decide +kernel
theorem dX6_begin_41 : decode cX6_begin 41 = .ok (.getfield 15, 3) := by decide +kernel
theorem dX6_begin_44 : decode cX6_begin 44 = .ok (.iload_n 1, 1) := by decide +kernel
theorem dX6_begin_45 : decode cX6_begin 45 = .ok (.sipush 128, 3) := by decide +kernel
theorem dX6_begin_48 : decode cX6_begin 48 = .ok (.isub, 1) := by decide +kernel
theorem dX6_begin_49 : decode cX6_begin 49 = .ok (.aload_n 0, 1) := by decide +kernel
theorem dX6_begin_50 : decode cX6_begin 50 = .ok (.getfield 27, 3) := by decide +kernel
theorem dX6_begin_53 : decode cX6_begin 53 = .ok (.iastore, 1) := by decide +kernel
theorem dX6_begin_54 : decode cX6_begin 54 = .ok (.aload_n 0, 1) := by decide +kernel
theorem dX6_begin_55 : decode cX6_begin 55 = .ok (.getfield 18, 3) := by decide +kernel
theorem dX6_begin_58 : decode cX6_begin 58 = .ok (.iload_n 1, 1) := by decide +kernel
theorem dX6_begin_59 : decode cX6_begin 59 = .ok (.sipush 128, 3) := by decide +kernel
theorem dX6_begin_62 : decode cX6_begin 62 = .ok (.isub, 1) := by decide +kernel
theorem dX6_begin_63 : decode cX6_begin 63 = .ok (.aload_n 0, 1) := by decide +kernel
theorem dX6_begin_64 : decode cX6_begin 64 = .ok (.getfield 27, 3) := by decide +kernel
theorem dX6_begin_67 : decode cX6_begin 67 = .ok (.iastore, 1) := by decide +kernel
theorem dX6_begin_68 : decode cX6_begin 68 = .ok (.return_, 1) := by decide +kernel
theorem dX6_endLaw_0 : decode cX6_endLaw 0 = .ok (.iload_n 1, 1) := by decide +kernel
theorem dX6_endLaw_1 : decode cX6_endLaw 1 = .ok (.invokestatic 44, 3) := by decide +kernel
theorem dX6_endLaw_4 : decode cX6_endLaw 4 = .ok (.ifCond .eq 17, 3) := by decide +kernel
theorem dX6_endLaw_7 : decode cX6_endLaw 7 = .ok (.aload_n 0, 1) := by decide +kernel
theorem dX6_endLaw_8 : decode cX6_endLaw 8 = .ok (.getfield 18, 3) := by decide +kernel
theorem dX6_endLaw_11 : decode cX6_endLaw 11 = .ok (.iload_n 1, 1) := by decide +kernel
theorem dX6_endLaw_12 : decode cX6_endLaw 12 = .ok (.sipush 128, 3) := by decide +kernel
theorem dX6_endLaw_15 : decode cX6_endLaw 15 = .ok (.isub, 1) := by decide +kernel
theorem dX6_endLaw_16 : decode cX6_endLaw 16 = .ok (.aload_n 0, 1) := by decide +kernel
theorem dX6_endLaw_17 : decode cX6_endLaw 17 = .ok (.getfield 27, 3) := by decide +kernel
theorem dX6_endLaw_20 : decode cX6_endLaw 20 = .ok (.iastore, 1) := by decide +kernel
theorem dX6_endLaw_21 : decode cX6_endLaw 21 = .ok (.return_, 1) := by decide +kernel
theorem dX6_tellNumber_0 : decode cX6_tellNumber 0 = .ok (.aload_n 0, 1) := by decide +kernel
theorem dX6_tellNumber_1 : decode cX6_tellNumber 1 = .ok (.getfield 31, 3) := by decide +kernel
theorem dX6_tellNumber_4 : decode cX6_tellNumber 4 = .ok (.iconst 1, 1) := by decide +kernel
theorem dX6_tellNumber_5 : decode cX6_tellNumber 5 = .ok (.isub, 1) := by decide +kernel
theorem dX6_tellNumber_6 : decode cX6_tellNumber 6 = .ok (.iconst 3, 1) := by decide +kernel
theorem dX6_tellNumber_7 : decode cX6_tellNumber 7 = .ok (.imul, 1) := by decide +kernel
theorem dX6_tellNumber_8 : decode cX6_tellNumber 8 = .ok (.iload_n 1, 1) := by decide +kernel
theorem dX6_tellNumber_9 : decode cX6_tellNumber 9 = .ok (.iadd, 1) := by decide +kernel
theorem dX6_tellNumber_10 : decode cX6_tellNumber 10 = .ok (.istore_n 3, 1) := by decide +kernel
theorem dX6_tellNumber_11 : decode cX6_tellNumber 11 = .ok (.iload_n 1, 1) := by decide +kernel
theorem dX6_tellNumber_12 : decode cX6_tellNumber 12 = .ok (.iconst 0, 1) := by decide +kernel
theorem dX6_tellNumber_13 : decode cX6_tellNumber 13 = .ok (.iconst 2, 1) := by decide +kernel
theorem dX6_tellNumber_14 : decode cX6_tellNumber 14 = .ok (.invokestatic 40, 3) := by decide +kernel
theorem dX6_tellNumber_17 : decode cX6_tellNumber 17 = .ok (.ifCond .eq 25, 3) := by decide +kernel
theorem dX6_tellNumber_20 : decode cX6_tellNumber 20 = .ok (.iload_n 3, 1) := by decide +kernel
theorem dX6_tellNumber_21 : decode cX6_tellNumber 21 = .ok (.iconst 0, 1) := by decide +kernel
theorem dX6_tellNumber_22 : decode cX6_tellNumber 22 = .ok (.aload_n 0, 1) := by decide +kernel
theorem dX6_tellNumber_23 : decode cX6_tellNumber 23 = .ok (.getfield 24, 3) := by decide +kernel
theorem dX6_tellNumber_26 : decode cX6_tellNumber 26 = .ok (.arraylength, 1) := by decide +kernel
theorem dX6_tellNumber_27 : decode cX6_tellNumber 27 = .ok (.iconst 1, 1) := by decide +kernel
theorem dX6_tellNumber_28 : decode cX6_tellNumber 28 = .ok (.isub, 1) := by decide +kernel
theorem dX6_tellNumber_29 : decode cX6_tellNumber 29 = .ok (.invokestatic 40, 3) := by decide +kernel
theorem dX6_tellNumber_32 : decode cX6_tellNumber 32 = .ok (.ifCond .eq 10, 3) := by decide +kernel
theorem dX6_tellNumber_35 : decode cX6_tellNumber 35 = .ok (.aload_n 0, 1) := by decide +kernel
theorem dX6_tellNumber_36 : decode cX6_tellNumber 36 = .ok (.getfield 24, 3) := by decide +kernel
theorem dX6_tellNumber_39 : decode cX6_tellNumber 39 = .ok (.iload_n 3, 1) := by decide +kernel
theorem dX6_tellNumber_40 : decode cX6_tellNumber 40 = .ok (.iload_n 2, 1) := by decide +kernel
theorem dX6_tellNumber_41 : decode cX6_tellNumber 41 = .ok (.iastore, 1) := by decide +kernel
theorem dX6_tellNumber_42 : decode cX6_tellNumber 42 = .ok (.return_, 1) := by decide +kernel
theorem dX6_emit_0 : decode cX6_emit 0 = .ok (.aload_n 0, 1) := by decide +kernel
theorem dX6_emit_1 : decode cX6_emit 1 = .ok (.getfield 27, 3) := by decide +kernel
theorem dX6_emit_4 : decode cX6_emit 4 = .ok (.iconst 0, 1) := by decide +kernel
theorem dX6_emit_5 : decode cX6_emit 5 = .ok (.aload_n 0, 1) := by decide +kernel
theorem dX6_emit_6 : decode cX6_emit 6 = .ok (.getfield 9, 3) := by decide +kernel
theorem dX6_emit_9 : decode cX6_emit 9 = .ok (.arraylength, 1) := by decide +kernel
theorem dX6_emit_10 : decode cX6_emit 10 = .ok (.iconst 1, 1) := by decide +kernel
theorem dX6_emit_11 : decode cX6_emit 11 = .ok (.isub, 1) := by decide +kernel
theorem dX6_emit_12 : decode cX6_emit 12 = .ok (.invokestatic 40, 3) := by decide +kernel
theorem dX6_emit_15 : decode cX6_emit 15 = .ok (.ifCond .eq 29, 3) := by decide +kernel
theorem dX6_emit_18 : decode cX6_emit 18 = .ok (.aload_n 0, 1) := by decide +kernel
theorem dX6_emit_19 : decode cX6_emit 19 = .ok (.getfield 9, 3) := by decide +kernel
theorem dX6_emit_22 : decode cX6_emit 22 = .ok (.aload_n 0, 1) := by decide +kernel
theorem dX6_emit_23 : decode cX6_emit 23 = .ok (.getfield 27, 3) := by decide +kernel
theorem dX6_emit_26 : decode cX6_emit 26 = .ok (.iload_n 2, 1) := by decide +kernel
theorem dX6_emit_27 : decode cX6_emit 27 = .ok (.sipush 256, 3) := by decide +kernel
theorem dX6_emit_30 : decode cX6_emit 30 = .ok (.imul, 1) := by decide +kernel
theorem dX6_emit_31 : decode cX6_emit 31 = .ok (.iload_n 1, 1) := by decide +kernel
theorem dX6_emit_32 : decode cX6_emit 32 = .ok (.iadd, 1) := by decide +kernel
theorem dX6_emit_33 : decode cX6_emit 33 = .ok (.iastore, 1) := by decide +kernel
theorem dX6_emit_34 : decode cX6_emit 34 = .ok (.aload_n 0, 1) := by decide +kernel
theorem dX6_emit_35 : decode cX6_emit 35 = .ok (.dup, 1) := by decide +kernel
theorem dX6_emit_36 : decode cX6_emit 36 = .ok (.getfield 27, 3) := by decide +kernel
theorem dX6_emit_39 : decode cX6_emit 39 = .ok (.iconst 1, 1) := by decide +kernel
theorem dX6_emit_40 : decode cX6_emit 40 = .ok (.iadd, 1) := by decide +kernel
theorem dX6_emit_41 : decode cX6_emit 41 = .ok (.putfield 27, 3) := by decide +kernel
theorem dX6_emit_44 : decode cX6_emit 44 = .ok (.aload_n 0, 1) := by decide +kernel
theorem dX6_emit_45 : decode cX6_emit 45 = .ok (.getfield 27, 3) := by decide +kernel
theorem dX6_emit_48 : decode cX6_emit 48 = .ok (.iconst 1, 1) := by decide +kernel
theorem dX6_emit_49 : decode cX6_emit 49 = .ok (.isub, 1) := by decide +kernel
theorem dX6_emit_50 : decode cX6_emit 50 = .ok (.ireturn, 1) := by decide +kernel
theorem dX6_leadHere_0 : decode cX6_leadHere 0 = .ok (.iload_n 1, 1) := by decide +kernel
theorem dX6_leadHere_1 : decode cX6_leadHere 1 = .ok (.iconst 0, 1) := by decide +kernel
theorem dX6_leadHere_2 : decode cX6_leadHere 2 = .ok (.aload_n 0, 1) := by decide +kernel
theorem dX6_leadHere_3 : decode cX6_leadHere 3 = .ok (.getfield 27, 3) := by decide +kernel
theorem dX6_leadHere_6 : decode cX6_leadHere 6 = .ok (.iconst 1, 1) := by decide +kernel
theorem dX6_leadHere_7 : decode cX6_leadHere 7 = .ok (.isub, 1) := by decide +kernel
theorem dX6_leadHere_8 : decode cX6_leadHere 8 = .ok (.invokestatic 40, 3) := by decide +kernel
theorem dX6_leadHere_11 : decode cX6_leadHere 11 = .ok (.ifCond .eq 28, 3) := by decide +kernel
theorem dX6_leadHere_14 : decode cX6_leadHere 14 = .ok (.aload_n 0, 1) := by decide +kernel
theorem dX6_leadHere_15 : decode cX6_leadHere 15 = .ok (.getfield 9, 3) := by decide +kernel
theorem dX6_leadHere_18 : decode cX6_leadHere 18 = .ok (.iload_n 1, 1) := by decide +kernel
theorem dX6_leadHere_19 : decode cX6_leadHere 19 = .ok (.aload_n 0, 1) := by decide +kernel
theorem dX6_leadHere_20 : decode cX6_leadHere 20 = .ok (.getfield 27, 3) := by decide +kernel
theorem dX6_leadHere_23 : decode cX6_leadHere 23 = .ok (.sipush 256, 3) := by decide +kernel
theorem dX6_leadHere_26 : decode cX6_leadHere 26 = .ok (.imul, 1) := by decide +kernel
theorem dX6_leadHere_27 : decode cX6_leadHere 27 = .ok (.aload_n 0, 1) := by decide +kernel
theorem dX6_leadHere_28 : decode cX6_leadHere 28 = .ok (.getfield 9, 3) := by decide +kernel
theorem dX6_leadHere_31 : decode cX6_leadHere 31 = .ok (.iload_n 1, 1) := by decide +kernel
theorem dX6_leadHere_32 : decode cX6_leadHere 32 = .ok (.iaload, 1) := by decide +kernel
theorem dX6_leadHere_33 : decode cX6_leadHere 33 = .ok (.sipush 256, 3) := by decide +kernel
theorem dX6_leadHere_36 : decode cX6_leadHere 36 = .ok (.irem, 1) := by decide +kernel
theorem dX6_leadHere_37 : decode cX6_leadHere 37 = .ok (.iadd, 1) := by decide +kernel
theorem dX6_leadHere_38 : decode cX6_leadHere 38 = .ok (.iastore, 1) := by decide +kernel
theorem dX6_leadHere_39 : decode cX6_leadHere 39 = .ok (.return_, 1) := by decide +kernel
theorem dX6_deed_0 : decode cX6_deed 0 = .ok (.iload_n 1, 1) := by decide +kernel
theorem dX6_deed_1 : decode cX6_deed 1 = .ok (.iconst 0, 1) := by decide +kernel
theorem dX6_deed_2 : decode cX6_deed 2 = .ok (.bipush 23, 2) := by decide +kernel
theorem dX6_deed_4 : decode cX6_deed 4 = .ok (.invokestatic 40, 3) := by decide +kernel
theorem dX6_deed_7 : decode cX6_deed 7 = .ok (.ifCond .eq 12, 3) := by decide +kernel
theorem dX6_deed_10 : decode cX6_deed 10 = .ok (.aload_n 0, 1) := by decide +kernel
theorem dX6_deed_11 : decode cX6_deed 11 = .ok (.getfield 21, 3) := by decide +kernel
theorem dX6_deed_14 : decode cX6_deed 14 = .ok (.iload_n 1, 1) := by decide +kernel
theorem dX6_deed_15 : decode cX6_deed 15 = .ok (.iaload, 1) := by decide +kernel
theorem dX6_deed_16 : decode cX6_deed 16 = .ok (.goto 4, 3) := by decide +kernel
theorem dX6_deed_19 : decode cX6_deed 19 = .ok (.iconst 0, 1) := by decide +kernel
theorem dX6_deed_20 : decode cX6_deed 20 = .ok (.ireturn, 1) := by decide +kernel
theorem dX6_number_0 : decode cX6_number 0 = .ok (.iload_n 1, 1) := by decide +kernel
theorem dX6_number_1 : decode cX6_number 1 = .ok (.iconst 0, 1) := by decide +kernel
theorem dX6_number_2 : decode cX6_number 2 = .ok (.bipush 23, 2) := by decide +kernel
theorem dX6_number_4 : decode cX6_number 4 = .ok (.invokestatic 40, 3) := by decide +kernel
theorem dX6_number_7 : decode cX6_number 7 = .ok (.ifCond .eq 16, 3) := by decide +kernel
theorem dX6_number_10 : decode cX6_number 10 = .ok (.iload_n 2, 1) := by decide +kernel
theorem dX6_number_11 : decode cX6_number 11 = .ok (.iconst 0, 1) := by decide +kernel
theorem dX6_number_12 : decode cX6_number 12 = .ok (.iconst 2, 1) := by decide +kernel
theorem dX6_number_13 : decode cX6_number 13 = .ok (.invokestatic 40, 3) := by decide +kernel
theorem dX6_number_16 : decode cX6_number 16 = .ok (.ifCond .eq 7, 3) := by decide +kernel
theorem dX6_number_19 : decode cX6_number 19 = .ok (.iconst 1, 1) := by decide +kernel
theorem dX6_number_20 : decode cX6_number 20 = .ok (.goto 4, 3) := by decide +kernel
theorem dX6_number_23 : decode cX6_number 23 = .ok (.iconst 0, 1) := by decide +kernel
theorem dX6_number_24 : decode cX6_number 24 = .ok (.istore_n 3, 1) := by decide +kernel
theorem dX6_number_25 : decode cX6_number 25 = .ok (.iload_n 3, 1) := by decide +kernel
theorem dX6_number_26 : decode cX6_number 26 = .ok (.ifCond .eq 16, 3) := by decide +kernel
theorem dX6_number_29 : decode cX6_number 29 = .ok (.aload_n 0, 1) := by decide +kernel
theorem dX6_number_30 : decode cX6_number 30 = .ok (.getfield 24, 3) := by decide +kernel
theorem dX6_number_33 : decode cX6_number 33 = .ok (.iload_n 1, 1) := by decide +kernel
theorem dX6_number_34 : decode cX6_number 34 = .ok (.iconst 3, 1) := by decide +kernel
theorem dX6_number_35 : decode cX6_number 35 = .ok (.imul, 1) := by decide +kernel
theorem dX6_number_36 : decode cX6_number 36 = .ok (.iload_n 2, 1) := by decide +kernel
theorem dX6_number_37 : decode cX6_number 37 = .ok (.iadd, 1) := by decide +kernel
theorem dX6_number_38 : decode cX6_number 38 = .ok (.iaload, 1) := by decide +kernel
theorem dX6_number_39 : decode cX6_number 39 = .ok (.goto 4, 3) := by decide +kernel
theorem dX6_number_42 : decode cX6_number 42 = .ok (.iconst (-1), 1) := by decide +kernel
theorem dX6_number_43 : decode cX6_number 43 = .ok (.ireturn, 1) := by decide +kernel
theorem dX6_has_0 : decode cX6_has 0 = .ok (.iload_n 1, 1) := by decide +kernel
theorem dX6_has_1 : decode cX6_has 1 = .ok (.invokestatic 44, 3) := by decide +kernel
theorem dX6_has_4 : decode cX6_has 4 = .ok (.ifCond .eq 30, 3) := by decide +kernel
theorem dX6_has_7 : decode cX6_has 7 = .ok (.aload_n 0, 1) := by decide +kernel
theorem dX6_has_8 : decode cX6_has 8 = .ok (.getfield 15, 3) := by decide +kernel
theorem dX6_has_11 : decode cX6_has 11 = .ok (.iload_n 1, 1) := by decide +kernel
theorem dX6_has_12 : decode cX6_has 12 = .ok (.sipush 128, 3) := by decide +kernel
theorem dX6_has_15 : decode cX6_has 15 = .ok (.isub, 1) := by decide +kernel
theorem dX6_has_16 : decode cX6_has 16 = .ok (.iaload, 1) := by decide +kernel
theorem dX6_has_17 : decode cX6_has 17 = .ok (.aload_n 0, 1) := by decide +kernel
theorem dX6_has_18 : decode cX6_has 18 = .ok (.getfield 18, 3) := by decide +kernel
theorem dX6_has_21 : decode cX6_has 21 = .ok (.iload_n 1, 1) := by decide +kernel
theorem dX6_has_22 : decode cX6_has 22 = .ok (.sipush 128, 3) := by decide +kernel
theorem dX6_has_25 : decode cX6_has 25 = .ok (.isub, 1) := by decide +kernel
theorem dX6_has_26 : decode cX6_has 26 = .ok (.iaload, 1) := by decide +kernel
theorem dX6_has_27 : decode cX6_has 27 = .ok (.if_icmp .ge 7, 3) := by decide +kernel
theorem dX6_has_30 : decode cX6_has 30 = .ok (.iconst 1, 1) := by decide +kernel
theorem dX6_has_31 : decode cX6_has 31 = .ok (.goto 4, 3) := by decide +kernel
theorem dX6_has_34 : decode cX6_has 34 = .ok (.iconst 0, 1) := by decide +kernel
theorem dX6_has_35 : decode cX6_has 35 = .ok (.ireturn, 1) := by decide +kernel
theorem dX6_start_0 : decode cX6_start 0 = .ok (.iload_n 1, 1) := by decide +kernel
theorem dX6_start_1 : decode cX6_start 1 = .ok (.invokestatic 44, 3) := by decide +kernel
theorem dX6_start_4 : decode cX6_start 4 = .ok (.ifCond .eq 16, 3) := by decide +kernel
theorem dX6_start_7 : decode cX6_start 7 = .ok (.aload_n 0, 1) := by decide +kernel
theorem dX6_start_8 : decode cX6_start 8 = .ok (.getfield 15, 3) := by decide +kernel
theorem dX6_start_11 : decode cX6_start 11 = .ok (.iload_n 1, 1) := by decide +kernel
theorem dX6_start_12 : decode cX6_start 12 = .ok (.sipush 128, 3) := by decide +kernel
theorem dX6_start_15 : decode cX6_start 15 = .ok (.isub, 1) := by decide +kernel
theorem dX6_start_16 : decode cX6_start 16 = .ok (.iaload, 1) := by decide +kernel
theorem dX6_start_17 : decode cX6_start 17 = .ok (.goto 4, 3) := by decide +kernel
theorem dX6_start_20 : decode cX6_start 20 = .ok (.iconst 0, 1) := by decide +kernel
theorem dX6_start_21 : decode cX6_start 21 = .ok (.ireturn, 1) := by decide +kernel
theorem dX6_stop_0 : decode cX6_stop 0 = .ok (.iload_n 1, 1) := by decide +kernel
theorem dX6_stop_1 : decode cX6_stop 1 = .ok (.invokestatic 44, 3) := by decide +kernel
theorem dX6_stop_4 : decode cX6_stop 4 = .ok (.ifCond .eq 16, 3) := by decide +kernel
theorem dX6_stop_7 : decode cX6_stop 7 = .ok (.aload_n 0, 1) := by decide +kernel
theorem dX6_stop_8 : decode cX6_stop 8 = .ok (.getfield 18, 3) := by decide +kernel
theorem dX6_stop_11 : decode cX6_stop 11 = .ok (.iload_n 1, 1) := by decide +kernel
theorem dX6_stop_12 : decode cX6_stop 12 = .ok (.sipush 128, 3) := by decide +kernel
theorem dX6_stop_15 : decode cX6_stop 15 = .ok (.isub, 1) := by decide +kernel
theorem dX6_stop_16 : decode cX6_stop 16 = .ok (.iaload, 1) := by decide +kernel
theorem dX6_stop_17 : decode cX6_stop 17 = .ok (.goto 4, 3) := by decide +kernel
theorem dX6_stop_20 : decode cX6_stop 20 = .ok (.iconst 0, 1) := by decide +kernel
theorem dX6_stop_21 : decode cX6_stop 21 = .ok (.ireturn, 1) := by decide +kernel
theorem dX6_step_0 : decode cX6_step 0 = .ok (.iload_n 1, 1) := by decide +kernel
theorem dX6_step_1 : decode cX6_step 1 = .ok (.iconst 0, 1) := by decide +kernel
theorem dX6_step_2 : decode cX6_step 2 = .ok (.aload_n 0, 1) := by decide +kernel
theorem dX6_step_3 : decode cX6_step 3 = .ok (.getfield 9, 3) := by decide +kernel
theorem dX6_step_6 : decode cX6_step 6 = .ok (.arraylength, 1) := by decide +kernel
theorem dX6_step_7 : decode cX6_step 7 = .ok (.iconst 1, 1) := by decide +kernel
theorem dX6_step_8 : decode cX6_step 8 = .ok (.isub, 1) := by decide +kernel
theorem dX6_step_9 : decode cX6_step 9 = .ok (.invokestatic 40, 3) := by decide +kernel
theorem dX6_step_12 : decode cX6_step 12 = .ok (.ifCond .eq 12, 3) := by decide +kernel
theorem dX6_step_15 : decode cX6_step 15 = .ok (.aload_n 0, 1) := by decide +kernel
theorem dX6_step_16 : decode cX6_step 16 = .ok (.getfield 9, 3) := by decide +kernel
theorem dX6_step_19 : decode cX6_step 19 = .ok (.iload_n 1, 1) := by decide +kernel
theorem dX6_step_20 : decode cX6_step 20 = .ok (.iaload, 1) := by decide +kernel
theorem dX6_step_21 : decode cX6_step 21 = .ok (.goto 4, 3) := by decide +kernel
theorem dX6_step_24 : decode cX6_step 24 = .ok (.iconst 0, 1) := by decide +kernel
theorem dX6_step_25 : decode cX6_step 25 = .ok (.ireturn, 1) := by decide +kernel
theorem dX7_init_0 : decode cX7_init 0 = .ok (.aload_n 0, 1) := by decide +kernel
theorem dX7_init_1 : decode cX7_init 1 = .ok (.invokespecial 3, 3) := by decide +kernel
theorem dX7_init_4 : decode cX7_init 4 = .ok (.aload_n 0, 1) := by decide +kernel
theorem dX7_init_5 : decode cX7_init 5 = .ok (.bipush 97, 2) := by decide +kernel
theorem dX7_init_7 : decode cX7_init 7 = .ok (.putfield 9, 3) := by decide +kernel
theorem dX7_init_10 : decode cX7_init 10 = .ok (.aload_n 0, 1) := by decide +kernel
theorem dX7_init_11 : decode cX7_init 11 = .ok (.bipush 7, 2) := by decide +kernel
theorem dX7_init_13 : decode cX7_init 13 = .ok (.newarray .int, 2) := by decide +kernel
theorem dX7_init_15 : decode cX7_init 15 = .ok (.putfield 15, 3) := by decide +kernel
theorem dX7_init_18 : decode cX7_init 18 = .ok (.aload_n 0, 1) := by decide +kernel
theorem dX7_init_19 : decode cX7_init 19 = .ok (.bipush 7, 2) := by decide +kernel
theorem dX7_init_21 : decode cX7_init 21 = .ok (.newarray .int, 2) := by decide +kernel
theorem dX7_init_23 : decode cX7_init 23 = .ok (.putfield 19, 3) := by decide +kernel
theorem dX7_init_26 : decode cX7_init 26 = .ok (.aload_n 0, 1) := by decide +kernel
theorem dX7_init_27 : decode cX7_init 27 = .ok (.bipush 7, 2) := by decide +kernel
theorem dX7_init_29 : decode cX7_init 29 = .ok (.newarray .int, 2) := by decide +kernel
theorem dX7_init_31 : decode cX7_init 31 = .ok (.putfield 22, 3) := by decide +kernel
theorem dX7_init_34 : decode cX7_init 34 = .ok (.aload_n 0, 1) := by decide +kernel
theorem dX7_init_35 : decode cX7_init 35 = .ok (.bipush 49, 2) := by decide +kernel
theorem dX7_init_37 : decode cX7_init 37 = .ok (.newarray .int, 2) := by decide +kernel
theorem dX7_init_39 : decode cX7_init 39 = .ok (.putfield 25, 3) := by decide +kernel
theorem dX7_init_42 : decode cX7_init 42 = .ok (.aload_n 0, 1) := by decide +kernel
theorem dX7_init_43 : decode cX7_init 43 = .ok (.bipush 90, 2) := by decide +kernel
theorem dX7_init_45 : decode cX7_init 45 = .ok (.newarray .int, 2) := by decide +kernel
theorem dX7_init_47 : decode cX7_init 47 = .ok (.putfield 28, 3) := by decide +kernel
theorem dX7_init_50 : decode cX7_init 50 = .ok (.return_, 1) := by decide +kernel
theorem dX7_copyFrom_0 : decode cX7_copyFrom 0 = .ok (.aload_n 0, 1) := by decide +kernel
theorem dX7_copyFrom_1 : decode cX7_copyFrom 1 = .ok (.aload_n 1, 1) := by decide +kernel
theorem dX7_copyFrom_2 : decode cX7_copyFrom 2 = .ok (.getfield 31, 3) := by decide +kernel
theorem dX7_copyFrom_5 : decode cX7_copyFrom 5 = .ok (.putfield 31, 3) := by decide +kernel
theorem dX7_copyFrom_8 : decode cX7_copyFrom 8 = .ok (.aload_n 0, 1) := by decide +kernel
theorem dX7_copyFrom_9 : decode cX7_copyFrom 9 = .ok (.aload_n 1, 1) := by decide +kernel
theorem dX7_copyFrom_10 : decode cX7_copyFrom 10 = .ok (.getfield 34, 3) := by decide +kernel
theorem dX7_copyFrom_13 : decode cX7_copyFrom 13 = .ok (.putfield 34, 3) := by decide +kernel
theorem dX7_copyFrom_16 : decode cX7_copyFrom 16 = .ok (.aload_n 0, 1) := by decide +kernel
theorem dX7_copyFrom_17 : decode cX7_copyFrom 17 = .ok (.aload_n 1, 1) := by decide +kernel
theorem dX7_copyFrom_18 : decode cX7_copyFrom 18 = .ok (.getfield 37, 3) := by decide +kernel
theorem dX7_copyFrom_21 : decode cX7_copyFrom 21 = .ok (.putfield 37, 3) := by decide +kernel
theorem dX7_copyFrom_24 : decode cX7_copyFrom 24 = .ok (.aload_n 0, 1) := by decide +kernel
theorem dX7_copyFrom_25 : decode cX7_copyFrom 25 = .ok (.aload_n 1, 1) := by decide +kernel
theorem dX7_copyFrom_26 : decode cX7_copyFrom 26 = .ok (.getfield 9, 3) := by decide +kernel
theorem dX7_copyFrom_29 : decode cX7_copyFrom 29 = .ok (.putfield 9, 3) := by decide +kernel
theorem dX7_copyFrom_32 : decode cX7_copyFrom 32 = .ok (.aload_n 0, 1) := by decide +kernel
theorem dX7_copyFrom_33 : decode cX7_copyFrom 33 = .ok (.aload_n 1, 1) := by decide +kernel
theorem dX7_copyFrom_34 : decode cX7_copyFrom 34 = .ok (.getfield 40, 3) := by decide +kernel
theorem dX7_copyFrom_37 : decode cX7_copyFrom 37 = .ok (.putfield 40, 3) := by decide +kernel
theorem dX7_copyFrom_40 : decode cX7_copyFrom 40 = .ok (.aload_n 1, 1) := by decide +kernel
theorem dX7_copyFrom_41 : decode cX7_copyFrom 41 = .ok (.getfield 15, 3) := by decide +kernel
theorem dX7_copyFrom_44 : decode cX7_copyFrom 44 = .ok (.iconst 0, 1) := by decide +kernel
theorem dX7_copyFrom_45 : decode cX7_copyFrom 45 = .ok (.aload_n 0, 1) := by decide +kernel
theorem dX7_copyFrom_46 : decode cX7_copyFrom 46 = .ok (.getfield 15, 3) := by decide +kernel
theorem dX7_copyFrom_49 : decode cX7_copyFrom 49 = .ok (.iconst 0, 1) := by decide +kernel
theorem dX7_copyFrom_50 : decode cX7_copyFrom 50 = .ok (.aload_n 0, 1) := by decide +kernel
theorem dX7_copyFrom_51 : decode cX7_copyFrom 51 = .ok (.getfield 15, 3) := by decide +kernel
theorem dX7_copyFrom_54 : decode cX7_copyFrom 54 = .ok (.arraylength, 1) := by decide +kernel
theorem dX7_copyFrom_55 : decode cX7_copyFrom 55 = .ok (.invokestatic 43, 3) := by decide +kernel
theorem dX7_copyFrom_58 : decode cX7_copyFrom 58 = .ok (.aload_n 1, 1) := by decide +kernel
theorem dX7_copyFrom_59 : decode cX7_copyFrom 59 = .ok (.getfield 19, 3) := by decide +kernel
theorem dX7_copyFrom_62 : decode cX7_copyFrom 62 = .ok (.iconst 0, 1) := by decide +kernel
theorem dX7_copyFrom_63 : decode cX7_copyFrom 63 = .ok (.aload_n 0, 1) := by decide +kernel
theorem dX7_copyFrom_64 : decode cX7_copyFrom 64 = .ok (.getfield 19, 3) := by decide +kernel
theorem dX7_copyFrom_67 : decode cX7_copyFrom 67 = .ok (.iconst 0, 1) := by decide +kernel
theorem dX7_copyFrom_68 : decode cX7_copyFrom 68 = .ok (.aload_n 0, 1) := by decide +kernel
theorem dX7_copyFrom_69 : decode cX7_copyFrom 69 = .ok (.getfield 19, 3) := by decide +kernel
theorem dX7_copyFrom_72 : decode cX7_copyFrom 72 = .ok (.arraylength, 1) := by decide +kernel
theorem dX7_copyFrom_73 : decode cX7_copyFrom 73 = .ok (.invokestatic 43, 3) := by decide +kernel
theorem dX7_copyFrom_76 : decode cX7_copyFrom 76 = .ok (.aload_n 1, 1) := by decide +kernel
theorem dX7_copyFrom_77 : decode cX7_copyFrom 77 = .ok (.getfield 22, 3) := by decide +kernel
theorem dX7_copyFrom_80 : decode cX7_copyFrom 80 = .ok (.iconst 0, 1) := by decide +kernel
theorem dX7_copyFrom_81 : decode cX7_copyFrom 81 = .ok (.aload_n 0, 1) := by decide +kernel
theorem dX7_copyFrom_82 : decode cX7_copyFrom 82 = .ok (.getfield 22, 3) := by decide +kernel
theorem dX7_copyFrom_85 : decode cX7_copyFrom 85 = .ok (.iconst 0, 1) := by decide +kernel
theorem dX7_copyFrom_86 : decode cX7_copyFrom 86 = .ok (.aload_n 0, 1) := by decide +kernel
theorem dX7_copyFrom_87 : decode cX7_copyFrom 87 = .ok (.getfield 22, 3) := by decide +kernel
theorem dX7_copyFrom_90 : decode cX7_copyFrom 90 = .ok (.arraylength, 1) := by decide +kernel
theorem dX7_copyFrom_91 : decode cX7_copyFrom 91 = .ok (.invokestatic 43, 3) := by decide +kernel
theorem dX7_copyFrom_94 : decode cX7_copyFrom 94 = .ok (.aload_n 1, 1) := by decide +kernel
theorem dX7_copyFrom_95 : decode cX7_copyFrom 95 = .ok (.getfield 25, 3) := by decide +kernel
theorem dX7_copyFrom_98 : decode cX7_copyFrom 98 = .ok (.iconst 0, 1) := by decide +kernel
theorem dX7_copyFrom_99 : decode cX7_copyFrom 99 = .ok (.aload_n 0, 1) := by decide +kernel
theorem dX7_copyFrom_100 : decode cX7_copyFrom 100 = .ok (.getfield 25, 3) := by decide +kernel
theorem dX7_copyFrom_103 : decode cX7_copyFrom 103 = .ok (.iconst 0, 1) := by decide +kernel
theorem dX7_copyFrom_104 : decode cX7_copyFrom 104 = .ok (.aload_n 0, 1) := by decide +kernel
theorem dX7_copyFrom_105 : decode cX7_copyFrom 105 = .ok (.getfield 25, 3) := by decide +kernel
theorem dX7_copyFrom_108 : decode cX7_copyFrom 108 = .ok (.arraylength, 1) := by decide +kernel
theorem dX7_copyFrom_109 : decode cX7_copyFrom 109 = .ok (.invokestatic 43, 3) := by decide +kernel
theorem dX7_copyFrom_112 : decode cX7_copyFrom 112 = .ok (.aload_n 1, 1) := by decide +kernel
theorem dX7_copyFrom_113 : decode cX7_copyFrom 113 = .ok (.getfield 28, 3) := by decide +kernel
theorem dX7_copyFrom_116 : decode cX7_copyFrom 116 = .ok (.iconst 0, 1) := by decide +kernel
theorem dX7_copyFrom_117 : decode cX7_copyFrom 117 = .ok (.aload_n 0, 1) := by decide +kernel
theorem dX7_copyFrom_118 : decode cX7_copyFrom 118 = .ok (.getfield 28, 3) := by decide +kernel
theorem dX7_copyFrom_121 : decode cX7_copyFrom 121 = .ok (.iconst 0, 1) := by decide +kernel
theorem dX7_copyFrom_122 : decode cX7_copyFrom 122 = .ok (.aload_n 0, 1) := by decide +kernel
theorem dX7_copyFrom_123 : decode cX7_copyFrom 123 = .ok (.getfield 28, 3) := by decide +kernel
theorem dX7_copyFrom_126 : decode cX7_copyFrom 126 = .ok (.arraylength, 1) := by decide +kernel
theorem dX7_copyFrom_127 : decode cX7_copyFrom 127 = .ok (.invokestatic 43, 3) := by decide +kernel
theorem dX7_copyFrom_130 : decode cX7_copyFrom 130 = .ok (.return_, 1) := by decide +kernel
theorem dX7_has_0 : decode cX7_has 0 = .ok (.iconst 0, 1) := by decide +kernel
theorem dX7_has_1 : decode cX7_has 1 = .ok (.iload_n 1, 1) := by decide +kernel
theorem dX7_has_2 : decode cX7_has 2 = .ok (.if_icmp .gt 21, 3) := by decide +kernel
theorem dX7_has_5 : decode cX7_has 5 = .ok (.iload_n 1, 1) := by decide +kernel
theorem dX7_has_6 : decode cX7_has 6 = .ok (.aload_n 0, 1) := by decide +kernel
theorem dX7_has_7 : decode cX7_has 7 = .ok (.getfield 31, 3) := by decide +kernel
theorem dX7_has_10 : decode cX7_has 10 = .ok (.if_icmp .ge 13, 3) := by decide +kernel
theorem dX7_has_13 : decode cX7_has 13 = .ok (.iload_n 1, 1) := by decide +kernel
theorem dX7_has_14 : decode cX7_has 14 = .ok (.bipush 7, 2) := by decide +kernel
theorem dX7_has_16 : decode cX7_has 16 = .ok (.if_icmp .ge 7, 3) := by decide +kernel
theorem dX7_has_19 : decode cX7_has 19 = .ok (.iconst 1, 1) := by decide +kernel
theorem dX7_has_20 : decode cX7_has 20 = .ok (.goto 4, 3) := by decide +kernel
theorem dX7_has_23 : decode cX7_has 23 = .ok (.iconst 0, 1) := by decide +kernel
theorem dX7_has_24 : decode cX7_has 24 = .ok (.ireturn, 1) := by decide +kernel
theorem dX7_areTwo_0 : decode cX7_areTwo 0 = .ok (.iload_n 1, 1) := by decide +kernel
theorem dX7_areTwo_1 : decode cX7_areTwo 1 = .ok (.iload_n 2, 1) := by decide +kernel
theorem dX7_areTwo_2 : decode cX7_areTwo 2 = .ok (.if_icmp .eq 23, 3) := by decide +kernel
theorem dX7_areTwo_5 : decode cX7_areTwo 5 = .ok (.aload_n 0, 1) := by decide +kernel
theorem dX7_areTwo_6 : decode cX7_areTwo 6 = .ok (.iload_n 1, 1) := by decide +kernel
theorem dX7_areTwo_7 : decode cX7_areTwo 7 = .ok (.invokevirtual 49, 3) := by decide +kernel
theorem dX7_areTwo_10 : decode cX7_areTwo 10 = .ok (.ifCond .eq 15, 3) := by decide +kernel
theorem dX7_areTwo_13 : decode cX7_areTwo 13 = .ok (.aload_n 0, 1) := by decide +kernel
theorem dX7_areTwo_14 : decode cX7_areTwo 14 = .ok (.iload_n 2, 1) := by decide +kernel
theorem dX7_areTwo_15 : decode cX7_areTwo 15 = .ok (.invokevirtual 49, 3) := by decide +kernel
theorem dX7_areTwo_18 : decode cX7_areTwo 18 = .ok (.ifCond .eq 7, 3) := by decide +kernel
theorem dX7_areTwo_21 : decode cX7_areTwo 21 = .ok (.iconst 1, 1) := by decide +kernel
theorem dX7_areTwo_22 : decode cX7_areTwo 22 = .ok (.goto 4, 3) := by decide +kernel
theorem dX7_areTwo_25 : decode cX7_areTwo 25 = .ok (.iconst 0, 1) := by decide +kernel
theorem dX7_areTwo_26 : decode cX7_areTwo 26 = .ok (.ireturn, 1) := by decide +kernel
theorem dX7_out_0 : decode cX7_out 0 = .ok (.aload_n 0, 1) := by decide +kernel
theorem dX7_out_1 : decode cX7_out 1 = .ok (.iload_n 1, 1) := by decide +kernel
theorem dX7_out_2 : decode cX7_out 2 = .ok (.invokevirtual 49, 3) := by decide +kernel
theorem dX7_out_5 : decode cX7_out 5 = .ok (.ifCond .eq 16, 3) := by decide +kernel
theorem dX7_out_8 : decode cX7_out 8 = .ok (.aload_n 0, 1) := by decide +kernel
theorem dX7_out_9 : decode cX7_out 9 = .ok (.getfield 22, 3) := by decide +kernel
theorem dX7_out_12 : decode cX7_out 12 = .ok (.iload_n 1, 1) := by decide +kernel
theorem dX7_out_13 : decode cX7_out 13 = .ok (.iaload, 1) := by decide +kernel
theorem dX7_out_14 : decode cX7_out 14 = .ok (.ifCond .ne 7, 3) := by decide +kernel
theorem dX7_out_17 : decode cX7_out 17 = .ok (.iconst 1, 1) := by decide +kernel
theorem dX7_out_18 : decode cX7_out 18 = .ok (.goto 4, 3) := by decide +kernel
theorem dX7_out_21 : decode cX7_out 21 = .ok (.iconst 0, 1) := by decide +kernel
theorem dX7_out_22 : decode cX7_out 22 = .ok (.ireturn, 1) := by decide +kernel
theorem dX7_meet_0 : decode cX7_meet 0 = .ok (.iload_n 1, 1) := by decide +kernel
theorem dX7_meet_1 : decode cX7_meet 1 = .ok (.iload_n 2, 1) := by decide +kernel
theorem dX7_meet_2 : decode cX7_meet 2 = .ok (.if_icmp .eq 38, 3) := by decide +kernel
theorem dX7_meet_5 : decode cX7_meet 5 = .ok (.aload_n 0, 1) := by decide +kernel
theorem dX7_meet_6 : decode cX7_meet 6 = .ok (.iload_n 1, 1) := by decide +kernel
theorem dX7_meet_7 : decode cX7_meet 7 = .ok (.invokevirtual 53, 3) := by decide +kernel
theorem dX7_meet_10 : decode cX7_meet 10 = .ok (.ifCond .eq 30, 3) := by decide +kernel
theorem dX7_meet_13 : decode cX7_meet 13 = .ok (.aload_n 0, 1) := by decide +kernel
theorem dX7_meet_14 : decode cX7_meet 14 = .ok (.iload_n 2, 1) := by decide +kernel
theorem dX7_meet_15 : decode cX7_meet 15 = .ok (.invokevirtual 53, 3) := by decide +kernel
theorem dX7_meet_18 : decode cX7_meet 18 = .ok (.ifCond .eq 22, 3) := by decide +kernel
theorem dX7_meet_21 : decode cX7_meet 21 = .ok (.aload_n 0, 1) := by decide +kernel
theorem dX7_meet_22 : decode cX7_meet 22 = .ok (.getfield 19, 3) := by decide +kernel
theorem dX7_meet_25 : decode cX7_meet 25 = .ok (.iload_n 1, 1) := by decide +kernel
theorem dX7_meet_26 : decode cX7_meet 26 = .ok (.iaload, 1) := by decide +kernel
theorem dX7_meet_27 : decode cX7_meet 27 = .ok (.aload_n 0, 1) := by decide +kernel
theorem dX7_meet_28 : decode cX7_meet 28 = .ok (.getfield 19, 3) := by decide +kernel
theorem dX7_meet_31 : decode cX7_meet 31 = .ok (.iload_n 2, 1) := by decide +kernel
theorem dX7_meet_32 : decode cX7_meet 32 = .ok (.iaload, 1) := by decide +kernel
theorem dX7_meet_33 : decode cX7_meet 33 = .ok (.if_icmp .ne 7, 3) := by decide +kernel
theorem dX7_meet_36 : decode cX7_meet 36 = .ok (.iconst 1, 1) := by decide +kernel
theorem dX7_meet_37 : decode cX7_meet 37 = .ok (.goto 4, 3) := by decide +kernel
theorem dX7_meet_40 : decode cX7_meet 40 = .ok (.iconst 0, 1) := by decide +kernel
theorem dX7_meet_41 : decode cX7_meet 41 = .ok (.ireturn, 1) := by decide +kernel
theorem dX7_leftOf_0 : decode cX7_leftOf 0 = .ok (.aload_n 0, 1) := by decide +kernel
theorem dX7_leftOf_1 : decode cX7_leftOf 1 = .ok (.iload_n 1, 1) := by decide +kernel
theorem dX7_leftOf_2 : decode cX7_leftOf 2 = .ok (.invokevirtual 49, 3) := by decide +kernel
theorem dX7_leftOf_5 : decode cX7_leftOf 5 = .ok (.ifCond .eq 12, 3) := by decide +kernel
theorem dX7_leftOf_8 : decode cX7_leftOf 8 = .ok (.aload_n 0, 1) := by decide +kernel
theorem dX7_leftOf_9 : decode cX7_leftOf 9 = .ok (.getfield 15, 3) := by decide +kernel
theorem dX7_leftOf_12 : decode cX7_leftOf 12 = .ok (.iload_n 1, 1) := by decide +kernel
theorem dX7_leftOf_13 : decode cX7_leftOf 13 = .ok (.iaload, 1) := by decide +kernel
theorem dX7_leftOf_14 : decode cX7_leftOf 14 = .ok (.goto 4, 3) := by decide +kernel
theorem dX7_leftOf_17 : decode cX7_leftOf 17 = .ok (.iconst 0, 1) := by decide +kernel
theorem dX7_leftOf_18 : decode cX7_leftOf 18 = .ok (.ireturn, 1) := by decide +kernel
theorem dX7_placeOf_0 : decode cX7_placeOf 0 = .ok (.aload_n 0, 1) := by decide +kernel
theorem dX7_placeOf_1 : decode cX7_placeOf 1 = .ok (.iload_n 1, 1) := by decide +kernel
theorem dX7_placeOf_2 : decode cX7_placeOf 2 = .ok (.invokevirtual 49, 3) := by decide +kernel
theorem dX7_placeOf_5 : decode cX7_placeOf 5 = .ok (.ifCond .eq 12, 3) := by decide +kernel
theorem dX7_placeOf_8 : decode cX7_placeOf 8 = .ok (.aload_n 0, 1) := by decide +kernel
theorem dX7_placeOf_9 : decode cX7_placeOf 9 = .ok (.getfield 19, 3) := by decide +kernel
theorem dX7_placeOf_12 : decode cX7_placeOf 12 = .ok (.iload_n 1, 1) := by decide +kernel
theorem dX7_placeOf_13 : decode cX7_placeOf 13 = .ok (.iaload, 1) := by decide +kernel
theorem dX7_placeOf_14 : decode cX7_placeOf 14 = .ok (.goto 4, 3) := by decide +kernel
theorem dX7_placeOf_17 : decode cX7_placeOf 17 = .ok (.iconst 0, 1) := by decide +kernel
theorem dX7_placeOf_18 : decode cX7_placeOf 18 = .ok (.ireturn, 1) := by decide +kernel
theorem dX7_indoorsOf_0 : decode cX7_indoorsOf 0 = .ok (.aload_n 0, 1) := by decide +kernel
theorem dX7_indoorsOf_1 : decode cX7_indoorsOf 1 = .ok (.iload_n 1, 1) := by decide +kernel
theorem dX7_indoorsOf_2 : decode cX7_indoorsOf 2 = .ok (.invokevirtual 49, 3) := by decide +kernel
theorem dX7_indoorsOf_5 : decode cX7_indoorsOf 5 = .ok (.ifCond .eq 12, 3) := by decide +kernel
theorem dX7_indoorsOf_8 : decode cX7_indoorsOf 8 = .ok (.aload_n 0, 1) := by decide +kernel
theorem dX7_indoorsOf_9 : decode cX7_indoorsOf 9 = .ok (.getfield 22, 3) := by decide +kernel
theorem dX7_indoorsOf_12 : decode cX7_indoorsOf 12 = .ok (.iload_n 1, 1) := by decide +kernel
theorem dX7_indoorsOf_13 : decode cX7_indoorsOf 13 = .ok (.iaload, 1) := by decide +kernel
theorem dX7_indoorsOf_14 : decode cX7_indoorsOf 14 = .ok (.goto 4, 3) := by decide +kernel
theorem dX7_indoorsOf_17 : decode cX7_indoorsOf 17 = .ok (.iconst 0, 1) := by decide +kernel
theorem dX7_indoorsOf_18 : decode cX7_indoorsOf 18 = .ok (.ireturn, 1) := by decide +kernel
theorem dX7_owed_0 : decode cX7_owed 0 = .ok (.iconst 0, 1) := by decide +kernel
theorem dX7_owed_1 : decode cX7_owed 1 = .ok (.iload_n 1, 1) := by decide +kernel
theorem dX7_owed_2 : decode cX7_owed 2 = .ok (.if_icmp .gt 28, 3) := by decide +kernel
theorem dX7_owed_5 : decode cX7_owed 5 = .ok (.iload_n 1, 1) := by decide +kernel
theorem dX7_owed_6 : decode cX7_owed 6 = .ok (.aload_n 0, 1) := by decide +kernel
theorem dX7_owed_7 : decode cX7_owed 7 = .ok (.getfield 31, 3) := by decide +kernel
theorem dX7_owed_10 : decode cX7_owed 10 = .ok (.if_icmp .ge 20, 3) := by decide +kernel
theorem dX7_owed_13 : decode cX7_owed 13 = .ok (.iconst 0, 1) := by decide +kernel
theorem dX7_owed_14 : decode cX7_owed 14 = .ok (.iload_n 2, 1) := by decide +kernel
theorem dX7_owed_15 : decode cX7_owed 15 = .ok (.if_icmp .gt 15, 3) := by decide +kernel
theorem dX7_owed_18 : decode cX7_owed 18 = .ok (.iload_n 2, 1) := by decide +kernel
theorem dX7_owed_19 : decode cX7_owed 19 = .ok (.aload_n 0, 1) := by decide +kernel
theorem dX7_owed_20 : decode cX7_owed 20 = .ok (.getfield 31, 3) := by decide +kernel
theorem dX7_owed_23 : decode cX7_owed 23 = .ok (.if_icmp .ge 7, 3) := by decide +kernel
theorem dX7_owed_26 : decode cX7_owed 26 = .ok (.iconst 1, 1) := by decide +kernel
theorem dX7_owed_27 : decode cX7_owed 27 = .ok (.goto 4, 3) := by decide +kernel
theorem dX7_owed_30 : decode cX7_owed 30 = .ok (.iconst 0, 1) := by decide +kernel
theorem dX7_owed_31 : decode cX7_owed 31 = .ok (.istore_n 3, 1) := by decide +kernel
theorem dX7_owed_32 : decode cX7_owed 32 = .ok (.iload_n 3, 1) := by decide +kernel
theorem dX7_owed_33 : decode cX7_owed 33 = .ok (.ifCond .eq 12, 3) := by decide +kernel
theorem dX7_owed_36 : decode cX7_owed 36 = .ok (.iload_n 1, 1) := by decide +kernel
theorem dX7_owed_37 : decode cX7_owed 37 = .ok (.bipush 7, 2) := by decide +kernel
theorem dX7_owed_39 : decode cX7_owed 39 = .ok (.imul, 1) := by decide +kernel
theorem dX7_owed_40 : decode cX7_owed 40 = .ok (.iload_n 2, 1) := by decide +kernel
theorem dX7_owed_41 : decode cX7_owed 41 = .ok (.iadd, 1) := by decide +kernel
theorem dX7_owed_42 : decode cX7_owed 42 = .ok (.goto 4, 3) := by decide +kernel
theorem dX7_owed_45 : decode cX7_owed 45 = .ok (.iconst 0, 1) := by decide +kernel
theorem dX7_owed_46 : decode cX7_owed 46 = .ok (.istore 4, 2) := by decide +kernel
theorem dX7_owed_48 : decode cX7_owed 48 = .ok (.iload_n 3, 1) := by decide +kernel
theorem dX7_owed_49 : decode cX7_owed 49 = .ok (.ifCond .eq 23, 3) := by decide +kernel
theorem dX7_owed_52 : decode cX7_owed 52 = .ok (.iload 4, 2) := by decide +kernel
theorem dX7_owed_54 : decode cX7_owed 54 = .ok (.aload_n 0, 1) := by decide +kernel
theorem dX7_owed_55 : decode cX7_owed 55 = .ok (.getfield 25, 3) := by decide +kernel
theorem dX7_owed_58 : decode cX7_owed 58 = .ok (.arraylength, 1) := by decide +kernel
theorem dX7_owed_59 : decode cX7_owed 59 = .ok (.if_icmp .ge 13, 3) := by decide +kernel
theorem dX7_owed_62 : decode cX7_owed 62 = .ok (.aload_n 0, 1) := by decide +kernel
theorem dX7_owed_63 : decode cX7_owed 63 = .ok (.getfield 25, 3) := by decide +kernel
theorem dX7_owed_66 : decode cX7_owed 66 = .ok (.iload 4, 2) := by decide +kernel
theorem dX7_owed_68 : decode cX7_owed 68 = .ok (.iaload, 1) := by decide +kernel
theorem dX7_owed_69 : decode cX7_owed 69 = .ok (.goto 4, 3) := by decide +kernel
theorem dX7_owed_72 : decode cX7_owed 72 = .ok (.iconst 0, 1) := by decide +kernel
theorem dX7_owed_73 : decode cX7_owed 73 = .ok (.ireturn, 1) := by decide +kernel
theorem dX7_setOwed_0 : decode cX7_setOwed 0 = .ok (.aload_n 0, 1) := by decide +kernel
theorem dX7_setOwed_1 : decode cX7_setOwed 1 = .ok (.iload_n 1, 1) := by decide +kernel
theorem dX7_setOwed_2 : decode cX7_setOwed 2 = .ok (.iload_n 2, 1) := by decide +kernel
theorem dX7_setOwed_3 : decode cX7_setOwed 3 = .ok (.invokevirtual 56, 3) := by decide +kernel
theorem dX7_setOwed_6 : decode cX7_setOwed 6 = .ok (.ifCond .eq 22, 3) := by decide +kernel
theorem dX7_setOwed_9 : decode cX7_setOwed 9 = .ok (.aload_n 0, 1) := by decide +kernel
theorem dX7_setOwed_10 : decode cX7_setOwed 10 = .ok (.getfield 25, 3) := by decide +kernel
theorem dX7_setOwed_13 : decode cX7_setOwed 13 = .ok (.iload_n 1, 1) := by decide +kernel
theorem dX7_setOwed_14 : decode cX7_setOwed 14 = .ok (.bipush 7, 2) := by decide +kernel
theorem dX7_setOwed_16 : decode cX7_setOwed 16 = .ok (.imul, 1) := by decide +kernel
theorem dX7_setOwed_17 : decode cX7_setOwed 17 = .ok (.iload_n 2, 1) := by decide +kernel
theorem dX7_setOwed_18 : decode cX7_setOwed 18 = .ok (.iadd, 1) := by decide +kernel
theorem dX7_setOwed_19 : decode cX7_setOwed 19 = .ok (.iload_n 3, 1) := by decide +kernel
theorem dX7_setOwed_20 : decode cX7_setOwed 20 = .ok (.iconst 0, 1) := by decide +kernel
theorem dX7_setOwed_21 : decode cX7_setOwed 21 = .ok (.sipush 9999, 3) := by decide +kernel
theorem dX7_setOwed_24 : decode cX7_setOwed 24 = .ok (.invokestatic 60, 3) := by decide +kernel
theorem dX7_setOwed_27 : decode cX7_setOwed 27 = .ok (.iastore, 1) := by decide +kernel
theorem dX7_setOwed_28 : decode cX7_setOwed 28 = .ok (.return_, 1) := by decide +kernel
theorem dX7_owesTogether_0 : decode cX7_owesTogether 0 = .ok (.iconst 0, 1) := by decide +kernel
theorem dX7_owesTogether_1 : decode cX7_owesTogether 1 = .ok (.istore_n 2, 1) := by decide +kernel
theorem dX7_owesTogether_2 : decode cX7_owesTogether 2 = .ok (.iconst 0, 1) := by decide +kernel
theorem dX7_owesTogether_3 : decode cX7_owesTogether 3 = .ok (.istore_n 3, 1) := by decide +kernel
theorem dX7_owesTogether_4 : decode cX7_owesTogether 4 = .ok (.iload_n 3, 1) := by decide +kernel
theorem dX7_owesTogether_5 : decode cX7_owesTogether 5 = .ok (.aload_n 0, 1) := by decide +kernel
theorem dX7_owesTogether_6 : decode cX7_owesTogether 6 = .ok (.getfield 31, 3) := by decide +kernel
theorem dX7_owesTogether_9 : decode cX7_owesTogether 9 = .ok (.if_icmp .ge 18, 3) := by decide +kernel
theorem dX7_owesTogether_12 : decode cX7_owesTogether 12 = .ok (.iload_n 2, 1) := by decide +kernel
theorem dX7_owesTogether_13 : decode cX7_owesTogether 13 = .ok (.aload_n 0, 1) := by decide +kernel
theorem dX7_owesTogether_14 : decode cX7_owesTogether 14 = .ok (.iload_n 1, 1) := by decide +kernel
theorem dX7_owesTogether_15 : decode cX7_owesTogether 15 = .ok (.iload_n 3, 1) := by decide +kernel
theorem dX7_owesTogether_16 : decode cX7_owesTogether 16 = .ok (.invokevirtual 64, 3) := by decide +kernel
theorem dX7_owesTogether_19 : decode cX7_owesTogether 19 = .ok (.iadd, 1) := by decide +kernel
theorem dX7_owesTogether_20 : decode cX7_owesTogether 20 = .ok (.istore_n 2, 1) := by decide +kernel
theorem dX7_owesTogether_21 : decode cX7_owesTogether 21 = .ok (.iinc 3 1, 3) := by decide +kernel
theorem dX7_owesTogether_24 : decode cX7_owesTogether 24 = .ok (.goto (-20), 3) := by decide +kernel
theorem dX7_owesTogether_27 : decode cX7_owesTogether 27 = .ok (.iload_n 2, 1) := by decide +kernel
theorem dX7_owesTogether_28 : decode cX7_owesTogether 28 = .ok (.ireturn, 1) := by decide +kernel
theorem dX7_owedTogether_0 : decode cX7_owedTogether 0 = .ok (.iconst 0, 1) := by decide +kernel
theorem dX7_owedTogether_1 : decode cX7_owedTogether 1 = .ok (.istore_n 2, 1) := by decide +kernel
theorem dX7_owedTogether_2 : decode cX7_owedTogether 2 = .ok (.iconst 0, 1) := by decide +kernel
theorem dX7_owedTogether_3 : decode cX7_owedTogether 3 = .ok (.istore_n 3, 1) := by decide +kernel
theorem dX7_owedTogether_4 : decode cX7_owedTogether 4 = .ok (.iload_n 3, 1) := by decide +kernel
theorem dX7_owedTogether_5 : decode cX7_owedTogether 5 = .ok (.aload_n 0, 1) := by decide +kernel
theorem dX7_owedTogether_6 : decode cX7_owedTogether 6 = .ok (.getfield 31, 3) := by decide +kernel
theorem dX7_owedTogether_9 : decode cX7_owedTogether 9 = .ok (.if_icmp .ge 18, 3) := by decide +kernel
theorem dX7_owedTogether_12 : decode cX7_owedTogether 12 = .ok (.iload_n 2, 1) := by decide +kernel
theorem dX7_owedTogether_13 : decode cX7_owedTogether 13 = .ok (.aload_n 0, 1) := by decide +kernel
theorem dX7_owedTogether_14 : decode cX7_owedTogether 14 = .ok (.iload_n 3, 1) := by decide +kernel
theorem dX7_owedTogether_15 : decode cX7_owedTogether 15 = .ok (.iload_n 1, 1) := by decide +kernel
theorem dX7_owedTogether_16 : decode cX7_owedTogether 16 = .ok (.invokevirtual 64, 3) := by decide +kernel
theorem dX7_owedTogether_19 : decode cX7_owedTogether 19 = .ok (.iadd, 1) := by decide +kernel
theorem dX7_owedTogether_20 : decode cX7_owedTogether 20 = .ok (.istore_n 2, 1) := by decide +kernel
theorem dX7_owedTogether_21 : decode cX7_owedTogether 21 = .ok (.iinc 3 1, 3) := by decide +kernel
theorem dX7_owedTogether_24 : decode cX7_owedTogether 24 = .ok (.goto (-20), 3) := by decide +kernel
theorem dX7_owedTogether_27 : decode cX7_owedTogether 27 = .ok (.iload_n 2, 1) := by decide +kernel
theorem dX7_owedTogether_28 : decode cX7_owedTogether 28 = .ok (.ireturn, 1) := by decide +kernel
theorem dX7_enter_0 : decode cX7_enter 0 = .ok (.aload_n 0, 1) := by decide +kernel
theorem dX7_enter_1 : decode cX7_enter 1 = .ok (.getfield 31, 3) := by decide +kernel
theorem dX7_enter_4 : decode cX7_enter 4 = .ok (.istore_n 2, 1) := by decide +kernel
theorem dX7_enter_5 : decode cX7_enter 5 = .ok (.iload_n 2, 1) := by decide +kernel
theorem dX7_enter_6 : decode cX7_enter 6 = .ok (.iconst 0, 1) := by decide +kernel
theorem dX7_enter_7 : decode cX7_enter 7 = .ok (.bipush 6, 2) := by decide +kernel
theorem dX7_enter_9 : decode cX7_enter 9 = .ok (.invokestatic 68, 3) := by decide +kernel
theorem dX7_enter_12 : decode cX7_enter 12 = .ok (.ifCond .eq 32, 3) := by decide +kernel
theorem dX7_enter_15 : decode cX7_enter 15 = .ok (.aload_n 0, 1) := by decide +kernel
theorem dX7_enter_16 : decode cX7_enter 16 = .ok (.getfield 15, 3) := by decide +kernel
theorem dX7_enter_19 : decode cX7_enter 19 = .ok (.iload_n 2, 1) := by decide +kernel
theorem dX7_enter_20 : decode cX7_enter 20 = .ok (.aload_n 1, 1) := by decide +kernel
theorem dX7_enter_21 : decode cX7_enter 21 = .ok (.iload_n 2, 1) := by decide +kernel
theorem dX7_enter_22 : decode cX7_enter 22 = .ok (.invokevirtual 72, 3) := by decide +kernel
theorem dX7_enter_25 : decode cX7_enter 25 = .ok (.iastore, 1) := by decide +kernel
theorem dX7_enter_26 : decode cX7_enter 26 = .ok (.aload_n 0, 1) := by decide +kernel
theorem dX7_enter_27 : decode cX7_enter 27 = .ok (.getfield 19, 3) := by decide +kernel
theorem dX7_enter_30 : decode cX7_enter 30 = .ok (.iload_n 2, 1) := by decide +kernel
theorem dX7_enter_31 : decode cX7_enter 31 = .ok (.aload_n 1, 1) := by decide +kernel
theorem dX7_enter_32 : decode cX7_enter 32 = .ok (.iload_n 2, 1) := by decide +kernel
theorem dX7_enter_33 : decode cX7_enter 33 = .ok (.invokevirtual 78, 3) := by decide +kernel
theorem dX7_enter_36 : decode cX7_enter 36 = .ok (.iastore, 1) := by decide +kernel
theorem dX7_enter_37 : decode cX7_enter 37 = .ok (.aload_n 0, 1) := by decide +kernel
theorem dX7_enter_38 : decode cX7_enter 38 = .ok (.iload_n 2, 1) := by decide +kernel
theorem dX7_enter_39 : decode cX7_enter 39 = .ok (.iconst 1, 1) := by decide +kernel
theorem dX7_enter_40 : decode cX7_enter 40 = .ok (.iadd, 1) := by decide +kernel
theorem dX7_enter_41 : decode cX7_enter 41 = .ok (.putfield 31, 3) := by decide +kernel
theorem dX7_enter_44 : decode cX7_enter 44 = .ok (.return_, 1) := by decide +kernel
theorem dX7_bends_0 : decode cX7_bends 0 = .ok (.aload_n 0, 1) := by decide +kernel
theorem dX7_bends_1 : decode cX7_bends 1 = .ok (.iload_n 1, 1) := by decide +kernel
theorem dX7_bends_2 : decode cX7_bends 2 = .ok (.invokevirtual 49, 3) := by decide +kernel
theorem dX7_bends_5 : decode cX7_bends 5 = .ok (.ifCond .eq 13, 3) := by decide +kernel
theorem dX7_bends_8 : decode cX7_bends 8 = .ok (.aload_n 0, 1) := by decide +kernel
theorem dX7_bends_9 : decode cX7_bends 9 = .ok (.getfield 15, 3) := by decide +kernel
theorem dX7_bends_12 : decode cX7_bends 12 = .ok (.iload_n 1, 1) := by decide +kernel
theorem dX7_bends_13 : decode cX7_bends 13 = .ok (.dup2, 1) := by decide +kernel
theorem dX7_bends_14 : decode cX7_bends 14 = .ok (.iaload, 1) := by decide +kernel
theorem dX7_bends_15 : decode cX7_bends 15 = .ok (.iload_n 2, 1) := by decide +kernel
theorem dX7_bends_16 : decode cX7_bends 16 = .ok (.isub, 1) := by decide +kernel
theorem dX7_bends_17 : decode cX7_bends 17 = .ok (.iastore, 1) := by decide +kernel
theorem dX7_bends_18 : decode cX7_bends 18 = .ok (.return_, 1) := by decide +kernel
theorem dX7_walks_0 : decode cX7_walks 0 = .ok (.aload_n 0, 1) := by decide +kernel
theorem dX7_walks_1 : decode cX7_walks 1 = .ok (.iload_n 1, 1) := by decide +kernel
theorem dX7_walks_2 : decode cX7_walks 2 = .ok (.invokevirtual 49, 3) := by decide +kernel
theorem dX7_walks_5 : decode cX7_walks 5 = .ok (.ifCond .eq 22, 3) := by decide +kernel
theorem dX7_walks_8 : decode cX7_walks 8 = .ok (.aload_n 0, 1) := by decide +kernel
theorem dX7_walks_9 : decode cX7_walks 9 = .ok (.getfield 19, 3) := by decide +kernel
theorem dX7_walks_12 : decode cX7_walks 12 = .ok (.iload_n 1, 1) := by decide +kernel
theorem dX7_walks_13 : decode cX7_walks 13 = .ok (.aload_n 0, 1) := by decide +kernel
theorem dX7_walks_14 : decode cX7_walks 14 = .ok (.getfield 19, 3) := by decide +kernel
theorem dX7_walks_17 : decode cX7_walks 17 = .ok (.iload_n 1, 1) := by decide +kernel
theorem dX7_walks_18 : decode cX7_walks 18 = .ok (.iaload, 1) := by decide +kernel
theorem dX7_walks_19 : decode cX7_walks 19 = .ok (.iload_n 2, 1) := by decide +kernel
theorem dX7_walks_20 : decode cX7_walks 20 = .ok (.iadd, 1) := by decide +kernel
theorem dX7_walks_21 : decode cX7_walks 21 = .ok (.bipush 8, 2) := by decide +kernel
theorem dX7_walks_23 : decode cX7_walks 23 = .ok (.invokestatic 81, 3) := by decide +kernel
theorem dX7_walks_26 : decode cX7_walks 26 = .ok (.iastore, 1) := by decide +kernel
theorem dX7_walks_27 : decode cX7_walks 27 = .ok (.return_, 1) := by decide +kernel
theorem dX7_forgives_0 : decode cX7_forgives 0 = .ok (.iconst 0, 1) := by decide +kernel
theorem dX7_forgives_1 : decode cX7_forgives 1 = .ok (.istore_n 1, 1) := by decide +kernel
theorem dX7_forgives_2 : decode cX7_forgives 2 = .ok (.iconst 0, 1) := by decide +kernel
theorem dX7_forgives_3 : decode cX7_forgives 3 = .ok (.istore_n 2, 1) := by decide +kernel
theorem dX7_forgives_4 : decode cX7_forgives 4 = .ok (.iload_n 2, 1) := by decide +kernel
theorem dX7_forgives_5 : decode cX7_forgives 5 = .ok (.aload_n 0, 1) := by decide +kernel
theorem dX7_forgives_6 : decode cX7_forgives 6 = .ok (.getfield 31, 3) := by decide +kernel
theorem dX7_forgives_9 : decode cX7_forgives 9 = .ok (.if_icmp .ge 64, 3) := by decide +kernel
theorem dX7_forgives_12 : decode cX7_forgives 12 = .ok (.iconst 0, 1) := by decide +kernel
theorem dX7_forgives_13 : decode cX7_forgives 13 = .ok (.istore_n 3, 1) := by decide +kernel
theorem dX7_forgives_14 : decode cX7_forgives 14 = .ok (.iconst 1, 1) := by decide +kernel
theorem dX7_forgives_15 : decode cX7_forgives 15 = .ok (.istore 4, 2) := by decide +kernel
theorem dX7_forgives_17 : decode cX7_forgives 17 = .ok (.iload 4, 2) := by decide +kernel
theorem dX7_forgives_19 : decode cX7_forgives 19 = .ok (.aload_n 0, 1) := by decide +kernel
theorem dX7_forgives_20 : decode cX7_forgives 20 = .ok (.getfield 31, 3) := by decide +kernel
theorem dX7_forgives_23 : decode cX7_forgives 23 = .ok (.if_icmp .ge 28, 3) := by decide +kernel
theorem dX7_forgives_26 : decode cX7_forgives 26 = .ok (.aload_n 0, 1) := by decide +kernel
theorem dX7_forgives_27 : decode cX7_forgives 27 = .ok (.iload_n 2, 1) := by decide +kernel
theorem dX7_forgives_28 : decode cX7_forgives 28 = .ok (.iload 4, 2) := by decide +kernel
theorem dX7_forgives_30 : decode cX7_forgives 30 = .ok (.invokevirtual 64, 3) := by decide +kernel
theorem dX7_forgives_33 : decode cX7_forgives 33 = .ok (.aload_n 0, 1) := by decide +kernel
theorem dX7_forgives_34 : decode cX7_forgives 34 = .ok (.iload_n 2, 1) := by decide +kernel
theorem dX7_forgives_35 : decode cX7_forgives 35 = .ok (.iload_n 3, 1) := by decide +kernel
theorem dX7_forgives_36 : decode cX7_forgives 36 = .ok (.invokevirtual 64, 3) := by decide +kernel
theorem dX7_forgives_39 : decode cX7_forgives 39 = .ok (.if_icmp .le 6, 3) := by decide +kernel
theorem dX7_forgives_42 : decode cX7_forgives 42 = .ok (.iload 4, 2) := by decide +kernel
theorem dX7_forgives_44 : decode cX7_forgives 44 = .ok (.istore_n 3, 1) := by decide +kernel
theorem dX7_forgives_45 : decode cX7_forgives 45 = .ok (.iinc 4 1, 3) := by decide +kernel
theorem dX7_forgives_48 : decode cX7_forgives 48 = .ok (.goto (-31), 3) := by decide +kernel
theorem dX7_forgives_51 : decode cX7_forgives 51 = .ok (.iload_n 1, 1) := by decide +kernel
theorem dX7_forgives_52 : decode cX7_forgives 52 = .ok (.aload_n 0, 1) := by decide +kernel
theorem dX7_forgives_53 : decode cX7_forgives 53 = .ok (.iload_n 2, 1) := by decide +kernel
theorem dX7_forgives_54 : decode cX7_forgives 54 = .ok (.iload_n 3, 1) := by decide +kernel
theorem dX7_forgives_55 : decode cX7_forgives 55 = .ok (.invokevirtual 64, 3) := by decide +kernel
theorem dX7_forgives_58 : decode cX7_forgives 58 = .ok (.iadd, 1) := by decide +kernel
theorem dX7_forgives_59 : decode cX7_forgives 59 = .ok (.istore_n 1, 1) := by decide +kernel
theorem dX7_forgives_60 : decode cX7_forgives 60 = .ok (.aload_n 0, 1) := by decide +kernel
theorem dX7_forgives_61 : decode cX7_forgives 61 = .ok (.iload_n 2, 1) := by decide +kernel
theorem dX7_forgives_62 : decode cX7_forgives 62 = .ok (.iload_n 3, 1) := by decide +kernel
theorem dX7_forgives_63 : decode cX7_forgives 63 = .ok (.iconst 0, 1) := by decide +kernel
theorem dX7_forgives_64 : decode cX7_forgives 64 = .ok (.invokevirtual 86, 3) := by decide +kernel
theorem dX7_forgives_67 : decode cX7_forgives 67 = .ok (.iinc 2 1, 3) := by decide +kernel
theorem dX7_forgives_70 : decode cX7_forgives 70 = .ok (.goto (-66), 3) := by decide +kernel
theorem dX7_forgives_73 : decode cX7_forgives 73 = .ok (.iload_n 1, 1) := by decide +kernel
theorem dX7_forgives_74 : decode cX7_forgives 74 = .ok (.ireturn, 1) := by decide +kernel
theorem dX7_clearable_0 : decode cX7_clearable 0 = .ok (.aload_n 0, 1) := by decide +kernel
theorem dX7_clearable_1 : decode cX7_clearable 1 = .ok (.iload_n 1, 1) := by decide +kernel
theorem dX7_clearable_2 : decode cX7_clearable 2 = .ok (.iload_n 2, 1) := by decide +kernel
theorem dX7_clearable_3 : decode cX7_clearable 3 = .ok (.invokevirtual 90, 3) := by decide +kernel
theorem dX7_clearable_6 : decode cX7_clearable 6 = .ok (.ifCond .eq 21, 3) := by decide +kernel
theorem dX7_clearable_9 : decode cX7_clearable 9 = .ok (.aload_n 0, 1) := by decide +kernel
theorem dX7_clearable_10 : decode cX7_clearable 10 = .ok (.iload_n 2, 1) := by decide +kernel
theorem dX7_clearable_11 : decode cX7_clearable 11 = .ok (.iload_n 3, 1) := by decide +kernel
theorem dX7_clearable_12 : decode cX7_clearable 12 = .ok (.invokevirtual 90, 3) := by decide +kernel
theorem dX7_clearable_15 : decode cX7_clearable 15 = .ok (.ifCond .eq 12, 3) := by decide +kernel
theorem dX7_clearable_18 : decode cX7_clearable 18 = .ok (.aload_n 0, 1) := by decide +kernel
theorem dX7_clearable_19 : decode cX7_clearable 19 = .ok (.iload_n 3, 1) := by decide +kernel
theorem dX7_clearable_20 : decode cX7_clearable 20 = .ok (.iload_n 1, 1) := by decide +kernel
theorem dX7_clearable_21 : decode cX7_clearable 21 = .ok (.invokevirtual 90, 3) := by decide +kernel
theorem dX7_clearable_24 : decode cX7_clearable 24 = .ok (.ifCond .ne 5, 3) := by decide +kernel
theorem dX7_clearable_27 : decode cX7_clearable 27 = .ok (.iconst 0, 1) := by decide +kernel
theorem dX7_clearable_28 : decode cX7_clearable 28 = .ok (.ireturn, 1) := by decide +kernel
theorem dX7_clearable_29 : decode cX7_clearable 29 = .ok (.aload_n 0, 1) := by decide +kernel
theorem dX7_clearable_30 : decode cX7_clearable 30 = .ok (.iload_n 1, 1) := by decide +kernel
