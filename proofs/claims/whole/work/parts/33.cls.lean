theorem dX5_readPlain_0 : decode cX5_readPlain 0 = .ok (.iconst 0, 1) := by decide +kernel
theorem dX5_readPlain_1 : decode cX5_readPlain 1 = .ok (.istore_n 2, 1) := by decide +kernel
theorem dX5_readPlain_2 : decode cX5_readPlain 2 = .ok (.iconst 0, 1) := by decide +kernel
theorem dX5_readPlain_3 : decode cX5_readPlain 3 = .ok (.istore_n 3, 1) := by decide +kernel
theorem dX5_readPlain_4 : decode cX5_readPlain 4 = .ok (.iload_n 3, 1) := by decide +kernel
theorem dX5_readPlain_5 : decode cX5_readPlain 5 = .ok (.sipush 400, 3) := by decide +kernel
theorem dX5_readPlain_8 : decode cX5_readPlain 8 = .ok (.if_icmp .ge 32, 3) := by decide +kernel
theorem dX5_readPlain_11 : decode cX5_readPlain 11 = .ok (.aload_n 0, 1) := by decide +kernel
theorem dX5_readPlain_12 : decode cX5_readPlain 12 = .ok (.ldc 151, 2) := by decide +kernel
theorem dX5_readPlain_14 : decode cX5_readPlain 14 = .ok (.invokevirtual 99, 3) := by decide +kernel
theorem dX5_readPlain_17 : decode cX5_readPlain 17 = .ok (.ifCond .eq 23, 3) := by decide +kernel
theorem dX5_readPlain_20 : decode cX5_readPlain 20 = .ok (.aload_n 0, 1) := by decide +kernel
theorem dX5_readPlain_21 : decode cX5_readPlain 21 = .ok (.invokevirtual 43, 3) := by decide +kernel
theorem dX5_readPlain_24 : decode cX5_readPlain 24 = .ok (.iload_n 2, 1) := by decide +kernel
theorem dX5_readPlain_25 : decode cX5_readPlain 25 = .ok (.ifCond .ne 7, 3) := by decide +kernel
theorem dX5_readPlain_28 : decode cX5_readPlain 28 = .ok (.iconst 1, 1) := by decide +kernel
theorem dX5_readPlain_29 : decode cX5_readPlain 29 = .ok (.goto 4, 3) := by decide +kernel
theorem dX5_readPlain_32 : decode cX5_readPlain 32 = .ok (.iconst 0, 1) := by decide +kernel
theorem dX5_readPlain_33 : decode cX5_readPlain 33 = .ok (.istore_n 2, 1) := by decide +kernel
theorem dX5_readPlain_34 : decode cX5_readPlain 34 = .ok (.iinc 3 1, 3) := by decide +kernel
theorem dX5_readPlain_37 : decode cX5_readPlain 37 = .ok (.goto (-33), 3) := by decide +kernel
theorem dX5_readPlain_40 : decode cX5_readPlain 40 = .ok (.aload_n 0, 1) := by decide +kernel
theorem dX5_readPlain_41 : decode cX5_readPlain 41 = .ok (.bipush 40, 2) := by decide +kernel
theorem dX5_readPlain_43 : decode cX5_readPlain 43 = .ok (.invokevirtual 77, 3) := by decide +kernel
theorem dX5_readPlain_46 : decode cX5_readPlain 46 = .ok (.ifCond .eq 13, 3) := by decide +kernel
theorem dX5_readPlain_49 : decode cX5_readPlain 49 = .ok (.aload_n 0, 1) := by decide +kernel
theorem dX5_readPlain_50 : decode cX5_readPlain 50 = .ok (.iload_n 1, 1) := by decide +kernel
theorem dX5_readPlain_51 : decode cX5_readPlain 51 = .ok (.invokevirtual 153, 3) := by decide +kernel
theorem dX5_readPlain_54 : decode cX5_readPlain 54 = .ok (.ifCond .ne 86, 3) := by decide +kernel
theorem dX5_readPlain_57 : decode cX5_readPlain 57 = .ok (.iconst 0, 1) := by decide +kernel
theorem dX5_readPlain_58 : decode cX5_readPlain 58 = .ok (.ireturn, 1) := by decide +kernel
theorem dX5_readPlain_59 : decode cX5_readPlain 59 = .ok (.aload_n 0, 1) := by decide +kernel
theorem dX5_readPlain_60 : decode cX5_readPlain 60 = .ok (.iload_n 1, 1) := by decide +kernel
theorem dX5_readPlain_61 : decode cX5_readPlain 61 = .ok (.invokevirtual 138, 3) := by decide +kernel
theorem dX5_readPlain_64 : decode cX5_readPlain 64 = .ok (.ifCond .ne 5, 3) := by decide +kernel
theorem dX5_readPlain_67 : decode cX5_readPlain 67 = .ok (.iconst 0, 1) := by decide +kernel
theorem dX5_readPlain_68 : decode cX5_readPlain 68 = .ok (.ireturn, 1) := by decide +kernel
theorem dX5_readPlain_69 : decode cX5_readPlain 69 = .ok (.aload_n 0, 1) := by decide +kernel
theorem dX5_readPlain_70 : decode cX5_readPlain 70 = .ok (.bipush 60, 2) := by decide +kernel
theorem dX5_readPlain_72 : decode cX5_readPlain 72 = .ok (.invokevirtual 77, 3) := by decide +kernel
theorem dX5_readPlain_75 : decode cX5_readPlain 75 = .ok (.ifCond .eq 8, 3) := by decide +kernel
theorem dX5_readPlain_78 : decode cX5_readPlain 78 = .ok (.bipush 8, 2) := by decide +kernel
theorem dX5_readPlain_80 : decode cX5_readPlain 80 = .ok (.goto 32, 3) := by decide +kernel
theorem dX5_readPlain_83 : decode cX5_readPlain 83 = .ok (.aload_n 0, 1) := by decide +kernel
theorem dX5_readPlain_84 : decode cX5_readPlain 84 = .ok (.bipush 62, 2) := by decide +kernel
theorem dX5_readPlain_86 : decode cX5_readPlain 86 = .ok (.invokevirtual 77, 3) := by decide +kernel
theorem dX5_readPlain_89 : decode cX5_readPlain 89 = .ok (.ifCond .eq 8, 3) := by decide +kernel
theorem dX5_readPlain_92 : decode cX5_readPlain 92 = .ok (.bipush 9, 2) := by decide +kernel
theorem dX5_readPlain_94 : decode cX5_readPlain 94 = .ok (.goto 18, 3) := by decide +kernel
theorem dX5_readPlain_97 : decode cX5_readPlain 97 = .ok (.aload_n 0, 1) := by decide +kernel
theorem dX5_readPlain_98 : decode cX5_readPlain 98 = .ok (.bipush 61, 2) := by decide +kernel
theorem dX5_readPlain_100 : decode cX5_readPlain 100 = .ok (.invokevirtual 77, 3) := by decide +kernel
theorem dX5_readPlain_103 : decode cX5_readPlain 103 = .ok (.ifCond .eq 8, 3) := by decide +kernel
theorem dX5_readPlain_106 : decode cX5_readPlain 106 = .ok (.bipush 10, 2) := by decide +kernel
theorem dX5_readPlain_108 : decode cX5_readPlain 108 = .ok (.goto 4, 3) := by decide +kernel
theorem dX5_readPlain_111 : decode cX5_readPlain 111 = .ok (.iconst (-1), 1) := by decide +kernel
theorem dX5_readPlain_112 : decode cX5_readPlain 112 = .ok (.istore_n 3, 1) := by decide +kernel
theorem dX5_readPlain_113 : decode cX5_readPlain 113 = .ok (.iload_n 3, 1) := by decide +kernel
theorem dX5_readPlain_114 : decode cX5_readPlain 114 = .ok (.iconst (-1), 1) := by decide +kernel
theorem dX5_readPlain_115 : decode cX5_readPlain 115 = .ok (.if_icmp .ne 5, 3) := by decide +kernel
theorem dX5_readPlain_118 : decode cX5_readPlain 118 = .ok (.iconst 0, 1) := by decide +kernel
theorem dX5_readPlain_119 : decode cX5_readPlain 119 = .ok (.ireturn, 1) := by decide +kernel
theorem dX5_readPlain_120 : decode cX5_readPlain 120 = .ok (.aload_n 0, 1) := by decide +kernel
theorem dX5_readPlain_121 : decode cX5_readPlain 121 = .ok (.invokevirtual 43, 3) := by decide +kernel
theorem dX5_readPlain_124 : decode cX5_readPlain 124 = .ok (.aload_n 0, 1) := by decide +kernel
theorem dX5_readPlain_125 : decode cX5_readPlain 125 = .ok (.iload_n 1, 1) := by decide +kernel
theorem dX5_readPlain_126 : decode cX5_readPlain 126 = .ok (.invokevirtual 138, 3) := by decide +kernel
theorem dX5_readPlain_129 : decode cX5_readPlain 129 = .ok (.ifCond .ne 5, 3) := by decide +kernel
theorem dX5_readPlain_132 : decode cX5_readPlain 132 = .ok (.iconst 0, 1) := by decide +kernel
theorem dX5_readPlain_133 : decode cX5_readPlain 133 = .ok (.ireturn, 1) := by decide +kernel
theorem dX5_readPlain_134 : decode cX5_readPlain 134 = .ok (.aload_n 0, 1) := by decide +kernel
theorem dX5_readPlain_135 : decode cX5_readPlain 135 = .ok (.iload_n 3, 1) := by decide +kernel
theorem dX5_readPlain_136 : decode cX5_readPlain 136 = .ok (.iconst 0, 1) := by decide +kernel
theorem dX5_readPlain_137 : decode cX5_readPlain 137 = .ok (.invokevirtual 114, 3) := by decide +kernel
theorem dX5_readPlain_140 : decode cX5_readPlain 140 = .ok (.iload_n 2, 1) := by decide +kernel
theorem dX5_readPlain_141 : decode cX5_readPlain 141 = .ok (.ifCond .eq 10, 3) := by decide +kernel
theorem dX5_readPlain_144 : decode cX5_readPlain 144 = .ok (.aload_n 0, 1) := by decide +kernel
theorem dX5_readPlain_145 : decode cX5_readPlain 145 = .ok (.bipush 11, 2) := by decide +kernel
theorem dX5_readPlain_147 : decode cX5_readPlain 147 = .ok (.iconst 0, 1) := by decide +kernel
theorem dX5_readPlain_148 : decode cX5_readPlain 148 = .ok (.invokevirtual 114, 3) := by decide +kernel
theorem dX5_readPlain_151 : decode cX5_readPlain 151 = .ok (.iconst 1, 1) := by decide +kernel
theorem dX5_readPlain_152 : decode cX5_readPlain 152 = .ok (.ireturn, 1) := by decide +kernel
theorem dX5_readBracket_0 : decode cX5_readBracket 0 = .ok (.iload_n 1, 1) := by decide +kernel
theorem dX5_readBracket_1 : decode cX5_readBracket 1 = .ok (.bipush 8, 2) := by decide +kernel
theorem dX5_readBracket_3 : decode cX5_readBracket 3 = .ok (.if_icmp .lt 5, 3) := by decide +kernel
theorem dX5_readBracket_6 : decode cX5_readBracket 6 = .ok (.iconst 0, 1) := by decide +kernel
theorem dX5_readBracket_7 : decode cX5_readBracket 7 = .ok (.ireturn, 1) := by decide +kernel
theorem dX5_readBracket_8 : decode cX5_readBracket 8 = .ok (.aload_n 0, 1) := by decide +kernel
theorem dX5_readBracket_9 : decode cX5_readBracket 9 = .ok (.invokevirtual 43, 3) := by decide +kernel
theorem dX5_readBracket_12 : decode cX5_readBracket 12 = .ok (.aload_n 0, 1) := by decide +kernel
theorem dX5_readBracket_13 : decode cX5_readBracket 13 = .ok (.iload_n 1, 1) := by decide +kernel
theorem dX5_readBracket_14 : decode cX5_readBracket 14 = .ok (.iconst 1, 1) := by decide +kernel
theorem dX5_readBracket_15 : decode cX5_readBracket 15 = .ok (.iadd, 1) := by decide +kernel
theorem dX5_readBracket_16 : decode cX5_readBracket 16 = .ok (.invokevirtual 111, 3) := by decide +kernel
theorem dX5_readBracket_19 : decode cX5_readBracket 19 = .ok (.ifCond .eq 16, 3) := by decide +kernel
theorem dX5_readBracket_22 : decode cX5_readBracket 22 = .ok (.aload_n 0, 1) := by decide +kernel
theorem dX5_readBracket_23 : decode cX5_readBracket 23 = .ok (.bipush 41, 2) := by decide +kernel
theorem dX5_readBracket_25 : decode cX5_readBracket 25 = .ok (.invokevirtual 53, 3) := by decide +kernel
theorem dX5_readBracket_28 : decode cX5_readBracket 28 = .ok (.ifCond .eq 7, 3) := by decide +kernel
theorem dX5_readBracket_31 : decode cX5_readBracket 31 = .ok (.iconst 1, 1) := by decide +kernel
theorem dX5_readBracket_32 : decode cX5_readBracket 32 = .ok (.goto 4, 3) := by decide +kernel
theorem dX5_readBracket_35 : decode cX5_readBracket 35 = .ok (.iconst 0, 1) := by decide +kernel
theorem dX5_readBracket_36 : decode cX5_readBracket 36 = .ok (.ireturn, 1) := by decide +kernel
theorem dX5_readSum_0 : decode cX5_readSum 0 = .ok (.aload_n 0, 1) := by decide +kernel
theorem dX5_readSum_1 : decode cX5_readSum 1 = .ok (.iload_n 1, 1) := by decide +kernel
theorem dX5_readSum_2 : decode cX5_readSum 2 = .ok (.invokevirtual 156, 3) := by decide +kernel
theorem dX5_readSum_5 : decode cX5_readSum 5 = .ok (.ifCond .ne 5, 3) := by decide +kernel
theorem dX5_readSum_8 : decode cX5_readSum 8 = .ok (.iconst 0, 1) := by decide +kernel
theorem dX5_readSum_9 : decode cX5_readSum 9 = .ok (.ireturn, 1) := by decide +kernel
theorem dX5_readSum_10 : decode cX5_readSum 10 = .ok (.iconst 0, 1) := by decide +kernel
theorem dX5_readSum_11 : decode cX5_readSum 11 = .ok (.istore_n 2, 1) := by decide +kernel
theorem dX5_readSum_12 : decode cX5_readSum 12 = .ok (.iload_n 2, 1) := by decide +kernel
theorem dX5_readSum_13 : decode cX5_readSum 13 = .ok (.sipush 400, 3) := by decide +kernel
theorem dX5_readSum_16 : decode cX5_readSum 16 = .ok (.if_icmp .ge 62, 3) := by decide +kernel
theorem dX5_readSum_19 : decode cX5_readSum 19 = .ok (.aload_n 0, 1) := by decide +kernel
theorem dX5_readSum_20 : decode cX5_readSum 20 = .ok (.bipush 43, 2) := by decide +kernel
theorem dX5_readSum_22 : decode cX5_readSum 22 = .ok (.invokevirtual 77, 3) := by decide +kernel
theorem dX5_readSum_25 : decode cX5_readSum 25 = .ok (.ifCond .ne 12, 3) := by decide +kernel
theorem dX5_readSum_28 : decode cX5_readSum 28 = .ok (.aload_n 0, 1) := by decide +kernel
theorem dX5_readSum_29 : decode cX5_readSum 29 = .ok (.bipush 45, 2) := by decide +kernel
theorem dX5_readSum_31 : decode cX5_readSum 31 = .ok (.invokevirtual 77, 3) := by decide +kernel
theorem dX5_readSum_34 : decode cX5_readSum 34 = .ok (.ifCond .eq 44, 3) := by decide +kernel
theorem dX5_readSum_37 : decode cX5_readSum 37 = .ok (.aload_n 0, 1) := by decide +kernel
theorem dX5_readSum_38 : decode cX5_readSum 38 = .ok (.bipush 43, 2) := by decide +kernel
theorem dX5_readSum_40 : decode cX5_readSum 40 = .ok (.invokevirtual 77, 3) := by decide +kernel
theorem dX5_readSum_43 : decode cX5_readSum 43 = .ok (.ifCond .eq 7, 3) := by decide +kernel
theorem dX5_readSum_46 : decode cX5_readSum 46 = .ok (.iconst 2, 1) := by decide +kernel
theorem dX5_readSum_47 : decode cX5_readSum 47 = .ok (.goto 4, 3) := by decide +kernel
theorem dX5_readSum_50 : decode cX5_readSum 50 = .ok (.iconst 3, 1) := by decide +kernel
theorem dX5_readSum_51 : decode cX5_readSum 51 = .ok (.istore_n 3, 1) := by decide +kernel
theorem dX5_readSum_52 : decode cX5_readSum 52 = .ok (.aload_n 0, 1) := by decide +kernel
theorem dX5_readSum_53 : decode cX5_readSum 53 = .ok (.invokevirtual 43, 3) := by decide +kernel
theorem dX5_readSum_56 : decode cX5_readSum 56 = .ok (.aload_n 0, 1) := by decide +kernel
theorem dX5_readSum_57 : decode cX5_readSum 57 = .ok (.iload_n 1, 1) := by decide +kernel
theorem dX5_readSum_58 : decode cX5_readSum 58 = .ok (.invokevirtual 156, 3) := by decide +kernel
theorem dX5_readSum_61 : decode cX5_readSum 61 = .ok (.ifCond .ne 5, 3) := by decide +kernel
theorem dX5_readSum_64 : decode cX5_readSum 64 = .ok (.iconst 0, 1) := by decide +kernel
theorem dX5_readSum_65 : decode cX5_readSum 65 = .ok (.ireturn, 1) := by decide +kernel
theorem dX5_readSum_66 : decode cX5_readSum 66 = .ok (.aload_n 0, 1) := by decide +kernel
theorem dX5_readSum_67 : decode cX5_readSum 67 = .ok (.iload_n 3, 1) := by decide +kernel
theorem dX5_readSum_68 : decode cX5_readSum 68 = .ok (.iconst 0, 1) := by decide +kernel
theorem dX5_readSum_69 : decode cX5_readSum 69 = .ok (.invokevirtual 114, 3) := by decide +kernel
theorem dX5_readSum_72 : decode cX5_readSum 72 = .ok (.iinc 2 1, 3) := by decide +kernel
theorem dX5_readSum_75 : decode cX5_readSum 75 = .ok (.goto (-63), 3) := by decide +kernel
theorem dX5_readSum_78 : decode cX5_readSum 78 = .ok (.iconst 1, 1) := by decide +kernel
theorem dX5_readSum_79 : decode cX5_readSum 79 = .ok (.ireturn, 1) := by decide +kernel
theorem dX5_readTerm_0 : decode cX5_readTerm 0 = .ok (.aload_n 0, 1) := by decide +kernel
theorem dX5_readTerm_1 : decode cX5_readTerm 1 = .ok (.iload_n 1, 1) := by decide +kernel
theorem dX5_readTerm_2 : decode cX5_readTerm 2 = .ok (.invokevirtual 159, 3) := by decide +kernel
theorem dX5_readTerm_5 : decode cX5_readTerm 5 = .ok (.ifCond .ne 5, 3) := by decide +kernel
theorem dX5_readTerm_8 : decode cX5_readTerm 8 = .ok (.iconst 0, 1) := by decide +kernel
theorem dX5_readTerm_9 : decode cX5_readTerm 9 = .ok (.ireturn, 1) := by decide +kernel
theorem dX5_readTerm_10 : decode cX5_readTerm 10 = .ok (.iconst 0, 1) := by decide +kernel
theorem dX5_readTerm_11 : decode cX5_readTerm 11 = .ok (.istore_n 2, 1) := by decide +kernel
theorem dX5_readTerm_12 : decode cX5_readTerm 12 = .ok (.iload_n 2, 1) := by decide +kernel
theorem dX5_readTerm_13 : decode cX5_readTerm 13 = .ok (.sipush 400, 3) := by decide +kernel
theorem dX5_readTerm_16 : decode cX5_readTerm 16 = .ok (.if_icmp .ge 62, 3) := by decide +kernel
theorem dX5_readTerm_19 : decode cX5_readTerm 19 = .ok (.aload_n 0, 1) := by decide +kernel
theorem dX5_readTerm_20 : decode cX5_readTerm 20 = .ok (.bipush 42, 2) := by decide +kernel
theorem dX5_readTerm_22 : decode cX5_readTerm 22 = .ok (.invokevirtual 77, 3) := by decide +kernel
theorem dX5_readTerm_25 : decode cX5_readTerm 25 = .ok (.ifCond .ne 12, 3) := by decide +kernel
theorem dX5_readTerm_28 : decode cX5_readTerm 28 = .ok (.aload_n 0, 1) := by decide +kernel
theorem dX5_readTerm_29 : decode cX5_readTerm 29 = .ok (.bipush 47, 2) := by decide +kernel
theorem dX5_readTerm_31 : decode cX5_readTerm 31 = .ok (.invokevirtual 77, 3) := by decide +kernel
theorem dX5_readTerm_34 : decode cX5_readTerm 34 = .ok (.ifCond .eq 44, 3) := by decide +kernel
theorem dX5_readTerm_37 : decode cX5_readTerm 37 = .ok (.aload_n 0, 1) := by decide +kernel
theorem dX5_readTerm_38 : decode cX5_readTerm 38 = .ok (.bipush 42, 2) := by decide +kernel
theorem dX5_readTerm_40 : decode cX5_readTerm 40 = .ok (.invokevirtual 77, 3) := by decide +kernel
theorem dX5_readTerm_43 : decode cX5_readTerm 43 = .ok (.ifCond .eq 7, 3) := by decide +kernel
theorem dX5_readTerm_46 : decode cX5_readTerm 46 = .ok (.iconst 4, 1) := by decide +kernel
theorem dX5_readTerm_47 : decode cX5_readTerm 47 = .ok (.goto 4, 3) := by decide +kernel
theorem dX5_readTerm_50 : decode cX5_readTerm 50 = .ok (.iconst 5, 1) := by decide +kernel
theorem dX5_readTerm_51 : decode cX5_readTerm 51 = .ok (.istore_n 3, 1) := by decide +kernel
theorem dX5_readTerm_52 : decode cX5_readTerm 52 = .ok (.aload_n 0, 1) := by decide +kernel
theorem dX5_readTerm_53 : decode cX5_readTerm 53 = .ok (.invokevirtual 43, 3) := by decide +kernel
theorem dX5_readTerm_56 : decode cX5_readTerm 56 = .ok (.aload_n 0, 1) := by decide +kernel
theorem dX5_readTerm_57 : decode cX5_readTerm 57 = .ok (.iload_n 1, 1) := by decide +kernel
theorem dX5_readTerm_58 : decode cX5_readTerm 58 = .ok (.invokevirtual 159, 3) := by decide +kernel
theorem dX5_readTerm_61 : decode cX5_readTerm 61 = .ok (.ifCond .ne 5, 3) := by decide +kernel
theorem dX5_readTerm_64 : decode cX5_readTerm 64 = .ok (.iconst 0, 1) := by decide +kernel
theorem dX5_readTerm_65 : decode cX5_readTerm 65 = .ok (.ireturn, 1) := by decide +kernel
theorem dX5_readTerm_66 : decode cX5_readTerm 66 = .ok (.aload_n 0, 1) := by decide +kernel
theorem dX5_readTerm_67 : decode cX5_readTerm 67 = .ok (.iload_n 3, 1) := by decide +kernel
theorem dX5_readTerm_68 : decode cX5_readTerm 68 = .ok (.iconst 0, 1) := by decide +kernel
theorem dX5_readTerm_69 : decode cX5_readTerm 69 = .ok (.invokevirtual 114, 3) := by decide +kernel
theorem dX5_readTerm_72 : decode cX5_readTerm 72 = .ok (.iinc 2 1, 3) := by decide +kernel
theorem dX5_readTerm_75 : decode cX5_readTerm 75 = .ok (.goto (-63), 3) := by decide +kernel
theorem dX5_readTerm_78 : decode cX5_readTerm 78 = .ok (.iconst 1, 1) := by decide +kernel
theorem dX5_readTerm_79 : decode cX5_readTerm 79 = .ok (.ireturn, 1) := by decide +kernel
theorem dX5_readPart_0 : decode cX5_readPart 0 = .ok (.aload_n 0, 1) := by decide +kernel
theorem dX5_readPart_1 : decode cX5_readPart 1 = .ok (.getfield 50, 3) := by decide +kernel
theorem dX5_readPart_4 : decode cX5_readPart 4 = .ok (.iconst 2, 1) := by decide +kernel
theorem dX5_readPart_5 : decode cX5_readPart 5 = .ok (.if_icmp .ne 31, 3) := by decide +kernel
theorem dX5_readPart_8 : decode cX5_readPart 8 = .ok (.aload_n 0, 1) := by decide +kernel
theorem dX5_readPart_9 : decode cX5_readPart 9 = .ok (.getfield 60, 3) := by decide +kernel
theorem dX5_readPart_12 : decode cX5_readPart 12 = .ok (.sipush 10000, 3) := by decide +kernel
theorem dX5_readPart_15 : decode cX5_readPart 15 = .ok (.if_icmp .gt 19, 3) := by decide +kernel
theorem dX5_readPart_18 : decode cX5_readPart 18 = .ok (.aload_n 0, 1) := by decide +kernel
theorem dX5_readPart_19 : decode cX5_readPart 19 = .ok (.iconst 0, 1) := by decide +kernel
theorem dX5_readPart_20 : decode cX5_readPart 20 = .ok (.aload_n 0, 1) := by decide +kernel
theorem dX5_readPart_21 : decode cX5_readPart 21 = .ok (.getfield 60, 3) := by decide +kernel
theorem dX5_readPart_24 : decode cX5_readPart 24 = .ok (.invokevirtual 162, 3) := by decide +kernel
theorem dX5_readPart_27 : decode cX5_readPart 27 = .ok (.ifCond .eq 7, 3) := by decide +kernel
theorem dX5_readPart_30 : decode cX5_readPart 30 = .ok (.iconst 1, 1) := by decide +kernel
theorem dX5_readPart_31 : decode cX5_readPart 31 = .ok (.goto 4, 3) := by decide +kernel
theorem dX5_readPart_34 : decode cX5_readPart 34 = .ok (.iconst 0, 1) := by decide +kernel
theorem dX5_readPart_35 : decode cX5_readPart 35 = .ok (.ireturn, 1) := by decide +kernel
theorem dX5_readPart_36 : decode cX5_readPart 36 = .ok (.aload_n 0, 1) := by decide +kernel
theorem dX5_readPart_37 : decode cX5_readPart 37 = .ok (.ldc 166, 2) := by decide +kernel
theorem dX5_readPart_39 : decode cX5_readPart 39 = .ok (.invokevirtual 80, 3) := by decide +kernel
theorem dX5_readPart_42 : decode cX5_readPart 42 = .ok (.istore_n 2, 1) := by decide +kernel
theorem dX5_readPart_43 : decode cX5_readPart 43 = .ok (.iload_n 2, 1) := by decide +kernel
theorem dX5_readPart_44 : decode cX5_readPart 44 = .ok (.iconst (-1), 1) := by decide +kernel
theorem dX5_readPart_45 : decode cX5_readPart 45 = .ok (.if_icmp .eq 10, 3) := by decide +kernel
theorem dX5_readPart_48 : decode cX5_readPart 48 = .ok (.aload_n 0, 1) := by decide +kernel
theorem dX5_readPart_49 : decode cX5_readPart 49 = .ok (.iconst 1, 1) := by decide +kernel
theorem dX5_readPart_50 : decode cX5_readPart 50 = .ok (.iload_n 2, 1) := by decide +kernel
theorem dX5_readPart_51 : decode cX5_readPart 51 = .ok (.invokevirtual 162, 3) := by decide +kernel
theorem dX5_readPart_54 : decode cX5_readPart 54 = .ok (.ireturn, 1) := by decide +kernel
theorem dX5_readPart_55 : decode cX5_readPart 55 = .ok (.iload_n 1, 1) := by decide +kernel
theorem dX5_readPart_56 : decode cX5_readPart 56 = .ok (.bipush 8, 2) := by decide +kernel
theorem dX5_readPart_58 : decode cX5_readPart 58 = .ok (.if_icmp .lt 5, 3) := by decide +kernel
theorem dX5_readPart_61 : decode cX5_readPart 61 = .ok (.iconst 0, 1) := by decide +kernel
theorem dX5_readPart_62 : decode cX5_readPart 62 = .ok (.ireturn, 1) := by decide +kernel
theorem dX5_readPart_63 : decode cX5_readPart 63 = .ok (.aload_n 0, 1) := by decide +kernel
theorem dX5_readPart_64 : decode cX5_readPart 64 = .ok (.bipush 91, 2) := by decide +kernel
theorem dX5_readPart_66 : decode cX5_readPart 66 = .ok (.invokevirtual 53, 3) := by decide +kernel
theorem dX5_readPart_69 : decode cX5_readPart 69 = .ok (.ifCond .eq 28, 3) := by decide +kernel
theorem dX5_readPart_72 : decode cX5_readPart 72 = .ok (.aload_n 0, 1) := by decide +kernel
theorem dX5_readPart_73 : decode cX5_readPart 73 = .ok (.iload_n 1, 1) := by decide +kernel
theorem dX5_readPart_74 : decode cX5_readPart 74 = .ok (.iconst 1, 1) := by decide +kernel
theorem dX5_readPart_75 : decode cX5_readPart 75 = .ok (.iadd, 1) := by decide +kernel
theorem dX5_readPart_76 : decode cX5_readPart 76 = .ok (.invokevirtual 138, 3) := by decide +kernel
theorem dX5_readPart_79 : decode cX5_readPart 79 = .ok (.ifCond .eq 16, 3) := by decide +kernel
theorem dX5_readPart_82 : decode cX5_readPart 82 = .ok (.aload_n 0, 1) := by decide +kernel
theorem dX5_readPart_83 : decode cX5_readPart 83 = .ok (.bipush 93, 2) := by decide +kernel
theorem dX5_readPart_85 : decode cX5_readPart 85 = .ok (.invokevirtual 53, 3) := by decide +kernel
theorem dX5_readPart_88 : decode cX5_readPart 88 = .ok (.ifCond .eq 7, 3) := by decide +kernel
theorem dX5_readPart_91 : decode cX5_readPart 91 = .ok (.iconst 1, 1) := by decide +kernel
theorem dX5_readPart_92 : decode cX5_readPart 92 = .ok (.goto 4, 3) := by decide +kernel
theorem dX5_readPart_95 : decode cX5_readPart 95 = .ok (.iconst 0, 1) := by decide +kernel
theorem dX5_readPart_96 : decode cX5_readPart 96 = .ok (.ireturn, 1) := by decide +kernel
theorem dX5_readPart_97 : decode cX5_readPart 97 = .ok (.aload_n 0, 1) := by decide +kernel
theorem dX5_readPart_98 : decode cX5_readPart 98 = .ok (.ldc 168, 2) := by decide +kernel
theorem dX5_readPart_100 : decode cX5_readPart 100 = .ok (.invokevirtual 122, 3) := by decide +kernel
theorem dX5_readPart_103 : decode cX5_readPart 103 = .ok (.istore_n 3, 1) := by decide +kernel
theorem dX5_readPart_104 : decode cX5_readPart 104 = .ok (.iload_n 3, 1) := by decide +kernel
theorem dX5_readPart_105 : decode cX5_readPart 105 = .ok (.iconst (-1), 1) := by decide +kernel
theorem dX5_readPart_106 : decode cX5_readPart 106 = .ok (.if_icmp .eq 50, 3) := by decide +kernel
theorem dX5_readPart_109 : decode cX5_readPart 109 = .ok (.aload_n 0, 1) := by decide +kernel
theorem dX5_readPart_110 : decode cX5_readPart 110 = .ok (.bipush 91, 2) := by decide +kernel
theorem dX5_readPart_112 : decode cX5_readPart 112 = .ok (.invokevirtual 53, 3) := by decide +kernel
theorem dX5_readPart_115 : decode cX5_readPart 115 = .ok (.ifCond .eq 41, 3) := by decide +kernel
theorem dX5_readPart_118 : decode cX5_readPart 118 = .ok (.aload_n 0, 1) := by decide +kernel
theorem dX5_readPart_119 : decode cX5_readPart 119 = .ok (.iload_n 1, 1) := by decide +kernel
theorem dX5_readPart_120 : decode cX5_readPart 120 = .ok (.iconst 1, 1) := by decide +kernel
theorem dX5_readPart_121 : decode cX5_readPart 121 = .ok (.iadd, 1) := by decide +kernel
theorem dX5_readPart_122 : decode cX5_readPart 122 = .ok (.invokevirtual 138, 3) := by decide +kernel
theorem dX5_readPart_125 : decode cX5_readPart 125 = .ok (.ifCond .eq 31, 3) := by decide +kernel
theorem dX5_readPart_128 : decode cX5_readPart 128 = .ok (.aload_n 0, 1) := by decide +kernel
theorem dX5_readPart_129 : decode cX5_readPart 129 = .ok (.bipush 44, 2) := by decide +kernel
theorem dX5_readPart_131 : decode cX5_readPart 131 = .ok (.invokevirtual 53, 3) := by decide +kernel
theorem dX5_readPart_134 : decode cX5_readPart 134 = .ok (.ifCond .eq 22, 3) := by decide +kernel
theorem dX5_readPart_137 : decode cX5_readPart 137 = .ok (.aload_n 0, 1) := by decide +kernel
theorem dX5_readPart_138 : decode cX5_readPart 138 = .ok (.iload_n 1, 1) := by decide +kernel
theorem dX5_readPart_139 : decode cX5_readPart 139 = .ok (.iconst 1, 1) := by decide +kernel
theorem dX5_readPart_140 : decode cX5_readPart 140 = .ok (.iadd, 1) := by decide +kernel
theorem dX5_readPart_141 : decode cX5_readPart 141 = .ok (.invokevirtual 138, 3) := by decide +kernel
theorem dX5_readPart_144 : decode cX5_readPart 144 = .ok (.ifCond .eq 12, 3) := by decide +kernel
theorem dX5_readPart_147 : decode cX5_readPart 147 = .ok (.aload_n 0, 1) := by decide +kernel
theorem dX5_readPart_148 : decode cX5_readPart 148 = .ok (.bipush 93, 2) := by decide +kernel
theorem dX5_readPart_150 : decode cX5_readPart 150 = .ok (.invokevirtual 53, 3) := by decide +kernel
theorem dX5_readPart_153 : decode cX5_readPart 153 = .ok (.ifCond .ne 5, 3) := by decide +kernel
theorem dX5_readPart_156 : decode cX5_readPart 156 = .ok (.iconst 0, 1) := by decide +kernel
theorem dX5_readPart_157 : decode cX5_readPart 157 = .ok (.ireturn, 1) := by decide +kernel
theorem dX5_readPart_158 : decode cX5_readPart 158 = .ok (.aload_n 0, 1) := by decide +kernel
theorem dX5_readPart_159 : decode cX5_readPart 159 = .ok (.iload_n 3, 1) := by decide +kernel
theorem dX5_readPart_160 : decode cX5_readPart 160 = .ok (.ifCond .ne 8, 3) := by decide +kernel
theorem dX5_readPart_163 : decode cX5_readPart 163 = .ok (.bipush 6, 2) := by decide +kernel
theorem dX5_readPart_165 : decode cX5_readPart 165 = .ok (.goto 5, 3) := by decide +kernel
theorem dX5_readPart_168 : decode cX5_readPart 168 = .ok (.bipush 7, 2) := by decide +kernel
theorem dX5_readPart_170 : decode cX5_readPart 170 = .ok (.iconst 0, 1) := by decide +kernel
theorem dX5_readPart_171 : decode cX5_readPart 171 = .ok (.invokevirtual 114, 3) := by decide +kernel
theorem dX5_readPart_174 : decode cX5_readPart 174 = .ok (.iconst 1, 1) := by decide +kernel
theorem dX5_readPart_175 : decode cX5_readPart 175 = .ok (.ireturn, 1) := by decide +kernel
theorem dX5_takeLeaf_0 : decode cX5_takeLeaf 0 = .ok (.aload_n 0, 1) := by decide +kernel
theorem dX5_takeLeaf_1 : decode cX5_takeLeaf 1 = .ok (.getfield 37, 3) := by decide +kernel
theorem dX5_takeLeaf_4 : decode cX5_takeLeaf 4 = .ok (.bipush 60, 2) := by decide +kernel
theorem dX5_takeLeaf_6 : decode cX5_takeLeaf 6 = .ok (.if_icmp .lt 5, 3) := by decide +kernel
theorem dX5_takeLeaf_9 : decode cX5_takeLeaf 9 = .ok (.iconst 0, 1) := by decide +kernel
theorem dX5_takeLeaf_10 : decode cX5_takeLeaf 10 = .ok (.ireturn, 1) := by decide +kernel
theorem dX5_takeLeaf_11 : decode cX5_takeLeaf 11 = .ok (.aload_n 0, 1) := by decide +kernel
theorem dX5_takeLeaf_12 : decode cX5_takeLeaf 12 = .ok (.dup, 1) := by decide +kernel
theorem dX5_takeLeaf_13 : decode cX5_takeLeaf 13 = .ok (.getfield 37, 3) := by decide +kernel
theorem dX5_takeLeaf_16 : decode cX5_takeLeaf 16 = .ok (.iconst 1, 1) := by decide +kernel
theorem dX5_takeLeaf_17 : decode cX5_takeLeaf 17 = .ok (.iadd, 1) := by decide +kernel
theorem dX5_takeLeaf_18 : decode cX5_takeLeaf 18 = .ok (.putfield 37, 3) := by decide +kernel
theorem dX5_takeLeaf_21 : decode cX5_takeLeaf 21 = .ok (.aload_n 0, 1) := by decide +kernel
theorem dX5_takeLeaf_22 : decode cX5_takeLeaf 22 = .ok (.iload_n 1, 1) := by decide +kernel
theorem dX5_takeLeaf_23 : decode cX5_takeLeaf 23 = .ok (.iload_n 2, 1) := by decide +kernel
theorem dX5_takeLeaf_24 : decode cX5_takeLeaf 24 = .ok (.invokevirtual 114, 3) := by decide +kernel
theorem dX5_takeLeaf_27 : decode cX5_takeLeaf 27 = .ok (.aload_n 0, 1) := by decide +kernel
theorem dX5_takeLeaf_28 : decode cX5_takeLeaf 28 = .ok (.invokevirtual 43, 3) := by decide +kernel
theorem dX5_takeLeaf_31 : decode cX5_takeLeaf 31 = .ok (.iconst 1, 1) := by decide +kernel
theorem dX5_takeLeaf_32 : decode cX5_takeLeaf 32 = .ok (.ireturn, 1) := by decide +kernel
theorem dX6_init_0 : decode cX6_init 0 = .ok (.aload_n 0, 1) := by decide +kernel
theorem dX6_init_1 : decode cX6_init 1 = .ok (.invokespecial 3, 3) := by decide +kernel
theorem dX6_init_4 : decode cX6_init 4 = .ok (.aload_n 0, 1) := by decide +kernel
theorem dX6_init_5 : decode cX6_init 5 = .ok (.new 9, 3) := by decide +kernel
theorem dX6_init_8 : decode cX6_init 8 = .ok (.dup, 1) := by decide +kernel
theorem dX6_init_9 : decode cX6_init 9 = .ok (.invokespecial 11, 3) := by decide +kernel
theorem dX6_init_12 : decode cX6_init 12 = .ok (.putfield 12, 3) := by decide +kernel
theorem dX6_init_15 : decode cX6_init 15 = .ok (.aload_n 0, 1) := by decide +kernel
theorem dX6_init_16 : decode cX6_init 16 = .ok (.sipush 1300, 3) := by decide +kernel
theorem dX6_init_19 : decode cX6_init 19 = .ok (.newarray .int, 2) := by decide +kernel
theorem dX6_init_21 : decode cX6_init 21 = .ok (.putfield 18, 3) := by decide +kernel
theorem dX6_init_24 : decode cX6_init 24 = .ok (.aload_n 0, 1) := by decide +kernel
theorem dX6_init_25 : decode cX6_init 25 = .ok (.iconst (-1), 1) := by decide +kernel
theorem dX6_init_26 : decode cX6_init 26 = .ok (.putfield 22, 3) := by decide +kernel
theorem dX6_init_29 : decode cX6_init 29 = .ok (.aload_n 0, 1) := by decide +kernel
theorem dX6_init_30 : decode cX6_init 30 = .ok (.iconst (-1), 1) := by decide +kernel
theorem dX6_init_31 : decode cX6_init 31 = .ok (.putfield 26, 3) := by decide +kernel
theorem dX6_init_34 : decode cX6_init 34 = .ok (.aload_n 0, 1) := by decide +kernel
theorem dX6_init_35 : decode cX6_init 35 = .ok (.iconst (-1), 1) := by decide +kernel
theorem dX6_init_36 : decode cX6_init 36 = .ok (.putfield 29, 3) := by decide +kernel
theorem dX6_init_39 : decode cX6_init 39 = .ok (.return_, 1) := by decide +kernel
theorem dX6_isOf_0 : decode cX6_isOf 0 = .ok (.aload_n 0, 1) := by decide +kernel
theorem dX6_isOf_1 : decode cX6_isOf 1 = .ok (.getfield 22, 3) := by decide +kernel
theorem dX6_isOf_4 : decode cX6_isOf 4 = .ok (.iload_n 1, 1) := by decide +kernel
theorem dX6_isOf_5 : decode cX6_isOf 5 = .ok (.if_icmp .ne 23, 3) := by decide +kernel
theorem dX6_isOf_8 : decode cX6_isOf 8 = .ok (.aload_n 0, 1) := by decide +kernel
theorem dX6_isOf_9 : decode cX6_isOf 9 = .ok (.getfield 26, 3) := by decide +kernel
theorem dX6_isOf_12 : decode cX6_isOf 12 = .ok (.iload_n 2, 1) := by decide +kernel
theorem dX6_isOf_13 : decode cX6_isOf 13 = .ok (.if_icmp .ne 15, 3) := by decide +kernel
theorem dX6_isOf_16 : decode cX6_isOf 16 = .ok (.aload_n 0, 1) := by decide +kernel
theorem dX6_isOf_17 : decode cX6_isOf 17 = .ok (.getfield 29, 3) := by decide +kernel
theorem dX6_isOf_20 : decode cX6_isOf 20 = .ok (.iload_n 3, 1) := by decide +kernel
theorem dX6_isOf_21 : decode cX6_isOf 21 = .ok (.if_icmp .ne 7, 3) := by decide +kernel
theorem dX6_isOf_24 : decode cX6_isOf 24 = .ok (.iconst 1, 1) := by decide +kernel
theorem dX6_isOf_25 : decode cX6_isOf 25 = .ok (.goto 4, 3) := by decide +kernel
theorem dX6_isOf_28 : decode cX6_isOf 28 = .ok (.iconst 0, 1) := by decide +kernel
theorem dX6_isOf_29 : decode cX6_isOf 29 = .ok (.ireturn, 1) := by decide +kernel
theorem dX6_open_0 : decode cX6_open 0 = .ok (.aload_n 0, 1) := by decide +kernel
theorem dX6_open_1 : decode cX6_open 1 = .ok (.iload_n 1, 1) := by decide +kernel
theorem dX6_open_2 : decode cX6_open 2 = .ok (.putfield 22, 3) := by decide +kernel
theorem dX6_open_5 : decode cX6_open 5 = .ok (.aload_n 0, 1) := by decide +kernel
theorem dX6_open_6 : decode cX6_open 6 = .ok (.iload_n 2, 1) := by decide +kernel
theorem dX6_open_7 : decode cX6_open 7 = .ok (.putfield 26, 3) := by decide +kernel
theorem dX6_open_10 : decode cX6_open 10 = .ok (.aload_n 0, 1) := by decide +kernel
theorem dX6_open_11 : decode cX6_open 11 = .ok (.iload_n 3, 1) := by decide +kernel
theorem dX6_open_12 : decode cX6_open 12 = .ok (.putfield 29, 3) := by decide +kernel
theorem dX6_open_15 : decode cX6_open 15 = .ok (.aload_n 0, 1) := by decide +kernel
theorem dX6_open_16 : decode cX6_open 16 = .ok (.getfield 12, 3) := by decide +kernel
theorem dX6_open_19 : decode cX6_open 19 = .ok (.invokevirtual 32, 3) := by decide +kernel
theorem dX6_open_22 : decode cX6_open 22 = .ok (.return_, 1) := by decide +kernel
theorem dX6_keepStock_0 : decode cX6_keepStock 0 = .ok (.aload_n 0, 1) := by decide +kernel
theorem dX6_keepStock_1 : decode cX6_keepStock 1 = .ok (.getfield 12, 3) := by decide +kernel
theorem dX6_keepStock_4 : decode cX6_keepStock 4 = .ok (.getfield 35, 3) := by decide +kernel
theorem dX6_keepStock_7 : decode cX6_keepStock 7 = .ok (.iconst 0, 1) := by decide +kernel
theorem dX6_keepStock_8 : decode cX6_keepStock 8 = .ok (.aload_n 0, 1) := by decide +kernel
theorem dX6_keepStock_9 : decode cX6_keepStock 9 = .ok (.getfield 18, 3) := by decide +kernel
theorem dX6_keepStock_12 : decode cX6_keepStock 12 = .ok (.iload_n 1, 1) := by decide +kernel
theorem dX6_keepStock_13 : decode cX6_keepStock 13 = .ok (.iconst 5, 1) := by decide +kernel
theorem dX6_keepStock_14 : decode cX6_keepStock 14 = .ok (.imul, 1) := by decide +kernel
theorem dX6_keepStock_15 : decode cX6_keepStock 15 = .ok (.iconst 5, 1) := by decide +kernel
theorem dX6_keepStock_16 : decode cX6_keepStock 16 = .ok (.invokestatic 36, 3) := by decide +kernel
theorem dX6_keepStock_19 : decode cX6_keepStock 19 = .ok (.return_, 1) := by decide +kernel
theorem dX6_doneWeek_0 : decode cX6_doneWeek 0 = .ok (.aload_n 0, 1) := by decide +kernel
theorem dX6_doneWeek_1 : decode cX6_doneWeek 1 = .ok (.getfield 12, 3) := by decide +kernel
theorem dX6_doneWeek_4 : decode cX6_doneWeek 4 = .ok (.getfield 42, 3) := by decide +kernel
theorem dX6_doneWeek_7 : decode cX6_doneWeek 7 = .ok (.iload_n 1, 1) := by decide +kernel
theorem dX6_doneWeek_8 : decode cX6_doneWeek 8 = .ok (.iconst 3, 1) := by decide +kernel
theorem dX6_doneWeek_9 : decode cX6_doneWeek 9 = .ok (.imul, 1) := by decide +kernel
theorem dX6_doneWeek_10 : decode cX6_doneWeek 10 = .ok (.iconst 3, 1) := by decide +kernel
theorem dX6_doneWeek_11 : decode cX6_doneWeek 11 = .ok (.iadd, 1) := by decide +kernel
theorem dX6_doneWeek_12 : decode cX6_doneWeek 12 = .ok (.iconst 1, 1) := by decide +kernel
theorem dX6_doneWeek_13 : decode cX6_doneWeek 13 = .ok (.isub, 1) := by decide +kernel
theorem dX6_doneWeek_14 : decode cX6_doneWeek 14 = .ok (.iaload, 1) := by decide +kernel
theorem dX6_doneWeek_15 : decode cX6_doneWeek 15 = .ok (.ireturn, 1) := by decide +kernel
theorem dX6_isDoneBy_0 : decode cX6_isDoneBy 0 = .ok (.aload_n 0, 1) := by decide +kernel
theorem dX6_isDoneBy_1 : decode cX6_isDoneBy 1 = .ok (.iload_n 1, 1) := by decide +kernel
theorem dX6_isDoneBy_2 : decode cX6_isDoneBy 2 = .ok (.invokevirtual 45, 3) := by decide +kernel
theorem dX6_isDoneBy_5 : decode cX6_isDoneBy 5 = .ok (.iconst (-1), 1) := by decide +kernel
theorem dX6_isDoneBy_6 : decode cX6_isDoneBy 6 = .ok (.if_icmp .eq 16, 3) := by decide +kernel
theorem dX6_isDoneBy_9 : decode cX6_isDoneBy 9 = .ok (.aload_n 0, 1) := by decide +kernel
theorem dX6_isDoneBy_10 : decode cX6_isDoneBy 10 = .ok (.iload_n 1, 1) := by decide +kernel
theorem dX6_isDoneBy_11 : decode cX6_isDoneBy 11 = .ok (.invokevirtual 45, 3) := by decide +kernel
theorem dX6_isDoneBy_14 : decode cX6_isDoneBy 14 = .ok (.iload_n 2, 1) := by decide +kernel
theorem dX6_isDoneBy_15 : decode cX6_isDoneBy 15 = .ok (.if_icmp .gt 7, 3) := by decide +kernel
theorem dX6_isDoneBy_18 : decode cX6_isDoneBy 18 = .ok (.iconst 1, 1) := by decide +kernel
theorem dX6_isDoneBy_19 : decode cX6_isDoneBy 19 = .ok (.goto 4, 3) := by decide +kernel
theorem dX6_isDoneBy_22 : decode cX6_isDoneBy 22 = .ok (.iconst 0, 1) := by decide +kernel
theorem dX6_isDoneBy_23 : decode cX6_isDoneBy 23 = .ok (.ireturn, 1) := by decide +kernel
theorem dX7_init_0 : decode cX7_init 0 = .ok (.aload_n 0, 1) := by decide +kernel
theorem dX7_init_1 : decode cX7_init 1 = .ok (.invokespecial 3, 3) := by decide +kernel
theorem dX7_init_4 : decode cX7_init 4 = .ok (.aload_n 0, 1) := by decide +kernel
theorem dX7_init_5 : decode cX7_init 5 = .ok (.iconst 5, 1) := by decide +kernel
theorem dX7_init_6 : decode cX7_init 6 = .ok (.newarray .int, 2) := by decide +kernel
theorem dX7_init_8 : decode cX7_init 8 = .ok (.putfield 9, 3) := by decide +kernel
theorem dX7_init_11 : decode cX7_init 11 = .ok (.aload_n 0, 1) := by decide +kernel
theorem dX7_init_12 : decode cX7_init 12 = .ok (.bipush 30, 2) := by decide +kernel
theorem dX7_init_14 : decode cX7_init 14 = .ok (.newarray .int, 2) := by decide +kernel
theorem dX7_init_16 : decode cX7_init 16 = .ok (.putfield 15, 3) := by decide +kernel
theorem dX7_init_19 : decode cX7_init 19 = .ok (.aload_n 0, 1) := by decide +kernel
theorem dX7_init_20 : decode cX7_init 20 = .ok (.bipush 18, 2) := by decide +kernel
theorem dX7_init_22 : decode cX7_init 22 = .ok (.newarray .int, 2) := by decide +kernel
theorem dX7_init_24 : decode cX7_init 24 = .ok (.putfield 18, 3) := by decide +kernel
theorem dX7_init_27 : decode cX7_init 27 = .ok (.aload_n 0, 1) := by decide +kernel
theorem dX7_init_28 : decode cX7_init 28 = .ok (.bipush 30, 2) := by decide +kernel
theorem dX7_init_30 : decode cX7_init 30 = .ok (.newarray .int, 2) := by decide +kernel
theorem dX7_init_32 : decode cX7_init 32 = .ok (.putfield 21, 3) := by decide +kernel
theorem dX7_init_35 : decode cX7_init 35 = .ok (.aload_n 0, 1) := by decide +kernel
theorem dX7_init_36 : decode cX7_init 36 = .ok (.bipush 30, 2) := by decide +kernel
theorem dX7_init_38 : decode cX7_init 38 = .ok (.newarray .int, 2) := by decide +kernel
theorem dX7_init_40 : decode cX7_init 40 = .ok (.putfield 24, 3) := by decide +kernel
theorem dX7_init_43 : decode cX7_init 43 = .ok (.aload_n 0, 1) := by decide +kernel
theorem dX7_init_44 : decode cX7_init 44 = .ok (.bipush 30, 2) := by decide +kernel
theorem dX7_init_46 : decode cX7_init 46 = .ok (.newarray .int, 2) := by decide +kernel
theorem dX7_init_48 : decode cX7_init 48 = .ok (.putfield 27, 3) := by decide +kernel
theorem dX7_init_51 : decode cX7_init 51 = .ok (.aload_n 0, 1) := by decide +kernel
theorem dX7_init_52 : decode cX7_init 52 = .ok (.bipush 90, 2) := by decide +kernel
theorem dX7_init_54 : decode cX7_init 54 = .ok (.newarray .int, 2) := by decide +kernel
theorem dX7_init_56 : decode cX7_init 56 = .ok (.putfield 30, 3) := by decide +kernel
theorem dX7_init_59 : decode cX7_init 59 = .ok (.aload_n 0, 1) := by decide +kernel
theorem dX7_init_60 : decode cX7_init 60 = .ok (.bipush 90, 2) := by decide +kernel
theorem dX7_init_62 : decode cX7_init 62 = .ok (.newarray .int, 2) := by decide +kernel
theorem dX7_init_64 : decode cX7_init 64 = .ok (.putfield 33, 3) := by decide +kernel
theorem dX7_init_67 : decode cX7_init 67 = .ok (.aload_n 0, 1) := by decide +kernel
theorem dX7_init_68 : decode cX7_init 68 = .ok (.bipush 90, 2) := by decide +kernel
theorem dX7_init_70 : decode cX7_init 70 = .ok (.newarray .int, 2) := by decide +kernel
theorem dX7_init_72 : decode cX7_init 72 = .ok (.putfield 36, 3) := by decide +kernel
theorem dX7_init_75 : decode cX7_init 75 = .ok (.return_, 1) := by decide +kernel
theorem dX7_empty_0 : decode cX7_empty 0 = .ok (.aload_n 0, 1) := by decide +kernel
theorem dX7_empty_1 : decode cX7_empty 1 = .ok (.getfield 9, 3) := by decide +kernel
theorem dX7_empty_4 : decode cX7_empty 4 = .ok (.iconst 0, 1) := by decide +kernel
theorem dX7_empty_5 : decode cX7_empty 5 = .ok (.invokestatic 39, 3) := by decide +kernel
theorem dX7_empty_8 : decode cX7_empty 8 = .ok (.aload_n 0, 1) := by decide +kernel
theorem dX7_empty_9 : decode cX7_empty 9 = .ok (.iconst 0, 1) := by decide +kernel
theorem dX7_empty_10 : decode cX7_empty 10 = .ok (.putfield 45, 3) := by decide +kernel
theorem dX7_empty_13 : decode cX7_empty 13 = .ok (.aload_n 0, 1) := by decide +kernel
theorem dX7_empty_14 : decode cX7_empty 14 = .ok (.getfield 18, 3) := by decide +kernel
theorem dX7_empty_17 : decode cX7_empty 17 = .ok (.iconst 0, 1) := by decide +kernel
theorem dX7_empty_18 : decode cX7_empty 18 = .ok (.invokestatic 39, 3) := by decide +kernel
theorem dX7_empty_21 : decode cX7_empty 21 = .ok (.aload_n 0, 1) := by decide +kernel
theorem dX7_empty_22 : decode cX7_empty 22 = .ok (.getfield 21, 3) := by decide +kernel
theorem dX7_empty_25 : decode cX7_empty 25 = .ok (.iconst 0, 1) := by decide +kernel
theorem dX7_empty_26 : decode cX7_empty 26 = .ok (.invokestatic 39, 3) := by decide +kernel
theorem dX7_empty_29 : decode cX7_empty 29 = .ok (.aload_n 0, 1) := by decide +kernel
theorem dX7_empty_30 : decode cX7_empty 30 = .ok (.getfield 24, 3) := by decide +kernel
theorem dX7_empty_33 : decode cX7_empty 33 = .ok (.iconst 0, 1) := by decide +kernel
theorem dX7_empty_34 : decode cX7_empty 34 = .ok (.invokestatic 39, 3) := by decide +kernel
theorem dX7_empty_37 : decode cX7_empty 37 = .ok (.aload_n 0, 1) := by decide +kernel
theorem dX7_empty_38 : decode cX7_empty 38 = .ok (.getfield 27, 3) := by decide +kernel
theorem dX7_empty_41 : decode cX7_empty 41 = .ok (.iconst (-1), 1) := by decide +kernel
theorem dX7_empty_42 : decode cX7_empty 42 = .ok (.invokestatic 39, 3) := by decide +kernel
theorem dX7_empty_45 : decode cX7_empty 45 = .ok (.aload_n 0, 1) := by decide +kernel
theorem dX7_empty_46 : decode cX7_empty 46 = .ok (.getfield 30, 3) := by decide +kernel
theorem dX7_empty_49 : decode cX7_empty 49 = .ok (.iconst (-1), 1) := by decide +kernel
theorem dX7_empty_50 : decode cX7_empty 50 = .ok (.invokestatic 39, 3) := by decide +kernel
theorem dX7_empty_53 : decode cX7_empty 53 = .ok (.aload_n 0, 1) := by decide +kernel
theorem dX7_empty_54 : decode cX7_empty 54 = .ok (.getfield 33, 3) := by decide +kernel
theorem dX7_empty_57 : decode cX7_empty 57 = .ok (.iconst (-1), 1) := by decide +kernel
theorem dX7_empty_58 : decode cX7_empty 58 = .ok (.invokestatic 39, 3) := by decide +kernel
theorem dX7_empty_61 : decode cX7_empty 61 = .ok (.aload_n 0, 1) := by decide +kernel
theorem dX7_empty_62 : decode cX7_empty 62 = .ok (.getfield 36, 3) := by decide +kernel
theorem dX7_empty_65 : decode cX7_empty 65 = .ok (.iconst (-1), 1) := by decide +kernel
theorem dX7_empty_66 : decode cX7_empty 66 = .ok (.invokestatic 39, 3) := by decide +kernel
theorem dX7_empty_69 : decode cX7_empty 69 = .ok (.return_, 1) := by decide +kernel
theorem dX7_copyFrom_0 : decode cX7_copyFrom 0 = .ok (.aload_n 1, 1) := by decide +kernel
theorem dX7_copyFrom_1 : decode cX7_copyFrom 1 = .ok (.getfield 9, 3) := by decide +kernel
theorem dX7_copyFrom_4 : decode cX7_copyFrom 4 = .ok (.iconst 0, 1) := by decide +kernel
theorem dX7_copyFrom_5 : decode cX7_copyFrom 5 = .ok (.aload_n 0, 1) := by decide +kernel
theorem dX7_copyFrom_6 : decode cX7_copyFrom 6 = .ok (.getfield 9, 3) := by decide +kernel
theorem dX7_copyFrom_9 : decode cX7_copyFrom 9 = .ok (.iconst 0, 1) := by decide +kernel
theorem dX7_copyFrom_10 : decode cX7_copyFrom 10 = .ok (.iconst 5, 1) := by decide +kernel
theorem dX7_copyFrom_11 : decode cX7_copyFrom 11 = .ok (.invokestatic 49, 3) := by decide +kernel
theorem dX7_copyFrom_14 : decode cX7_copyFrom 14 = .ok (.aload_n 1, 1) := by decide +kernel
theorem dX7_copyFrom_15 : decode cX7_copyFrom 15 = .ok (.getfield 15, 3) := by decide +kernel
theorem dX7_copyFrom_18 : decode cX7_copyFrom 18 = .ok (.iconst 0, 1) := by decide +kernel
theorem dX7_copyFrom_19 : decode cX7_copyFrom 19 = .ok (.aload_n 0, 1) := by decide +kernel
theorem dX7_copyFrom_20 : decode cX7_copyFrom 20 = .ok (.getfield 15, 3) := by decide +kernel
theorem dX7_copyFrom_23 : decode cX7_copyFrom 23 = .ok (.iconst 0, 1) := by decide +kernel
theorem dX7_copyFrom_24 : decode cX7_copyFrom 24 = .ok (.aload_n 1, 1) := by decide +kernel
theorem dX7_copyFrom_25 : decode cX7_copyFrom 25 = .ok (.getfield 45, 3) := by decide +kernel
theorem dX7_copyFrom_28 : decode cX7_copyFrom 28 = .ok (.invokestatic 49, 3) := by decide +kernel
theorem dX7_copyFrom_31 : decode cX7_copyFrom 31 = .ok (.aload_n 0, 1) := by decide +kernel
theorem dX7_copyFrom_32 : decode cX7_copyFrom 32 = .ok (.aload_n 1, 1) := by decide +kernel
theorem dX7_copyFrom_33 : decode cX7_copyFrom 33 = .ok (.getfield 45, 3) := by decide +kernel
theorem dX7_copyFrom_36 : decode cX7_copyFrom 36 = .ok (.putfield 45, 3) := by decide +kernel
theorem dX7_copyFrom_39 : decode cX7_copyFrom 39 = .ok (.aload_n 1, 1) := by decide +kernel
theorem dX7_copyFrom_40 : decode cX7_copyFrom 40 = .ok (.getfield 18, 3) := by decide +kernel
theorem dX7_copyFrom_43 : decode cX7_copyFrom 43 = .ok (.iconst 0, 1) := by decide +kernel
theorem dX7_copyFrom_44 : decode cX7_copyFrom 44 = .ok (.aload_n 0, 1) := by decide +kernel
theorem dX7_copyFrom_45 : decode cX7_copyFrom 45 = .ok (.getfield 18, 3) := by decide +kernel
theorem dX7_copyFrom_48 : decode cX7_copyFrom 48 = .ok (.iconst 0, 1) := by decide +kernel
theorem dX7_copyFrom_49 : decode cX7_copyFrom 49 = .ok (.aload_n 0, 1) := by decide +kernel
theorem dX7_copyFrom_50 : decode cX7_copyFrom 50 = .ok (.getfield 18, 3) := by decide +kernel
theorem dX7_copyFrom_53 : decode cX7_copyFrom 53 = .ok (.arraylength, 1) := by decide +kernel
theorem dX7_copyFrom_54 : decode cX7_copyFrom 54 = .ok (.invokestatic 49, 3) := by decide +kernel
theorem dX7_copyFrom_57 : decode cX7_copyFrom 57 = .ok (.aload_n 1, 1) := by decide +kernel
theorem dX7_copyFrom_58 : decode cX7_copyFrom 58 = .ok (.getfield 21, 3) := by decide +kernel
theorem dX7_copyFrom_61 : decode cX7_copyFrom 61 = .ok (.iconst 0, 1) := by decide +kernel
theorem dX7_copyFrom_62 : decode cX7_copyFrom 62 = .ok (.aload_n 0, 1) := by decide +kernel
theorem dX7_copyFrom_63 : decode cX7_copyFrom 63 = .ok (.getfield 21, 3) := by decide +kernel
theorem dX7_copyFrom_66 : decode cX7_copyFrom 66 = .ok (.iconst 0, 1) := by decide +kernel
theorem dX7_copyFrom_67 : decode cX7_copyFrom 67 = .ok (.iload_n 2, 1) := by decide +kernel
theorem dX7_copyFrom_68 : decode cX7_copyFrom 68 = .ok (.invokestatic 49, 3) := by decide +kernel
theorem dX7_copyFrom_71 : decode cX7_copyFrom 71 = .ok (.aload_n 1, 1) := by decide +kernel
theorem dX7_copyFrom_72 : decode cX7_copyFrom 72 = .ok (.getfield 24, 3) := by decide +kernel
theorem dX7_copyFrom_75 : decode cX7_copyFrom 75 = .ok (.iconst 0, 1) := by decide +kernel
theorem dX7_copyFrom_76 : decode cX7_copyFrom 76 = .ok (.aload_n 0, 1) := by decide +kernel
theorem dX7_copyFrom_77 : decode cX7_copyFrom 77 = .ok (.getfield 24, 3) := by decide +kernel
theorem dX7_copyFrom_80 : decode cX7_copyFrom 80 = .ok (.iconst 0, 1) := by decide +kernel
theorem dX7_copyFrom_81 : decode cX7_copyFrom 81 = .ok (.iload_n 2, 1) := by decide +kernel
theorem dX7_copyFrom_82 : decode cX7_copyFrom 82 = .ok (.invokestatic 49, 3) := by decide +kernel
theorem dX7_copyFrom_85 : decode cX7_copyFrom 85 = .ok (.aload_n 1, 1) := by decide +kernel
theorem dX7_copyFrom_86 : decode cX7_copyFrom 86 = .ok (.getfield 27, 3) := by decide +kernel
theorem dX7_copyFrom_89 : decode cX7_copyFrom 89 = .ok (.iconst 0, 1) := by decide +kernel
theorem dX7_copyFrom_90 : decode cX7_copyFrom 90 = .ok (.aload_n 0, 1) := by decide +kernel
theorem dX7_copyFrom_91 : decode cX7_copyFrom 91 = .ok (.getfield 27, 3) := by decide +kernel
theorem dX7_copyFrom_94 : decode cX7_copyFrom 94 = .ok (.iconst 0, 1) := by decide +kernel
theorem dX7_copyFrom_95 : decode cX7_copyFrom 95 = .ok (.iload_n 2, 1) := by decide +kernel
theorem dX7_copyFrom_96 : decode cX7_copyFrom 96 = .ok (.invokestatic 49, 3) := by decide +kernel
theorem dX7_copyFrom_99 : decode cX7_copyFrom 99 = .ok (.aload_n 1, 1) := by decide +kernel
theorem dX7_copyFrom_100 : decode cX7_copyFrom 100 = .ok (.getfield 30, 3) := by decide +kernel
theorem dX7_copyFrom_103 : decode cX7_copyFrom 103 = .ok (.iconst 0, 1) := by decide +kernel
theorem dX7_copyFrom_104 : decode cX7_copyFrom 104 = .ok (.aload_n 0, 1) := by decide +kernel
theorem dX7_copyFrom_105 : decode cX7_copyFrom 105 = .ok (.getfield 30, 3) := by decide +kernel
theorem dX7_copyFrom_108 : decode cX7_copyFrom 108 = .ok (.iconst 0, 1) := by decide +kernel
theorem dX7_copyFrom_109 : decode cX7_copyFrom 109 = .ok (.iload_n 2, 1) := by decide +kernel
theorem dX7_copyFrom_110 : decode cX7_copyFrom 110 = .ok (.iconst 3, 1) := by decide +kernel
theorem dX7_copyFrom_111 : decode cX7_copyFrom 111 = .ok (.imul, 1) := by decide +kernel
theorem dX7_copyFrom_112 : decode cX7_copyFrom 112 = .ok (.invokestatic 49, 3) := by decide +kernel
theorem dX7_copyFrom_115 : decode cX7_copyFrom 115 = .ok (.aload_n 1, 1) := by decide +kernel
theorem dX7_copyFrom_116 : decode cX7_copyFrom 116 = .ok (.getfield 33, 3) := by decide +kernel
theorem dX7_copyFrom_119 : decode cX7_copyFrom 119 = .ok (.iconst 0, 1) := by decide +kernel
theorem dX7_copyFrom_120 : decode cX7_copyFrom 120 = .ok (.aload_n 0, 1) := by decide +kernel
theorem dX7_copyFrom_121 : decode cX7_copyFrom 121 = .ok (.getfield 33, 3) := by decide +kernel
theorem dX7_copyFrom_124 : decode cX7_copyFrom 124 = .ok (.iconst 0, 1) := by decide +kernel
theorem dX7_copyFrom_125 : decode cX7_copyFrom 125 = .ok (.iload_n 2, 1) := by decide +kernel
theorem dX7_copyFrom_126 : decode cX7_copyFrom 126 = .ok (.iconst 3, 1) := by decide +kernel
theorem dX7_copyFrom_127 : decode cX7_copyFrom 127 = .ok (.imul, 1) := by decide +kernel
theorem dX7_copyFrom_128 : decode cX7_copyFrom 128 = .ok (.invokestatic 49, 3) := by decide +kernel
theorem dX7_copyFrom_131 : decode cX7_copyFrom 131 = .ok (.aload_n 1, 1) := by decide +kernel
theorem dX7_copyFrom_132 : decode cX7_copyFrom 132 = .ok (.getfield 36, 3) := by decide +kernel
theorem dX7_copyFrom_135 : decode cX7_copyFrom 135 = .ok (.iconst 0, 1) := by decide +kernel
theorem dX7_copyFrom_136 : decode cX7_copyFrom 136 = .ok (.aload_n 0, 1) := by decide +kernel
theorem dX7_copyFrom_137 : decode cX7_copyFrom 137 = .ok (.getfield 36, 3) := by decide +kernel
theorem dX7_copyFrom_140 : decode cX7_copyFrom 140 = .ok (.iconst 0, 1) := by decide +kernel
theorem dX7_copyFrom_141 : decode cX7_copyFrom 141 = .ok (.iload_n 2, 1) := by decide +kernel
theorem dX7_copyFrom_142 : decode cX7_copyFrom 142 = .ok (.iconst 3, 1) := by decide +kernel
theorem dX7_copyFrom_143 : decode cX7_copyFrom 143 = .ok (.imul, 1) := by decide +kernel
theorem dX7_copyFrom_144 : decode cX7_copyFrom 144 = .ok (.invokestatic 49, 3) := by decide +kernel
theorem dX7_copyFrom_147 : decode cX7_copyFrom 147 = .ok (.return_, 1) := by decide +kernel
theorem dX7_isDone_0 : decode cX7_isDone 0 = .ok (.aload_n 0, 1) := by decide +kernel
theorem dX7_isDone_1 : decode cX7_isDone 1 = .ok (.getfield 24, 3) := by decide +kernel
theorem dX7_isDone_4 : decode cX7_isDone 4 = .ok (.iload_n 1, 1) := by decide +kernel
theorem dX7_isDone_5 : decode cX7_isDone 5 = .ok (.iaload, 1) := by decide +kernel
theorem dX7_isDone_6 : decode cX7_isDone 6 = .ok (.iconst 3, 1) := by decide +kernel
theorem dX7_isDone_7 : decode cX7_isDone 7 = .ok (.if_icmp .lt 7, 3) := by decide +kernel
theorem dX7_isDone_10 : decode cX7_isDone 10 = .ok (.iconst 1, 1) := by decide +kernel
theorem dX7_isDone_11 : decode cX7_isDone 11 = .ok (.goto 4, 3) := by decide +kernel
theorem dX7_isDone_14 : decode cX7_isDone 14 = .ok (.iconst 0, 1) := by decide +kernel
theorem dX7_isDone_15 : decode cX7_isDone 15 = .ok (.ireturn, 1) := by decide +kernel
theorem dX7_isShell_0 : decode cX7_isShell 0 = .ok (.aload_n 0, 1) := by decide +kernel
theorem dX7_isShell_1 : decode cX7_isShell 1 = .ok (.iload_n 1, 1) := by decide +kernel
theorem dX7_isShell_2 : decode cX7_isShell 2 = .ok (.invokevirtual 55, 3) := by decide +kernel
theorem dX7_isShell_5 : decode cX7_isShell 5 = .ok (.ifCond .ne 19, 3) := by decide +kernel
theorem dX7_isShell_8 : decode cX7_isShell 8 = .ok (.aload_n 0, 1) := by decide +kernel
theorem dX7_isShell_9 : decode cX7_isShell 9 = .ok (.getfield 33, 3) := by decide +kernel
theorem dX7_isShell_12 : decode cX7_isShell 12 = .ok (.iload_n 1, 1) := by decide +kernel
theorem dX7_isShell_13 : decode cX7_isShell 13 = .ok (.iconst 3, 1) := by decide +kernel
theorem dX7_isShell_14 : decode cX7_isShell 14 = .ok (.imul, 1) := by decide +kernel
theorem dX7_isShell_15 : decode cX7_isShell 15 = .ok (.iaload, 1) := by decide +kernel
theorem dX7_isShell_16 : decode cX7_isShell 16 = .ok (.iconst (-1), 1) := by decide +kernel
theorem dX7_isShell_17 : decode cX7_isShell 17 = .ok (.if_icmp .eq 7, 3) := by decide +kernel
theorem dX7_isShell_20 : decode cX7_isShell 20 = .ok (.iconst 1, 1) := by decide +kernel
theorem dX7_isShell_21 : decode cX7_isShell 21 = .ok (.goto 4, 3) := by decide +kernel
theorem dX7_isShell_24 : decode cX7_isShell 24 = .ok (.iconst 0, 1) := by decide +kernel
theorem dX7_isShell_25 : decode cX7_isShell 25 = .ok (.ireturn, 1) := by decide +kernel
theorem dX7_waitsForNeeds_0 : decode cX7_waitsForNeeds 0 = .ok (.iload_n 1, 1) := by decide +kernel
theorem dX7_waitsForNeeds_1 : decode cX7_waitsForNeeds 1 = .ok (.iconst 3, 1) := by decide +kernel
theorem dX7_waitsForNeeds_2 : decode cX7_waitsForNeeds 2 = .ok (.imul, 1) := by decide +kernel
theorem dX7_waitsForNeeds_3 : decode cX7_waitsForNeeds 3 = .ok (.istore_n 3, 1) := by decide +kernel
theorem dX7_waitsForNeeds_4 : decode cX7_waitsForNeeds 4 = .ok (.iload_n 3, 1) := by decide +kernel
theorem dX7_waitsForNeeds_5 : decode cX7_waitsForNeeds 5 = .ok (.iload_n 1, 1) := by decide +kernel
theorem dX7_waitsForNeeds_6 : decode cX7_waitsForNeeds 6 = .ok (.iconst 1, 1) := by decide +kernel
theorem dX7_waitsForNeeds_7 : decode cX7_waitsForNeeds 7 = .ok (.iadd, 1) := by decide +kernel
theorem dX7_waitsForNeeds_8 : decode cX7_waitsForNeeds 8 = .ok (.iconst 3, 1) := by decide +kernel
theorem dX7_waitsForNeeds_9 : decode cX7_waitsForNeeds 9 = .ok (.imul, 1) := by decide +kernel
theorem dX7_waitsForNeeds_10 : decode cX7_waitsForNeeds 10 = .ok (.if_icmp .ge 87, 3) := by decide +kernel
theorem dX7_waitsForNeeds_13 : decode cX7_waitsForNeeds 13 = .ok (.aload_n 0, 1) := by decide +kernel
theorem dX7_waitsForNeeds_14 : decode cX7_waitsForNeeds 14 = .ok (.getfield 36, 3) := by decide +kernel
theorem dX7_waitsForNeeds_17 : decode cX7_waitsForNeeds 17 = .ok (.iload_n 3, 1) := by decide +kernel
theorem dX7_waitsForNeeds_18 : decode cX7_waitsForNeeds 18 = .ok (.iaload, 1) := by decide +kernel
theorem dX7_waitsForNeeds_19 : decode cX7_waitsForNeeds 19 = .ok (.iconst (-1), 1) := by decide +kernel
theorem dX7_waitsForNeeds_20 : decode cX7_waitsForNeeds 20 = .ok (.if_icmp .eq 13, 3) := by decide +kernel
theorem dX7_waitsForNeeds_23 : decode cX7_waitsForNeeds 23 = .ok (.aload_n 0, 1) := by decide +kernel
theorem dX7_waitsForNeeds_24 : decode cX7_waitsForNeeds 24 = .ok (.getfield 36, 3) := by decide +kernel
theorem dX7_waitsForNeeds_27 : decode cX7_waitsForNeeds 27 = .ok (.iload_n 3, 1) := by decide +kernel
theorem dX7_waitsForNeeds_28 : decode cX7_waitsForNeeds 28 = .ok (.iaload, 1) := by decide +kernel
theorem dX7_waitsForNeeds_29 : decode cX7_waitsForNeeds 29 = .ok (.iload_n 2, 1) := by decide +kernel
theorem dX7_waitsForNeeds_30 : decode cX7_waitsForNeeds 30 = .ok (.if_icmp .le 61, 3) := by decide +kernel
theorem dX7_waitsForNeeds_33 : decode cX7_waitsForNeeds 33 = .ok (.aload_n 0, 1) := by decide +kernel
theorem dX7_waitsForNeeds_34 : decode cX7_waitsForNeeds 34 = .ok (.getfield 30, 3) := by decide +kernel
theorem dX7_waitsForNeeds_37 : decode cX7_waitsForNeeds 37 = .ok (.iload_n 3, 1) := by decide +kernel
theorem dX7_waitsForNeeds_38 : decode cX7_waitsForNeeds 38 = .ok (.iaload, 1) := by decide +kernel
theorem dX7_waitsForNeeds_39 : decode cX7_waitsForNeeds 39 = .ok (.iconst (-1), 1) := by decide +kernel
theorem dX7_waitsForNeeds_40 : decode cX7_waitsForNeeds 40 = .ok (.if_icmp .eq 17, 3) := by decide +kernel
theorem dX7_waitsForNeeds_43 : decode cX7_waitsForNeeds 43 = .ok (.aload_n 0, 1) := by decide +kernel
theorem dX7_waitsForNeeds_44 : decode cX7_waitsForNeeds 44 = .ok (.getfield 30, 3) := by decide +kernel
theorem dX7_waitsForNeeds_47 : decode cX7_waitsForNeeds 47 = .ok (.iload_n 3, 1) := by decide +kernel
theorem dX7_waitsForNeeds_48 : decode cX7_waitsForNeeds 48 = .ok (.iaload, 1) := by decide +kernel
theorem dX7_waitsForNeeds_49 : decode cX7_waitsForNeeds 49 = .ok (.iload_n 2, 1) := by decide +kernel
theorem dX7_waitsForNeeds_50 : decode cX7_waitsForNeeds 50 = .ok (.if_icmp .gt 7, 3) := by decide +kernel
theorem dX7_waitsForNeeds_53 : decode cX7_waitsForNeeds 53 = .ok (.iconst 1, 1) := by decide +kernel
theorem dX7_waitsForNeeds_54 : decode cX7_waitsForNeeds 54 = .ok (.goto 4, 3) := by decide +kernel
theorem dX7_waitsForNeeds_57 : decode cX7_waitsForNeeds 57 = .ok (.iconst 0, 1) := by decide +kernel
theorem dX7_waitsForNeeds_58 : decode cX7_waitsForNeeds 58 = .ok (.istore 4, 2) := by decide +kernel
theorem dX7_waitsForNeeds_60 : decode cX7_waitsForNeeds 60 = .ok (.iload 4, 2) := by decide +kernel
theorem dX7_waitsForNeeds_62 : decode cX7_waitsForNeeds 62 = .ok (.ifCond .eq 27, 3) := by decide +kernel
theorem dX7_waitsForNeeds_65 : decode cX7_waitsForNeeds 65 = .ok (.aload_n 0, 1) := by decide +kernel
theorem dX7_waitsForNeeds_66 : decode cX7_waitsForNeeds 66 = .ok (.getfield 33, 3) := by decide +kernel
theorem dX7_waitsForNeeds_69 : decode cX7_waitsForNeeds 69 = .ok (.iload_n 3, 1) := by decide +kernel
theorem dX7_waitsForNeeds_70 : decode cX7_waitsForNeeds 70 = .ok (.iaload, 1) := by decide +kernel
theorem dX7_waitsForNeeds_71 : decode cX7_waitsForNeeds 71 = .ok (.iconst (-1), 1) := by decide +kernel
theorem dX7_waitsForNeeds_72 : decode cX7_waitsForNeeds 72 = .ok (.if_icmp .eq 13, 3) := by decide +kernel
theorem dX7_waitsForNeeds_75 : decode cX7_waitsForNeeds 75 = .ok (.aload_n 0, 1) := by decide +kernel
theorem dX7_waitsForNeeds_76 : decode cX7_waitsForNeeds 76 = .ok (.getfield 33, 3) := by decide +kernel
theorem dX7_waitsForNeeds_79 : decode cX7_waitsForNeeds 79 = .ok (.iload_n 3, 1) := by decide +kernel
theorem dX7_waitsForNeeds_80 : decode cX7_waitsForNeeds 80 = .ok (.iaload, 1) := by decide +kernel
theorem dX7_waitsForNeeds_81 : decode cX7_waitsForNeeds 81 = .ok (.iload_n 2, 1) := by decide +kernel
theorem dX7_waitsForNeeds_82 : decode cX7_waitsForNeeds 82 = .ok (.if_icmp .le 7, 3) := by decide +kernel
theorem dX7_waitsForNeeds_85 : decode cX7_waitsForNeeds 85 = .ok (.iconst 1, 1) := by decide +kernel
theorem dX7_waitsForNeeds_86 : decode cX7_waitsForNeeds 86 = .ok (.goto 4, 3) := by decide +kernel
theorem dX7_waitsForNeeds_89 : decode cX7_waitsForNeeds 89 = .ok (.iconst 0, 1) := by decide +kernel
theorem dX7_waitsForNeeds_90 : decode cX7_waitsForNeeds 90 = .ok (.ireturn, 1) := by decide +kernel
theorem dX7_waitsForNeeds_91 : decode cX7_waitsForNeeds 91 = .ok (.iinc 3 1, 3) := by decide +kernel
theorem dX7_waitsForNeeds_94 : decode cX7_waitsForNeeds 94 = .ok (.goto (-90), 3) := by decide +kernel
theorem dX7_waitsForNeeds_97 : decode cX7_waitsForNeeds 97 = .ok (.iconst 0, 1) := by decide +kernel
theorem dX7_waitsForNeeds_98 : decode cX7_waitsForNeeds 98 = .ok (.ireturn, 1) := by decide +kernel
theorem dX7_finishStage_0 : decode cX7_finishStage 0 = .ok (.aload_n 0, 1) := by decide +kernel
theorem dX7_finishStage_1 : decode cX7_finishStage 1 = .ok (.getfield 36, 3) := by decide +kernel
theorem dX7_finishStage_4 : decode cX7_finishStage 4 = .ok (.iload_n 1, 1) := by decide +kernel
theorem dX7_finishStage_5 : decode cX7_finishStage 5 = .ok (.iconst 3, 1) := by decide +kernel
theorem dX7_finishStage_6 : decode cX7_finishStage 6 = .ok (.imul, 1) := by decide +kernel
theorem dX7_finishStage_7 : decode cX7_finishStage 7 = .ok (.aload_n 0, 1) := by decide +kernel
theorem dX7_finishStage_8 : decode cX7_finishStage 8 = .ok (.getfield 24, 3) := by decide +kernel
theorem dX7_finishStage_11 : decode cX7_finishStage 11 = .ok (.iload_n 1, 1) := by decide +kernel
theorem dX7_finishStage_12 : decode cX7_finishStage 12 = .ok (.iaload, 1) := by decide +kernel
theorem dX7_finishStage_13 : decode cX7_finishStage 13 = .ok (.iadd, 1) := by decide +kernel
theorem dX7_finishStage_14 : decode cX7_finishStage 14 = .ok (.iload_n 2, 1) := by decide +kernel
theorem dX7_finishStage_15 : decode cX7_finishStage 15 = .ok (.iastore, 1) := by decide +kernel
theorem dX7_finishStage_16 : decode cX7_finishStage 16 = .ok (.aload_n 0, 1) := by decide +kernel
theorem dX7_finishStage_17 : decode cX7_finishStage 17 = .ok (.getfield 24, 3) := by decide +kernel
theorem dX7_finishStage_20 : decode cX7_finishStage 20 = .ok (.iload_n 1, 1) := by decide +kernel
theorem dX7_finishStage_21 : decode cX7_finishStage 21 = .ok (.dup2, 1) := by decide +kernel
theorem dX7_finishStage_22 : decode cX7_finishStage 22 = .ok (.iaload, 1) := by decide +kernel
theorem dX7_finishStage_23 : decode cX7_finishStage 23 = .ok (.iconst 1, 1) := by decide +kernel
theorem dX7_finishStage_24 : decode cX7_finishStage 24 = .ok (.iadd, 1) := by decide +kernel
theorem dX7_finishStage_25 : decode cX7_finishStage 25 = .ok (.iastore, 1) := by decide +kernel
theorem dX7_finishStage_26 : decode cX7_finishStage 26 = .ok (.aload_n 0, 1) := by decide +kernel
theorem dX7_finishStage_27 : decode cX7_finishStage 27 = .ok (.getfield 27, 3) := by decide +kernel
theorem dX7_finishStage_30 : decode cX7_finishStage 30 = .ok (.iload_n 1, 1) := by decide +kernel
theorem dX7_finishStage_31 : decode cX7_finishStage 31 = .ok (.iconst (-1), 1) := by decide +kernel
theorem dX7_finishStage_32 : decode cX7_finishStage 32 = .ok (.iastore, 1) := by decide +kernel
theorem dX7_finishStage_33 : decode cX7_finishStage 33 = .ok (.return_, 1) := by decide +kernel
theorem dX8_init_0 : decode cX8_init 0 = .ok (.aload_n 0, 1) := by decide +kernel
theorem dX8_init_1 : decode cX8_init 1 = .ok (.invokespecial 3, 3) := by decide +kernel
theorem dX8_init_4 : decode cX8_init 4 = .ok (.aload_n 0, 1) := by decide +kernel
theorem dX8_init_5 : decode cX8_init 5 = .ok (.iload_n 1, 1) := by decide +kernel
theorem dX8_init_6 : decode cX8_init 6 = .ok (.putfield 9, 3) := by decide +kernel
theorem dX8_init_9 : decode cX8_init 9 = .ok (.aload_n 0, 1) := by decide +kernel
theorem dX8_init_10 : decode cX8_init 10 = .ok (.iload_n 2, 1) := by decide +kernel
theorem dX8_init_11 : decode cX8_init 11 = .ok (.putfield 15, 3) := by decide +kernel
theorem dX8_init_14 : decode cX8_init 14 = .ok (.aload_n 0, 1) := by decide +kernel
theorem dX8_init_15 : decode cX8_init 15 = .ok (.iload_n 1, 1) := by decide +kernel
theorem dX8_init_16 : decode cX8_init 16 = .ok (.iload_n 2, 1) := by decide +kernel
theorem dX8_init_17 : decode cX8_init 17 = .ok (.bipush 8, 2) := by decide +kernel
theorem dX8_init_19 : decode cX8_init 19 = .ok (.invokestatic 18, 3) := by decide +kernel
theorem dX8_init_22 : decode cX8_init 22 = .ok (.imul, 1) := by decide +kernel
theorem dX8_init_23 : decode cX8_init 23 = .ok (.newarray .int, 2) := by decide +kernel
theorem dX8_init_25 : decode cX8_init 25 = .ok (.putfield 24, 3) := by decide +kernel
theorem dX8_init_28 : decode cX8_init 28 = .ok (.return_, 1) := by decide +kernel
theorem dX8_rows_0 : decode cX8_rows 0 = .ok (.aload_n 0, 1) := by decide +kernel
theorem dX8_rows_1 : decode cX8_rows 1 = .ok (.getfield 28, 3) := by decide +kernel
theorem dX8_rows_4 : decode cX8_rows 4 = .ok (.ireturn, 1) := by decide +kernel
theorem dX8_isFull_0 : decode cX8_isFull 0 = .ok (.aload_n 0, 1) := by decide +kernel
theorem dX8_isFull_1 : decode cX8_isFull 1 = .ok (.getfield 28, 3) := by decide +kernel
theorem dX8_isFull_4 : decode cX8_isFull 4 = .ok (.aload_n 0, 1) := by decide +kernel
theorem dX8_isFull_5 : decode cX8_isFull 5 = .ok (.getfield 15, 3) := by decide +kernel
theorem dX8_isFull_8 : decode cX8_isFull 8 = .ok (.if_icmp .lt 7, 3) := by decide +kernel
theorem dX8_isFull_11 : decode cX8_isFull 11 = .ok (.iconst 1, 1) := by decide +kernel
theorem dX8_isFull_12 : decode cX8_isFull 12 = .ok (.goto 4, 3) := by decide +kernel
theorem dX8_isFull_15 : decode cX8_isFull 15 = .ok (.iconst 0, 1) := by decide +kernel
theorem dX8_isFull_16 : decode cX8_isFull 16 = .ok (.ireturn, 1) := by decide +kernel
theorem dX8_at_0 : decode cX8_at 0 = .ok (.iload_n 1, 1) := by decide +kernel
theorem dX8_at_1 : decode cX8_at 1 = .ok (.aload_n 0, 1) := by decide +kernel
theorem dX8_at_2 : decode cX8_at 2 = .ok (.getfield 9, 3) := by decide +kernel
theorem dX8_at_5 : decode cX8_at 5 = .ok (.imul, 1) := by decide +kernel
theorem dX8_at_6 : decode cX8_at 6 = .ok (.iload_n 2, 1) := by decide +kernel
theorem dX8_at_7 : decode cX8_at 7 = .ok (.iadd, 1) := by decide +kernel
theorem dX8_at_8 : decode cX8_at 8 = .ok (.istore_n 3, 1) := by decide +kernel
theorem dX8_at_9 : decode cX8_at 9 = .ok (.iload_n 3, 1) := by decide +kernel
theorem dX8_at_10 : decode cX8_at 10 = .ok (.ifCond .lt 21, 3) := by decide +kernel
theorem dX8_at_13 : decode cX8_at 13 = .ok (.iload_n 3, 1) := by decide +kernel
theorem dX8_at_14 : decode cX8_at 14 = .ok (.aload_n 0, 1) := by decide +kernel
theorem dX8_at_15 : decode cX8_at 15 = .ok (.getfield 24, 3) := by decide +kernel
theorem dX8_at_18 : decode cX8_at 18 = .ok (.arraylength, 1) := by decide +kernel
theorem dX8_at_19 : decode cX8_at 19 = .ok (.if_icmp .ge 12, 3) := by decide +kernel
theorem dX8_at_22 : decode cX8_at 22 = .ok (.aload_n 0, 1) := by decide +kernel
theorem dX8_at_23 : decode cX8_at 23 = .ok (.getfield 24, 3) := by decide +kernel
theorem dX8_at_26 : decode cX8_at 26 = .ok (.iload_n 3, 1) := by decide +kernel
theorem dX8_at_27 : decode cX8_at 27 = .ok (.iaload, 1) := by decide +kernel
theorem dX8_at_28 : decode cX8_at 28 = .ok (.goto 4, 3) := by decide +kernel
theorem dX8_at_31 : decode cX8_at 31 = .ok (.iconst 0, 1) := by decide +kernel
theorem dX8_at_32 : decode cX8_at 32 = .ok (.ireturn, 1) := by decide +kernel
theorem dX8_put_0 : decode cX8_put 0 = .ok (.iload_n 1, 1) := by decide +kernel
theorem dX8_put_1 : decode cX8_put 1 = .ok (.aload_n 0, 1) := by decide +kernel
theorem dX8_put_2 : decode cX8_put 2 = .ok (.getfield 9, 3) := by decide +kernel
theorem dX8_put_5 : decode cX8_put 5 = .ok (.imul, 1) := by decide +kernel
theorem dX8_put_6 : decode cX8_put 6 = .ok (.iload_n 2, 1) := by decide +kernel
theorem dX8_put_7 : decode cX8_put 7 = .ok (.iadd, 1) := by decide +kernel
theorem dX8_put_8 : decode cX8_put 8 = .ok (.istore 4, 2) := by decide +kernel
theorem dX8_put_10 : decode cX8_put 10 = .ok (.iload 4, 2) := by decide +kernel
theorem dX8_put_12 : decode cX8_put 12 = .ok (.ifCond .lt 21, 3) := by decide +kernel
theorem dX8_put_15 : decode cX8_put 15 = .ok (.iload 4, 2) := by decide +kernel
theorem dX8_put_17 : decode cX8_put 17 = .ok (.aload_n 0, 1) := by decide +kernel
theorem dX8_put_18 : decode cX8_put 18 = .ok (.getfield 24, 3) := by decide +kernel
theorem dX8_put_21 : decode cX8_put 21 = .ok (.arraylength, 1) := by decide +kernel
theorem dX8_put_22 : decode cX8_put 22 = .ok (.if_icmp .ge 11, 3) := by decide +kernel
theorem dX8_put_25 : decode cX8_put 25 = .ok (.aload_n 0, 1) := by decide +kernel
theorem dX8_put_26 : decode cX8_put 26 = .ok (.getfield 24, 3) := by decide +kernel
theorem dX8_put_29 : decode cX8_put 29 = .ok (.iload 4, 2) := by decide +kernel
theorem dX8_put_31 : decode cX8_put 31 = .ok (.iload_n 3, 1) := by decide +kernel
theorem dX8_put_32 : decode cX8_put 32 = .ok (.iastore, 1) := by decide +kernel
theorem dX8_put_33 : decode cX8_put 33 = .ok (.return_, 1) := by decide +kernel
theorem dX8_add_0 : decode cX8_add 0 = .ok (.aload_n 0, 1) := by decide +kernel
theorem dX8_add_1 : decode cX8_add 1 = .ok (.getfield 28, 3) := by decide +kernel
theorem dX8_add_4 : decode cX8_add 4 = .ok (.aload_n 0, 1) := by decide +kernel
theorem dX8_add_5 : decode cX8_add 5 = .ok (.getfield 15, 3) := by decide +kernel
theorem dX8_add_8 : decode cX8_add 8 = .ok (.if_icmp .lt 5, 3) := by decide +kernel
theorem dX8_add_11 : decode cX8_add 11 = .ok (.iconst (-1), 1) := by decide +kernel
theorem dX8_add_12 : decode cX8_add 12 = .ok (.ireturn, 1) := by decide +kernel
theorem dX8_add_13 : decode cX8_add 13 = .ok (.aload_n 0, 1) := by decide +kernel
theorem dX8_add_14 : decode cX8_add 14 = .ok (.getfield 28, 3) := by decide +kernel
theorem dX8_add_17 : decode cX8_add 17 = .ok (.iconst 1, 1) := by decide +kernel
theorem dX8_add_18 : decode cX8_add 18 = .ok (.iadd, 1) := by decide +kernel
theorem dX8_add_19 : decode cX8_add 19 = .ok (.aload_n 0, 1) := by decide +kernel
theorem dX8_add_20 : decode cX8_add 20 = .ok (.getfield 9, 3) := by decide +kernel
theorem dX8_add_23 : decode cX8_add 23 = .ok (.imul, 1) := by decide +kernel
theorem dX8_add_24 : decode cX8_add 24 = .ok (.aload_n 0, 1) := by decide +kernel
theorem dX8_add_25 : decode cX8_add 25 = .ok (.getfield 24, 3) := by decide +kernel
theorem dX8_add_28 : decode cX8_add 28 = .ok (.arraylength, 1) := by decide +kernel
theorem dX8_add_29 : decode cX8_add 29 = .ok (.if_icmp .le 34, 3) := by decide +kernel
theorem dX8_add_32 : decode cX8_add 32 = .ok (.aload_n 0, 1) := by decide +kernel
theorem dX8_add_33 : decode cX8_add 33 = .ok (.aload_n 0, 1) := by decide +kernel
theorem dX8_add_34 : decode cX8_add 34 = .ok (.getfield 24, 3) := by decide +kernel
theorem dX8_add_37 : decode cX8_add 37 = .ok (.aload_n 0, 1) := by decide +kernel
theorem dX8_add_38 : decode cX8_add 38 = .ok (.getfield 15, 3) := by decide +kernel
theorem dX8_add_41 : decode cX8_add 41 = .ok (.aload_n 0, 1) := by decide +kernel
theorem dX8_add_42 : decode cX8_add 42 = .ok (.getfield 28, 3) := by decide +kernel
theorem dX8_add_45 : decode cX8_add 45 = .ok (.iconst 1, 1) := by decide +kernel
theorem dX8_add_46 : decode cX8_add 46 = .ok (.iadd, 1) := by decide +kernel
theorem dX8_add_47 : decode cX8_add 47 = .ok (.iconst 2, 1) := by decide +kernel
theorem dX8_add_48 : decode cX8_add 48 = .ok (.imul, 1) := by decide +kernel
theorem dX8_add_49 : decode cX8_add 49 = .ok (.invokestatic 18, 3) := by decide +kernel
theorem dX8_add_52 : decode cX8_add 52 = .ok (.aload_n 0, 1) := by decide +kernel
theorem dX8_add_53 : decode cX8_add 53 = .ok (.getfield 9, 3) := by decide +kernel
theorem dX8_add_56 : decode cX8_add 56 = .ok (.imul, 1) := by decide +kernel
theorem dX8_add_57 : decode cX8_add 57 = .ok (.invokestatic 31, 3) := by decide +kernel
theorem dX8_add_60 : decode cX8_add 60 = .ok (.putfield 24, 3) := by decide +kernel
theorem dX8_add_63 : decode cX8_add 63 = .ok (.aload_n 0, 1) := by decide +kernel
theorem dX8_add_64 : decode cX8_add 64 = .ok (.dup, 1) := by decide +kernel
theorem dX8_add_65 : decode cX8_add 65 = .ok (.getfield 28, 3) := by decide +kernel
theorem dX8_add_68 : decode cX8_add 68 = .ok (.iconst 1, 1) := by decide +kernel
theorem dX8_add_69 : decode cX8_add 69 = .ok (.iadd, 1) := by decide +kernel
theorem dX8_add_70 : decode cX8_add 70 = .ok (.putfield 28, 3) := by decide +kernel
theorem dX8_add_73 : decode cX8_add 73 = .ok (.aload_n 0, 1) := by decide +kernel
theorem dX8_add_74 : decode cX8_add 74 = .ok (.getfield 28, 3) := by decide +kernel
theorem dX8_add_77 : decode cX8_add 77 = .ok (.iconst 1, 1) := by decide +kernel
theorem dX8_add_78 : decode cX8_add 78 = .ok (.isub, 1) := by decide +kernel
theorem dX8_add_79 : decode cX8_add 79 = .ok (.ireturn, 1) := by decide +kernel
theorem dX8_greatest_0 : decode cX8_greatest 0 = .ok (.iconst 0, 1) := by decide +kernel
theorem dX8_greatest_1 : decode cX8_greatest 1 = .ok (.istore_n 3, 1) := by decide +kernel
theorem dX8_greatest_2 : decode cX8_greatest 2 = .ok (.iconst 0, 1) := by decide +kernel
theorem dX8_greatest_3 : decode cX8_greatest 3 = .ok (.istore 4, 2) := by decide +kernel
theorem dX8_greatest_5 : decode cX8_greatest 5 = .ok (.iload 4, 2) := by decide +kernel
theorem dX8_greatest_7 : decode cX8_greatest 7 = .ok (.aload_n 0, 1) := by decide +kernel
theorem dX8_greatest_8 : decode cX8_greatest 8 = .ok (.getfield 28, 3) := by decide +kernel
theorem dX8_greatest_11 : decode cX8_greatest 11 = .ok (.if_icmp .ge 33, 3) := by decide +kernel
theorem dX8_greatest_14 : decode cX8_greatest 14 = .ok (.aload_n 0, 1) := by decide +kernel
theorem dX8_greatest_15 : decode cX8_greatest 15 = .ok (.iload 4, 2) := by decide +kernel
theorem dX8_greatest_17 : decode cX8_greatest 17 = .ok (.iload_n 1, 1) := by decide +kernel
theorem dX8_greatest_18 : decode cX8_greatest 18 = .ok (.invokevirtual 37, 3) := by decide +kernel
theorem dX8_greatest_21 : decode cX8_greatest 21 = .ok (.istore 5, 2) := by decide +kernel
theorem dX8_greatest_23 : decode cX8_greatest 23 = .ok (.iload 5, 2) := by decide +kernel
theorem dX8_greatest_25 : decode cX8_greatest 25 = .ok (.iload_n 2, 1) := by decide +kernel
theorem dX8_greatest_26 : decode cX8_greatest 26 = .ok (.if_icmp .gt 12, 3) := by decide +kernel
theorem dX8_greatest_29 : decode cX8_greatest 29 = .ok (.iload 5, 2) := by decide +kernel
theorem dX8_greatest_31 : decode cX8_greatest 31 = .ok (.iload_n 3, 1) := by decide +kernel
theorem dX8_greatest_32 : decode cX8_greatest 32 = .ok (.if_icmp .le 6, 3) := by decide +kernel
theorem dX8_greatest_35 : decode cX8_greatest 35 = .ok (.iload 5, 2) := by decide +kernel
theorem dX8_greatest_37 : decode cX8_greatest 37 = .ok (.istore_n 3, 1) := by decide +kernel
theorem dX8_greatest_38 : decode cX8_greatest 38 = .ok (.iinc 4 1, 3) := by decide +kernel
theorem dX8_greatest_41 : decode cX8_greatest 41 = .ok (.goto (-36), 3) := by decide +kernel
theorem dX8_greatest_44 : decode cX8_greatest 44 = .ok (.iload_n 3, 1) := by decide +kernel
theorem dX8_greatest_45 : decode cX8_greatest 45 = .ok (.ireturn, 1) := by decide +kernel
theorem dX8_copyFrom_0 : decode cX8_copyFrom 0 = .ok (.aload_n 0, 1) := by decide +kernel
theorem dX8_copyFrom_1 : decode cX8_copyFrom 1 = .ok (.getfield 24, 3) := by decide +kernel
theorem dX8_copyFrom_4 : decode cX8_copyFrom 4 = .ok (.arraylength, 1) := by decide +kernel
theorem dX8_copyFrom_5 : decode cX8_copyFrom 5 = .ok (.aload_n 1, 1) := by decide +kernel
theorem dX8_copyFrom_6 : decode cX8_copyFrom 6 = .ok (.getfield 28, 3) := by decide +kernel
theorem dX8_copyFrom_9 : decode cX8_copyFrom 9 = .ok (.aload_n 0, 1) := by decide +kernel
theorem dX8_copyFrom_10 : decode cX8_copyFrom 10 = .ok (.getfield 9, 3) := by decide +kernel
theorem dX8_copyFrom_13 : decode cX8_copyFrom 13 = .ok (.imul, 1) := by decide +kernel
theorem dX8_copyFrom_14 : decode cX8_copyFrom 14 = .ok (.if_icmp .ge 14, 3) := by decide +kernel
theorem dX8_copyFrom_17 : decode cX8_copyFrom 17 = .ok (.aload_n 0, 1) := by decide +kernel
theorem dX8_copyFrom_18 : decode cX8_copyFrom 18 = .ok (.aload_n 1, 1) := by decide +kernel
theorem dX8_copyFrom_19 : decode cX8_copyFrom 19 = .ok (.getfield 24, 3) := by decide +kernel
theorem dX8_copyFrom_22 : decode cX8_copyFrom 22 = .ok (.arraylength, 1) := by decide +kernel
theorem dX8_copyFrom_23 : decode cX8_copyFrom 23 = .ok (.newarray .int, 2) := by decide +kernel
theorem dX8_copyFrom_25 : decode cX8_copyFrom 25 = .ok (.putfield 24, 3) := by decide +kernel
theorem dX8_copyFrom_28 : decode cX8_copyFrom 28 = .ok (.aload_n 1, 1) := by decide +kernel
theorem dX8_copyFrom_29 : decode cX8_copyFrom 29 = .ok (.getfield 24, 3) := by decide +kernel
theorem dX8_copyFrom_32 : decode cX8_copyFrom 32 = .ok (.iconst 0, 1) := by decide +kernel
theorem dX8_copyFrom_33 : decode cX8_copyFrom 33 = .ok (.aload_n 0, 1) := by decide +kernel
theorem dX8_copyFrom_34 : decode cX8_copyFrom 34 = .ok (.getfield 24, 3) := by decide +kernel
theorem dX8_copyFrom_37 : decode cX8_copyFrom 37 = .ok (.iconst 0, 1) := by decide +kernel
theorem dX8_copyFrom_38 : decode cX8_copyFrom 38 = .ok (.aload_n 1, 1) := by decide +kernel
theorem dX8_copyFrom_39 : decode cX8_copyFrom 39 = .ok (.getfield 28, 3) := by decide +kernel
theorem dX8_copyFrom_42 : decode cX8_copyFrom 42 = .ok (.aload_n 0, 1) := by decide +kernel
theorem dX8_copyFrom_43 : decode cX8_copyFrom 43 = .ok (.getfield 9, 3) := by decide +kernel
theorem dX8_copyFrom_46 : decode cX8_copyFrom 46 = .ok (.imul, 1) := by decide +kernel
theorem dX8_copyFrom_47 : decode cX8_copyFrom 47 = .ok (.invokestatic 40, 3) := by decide +kernel
theorem dX8_copyFrom_50 : decode cX8_copyFrom 50 = .ok (.aload_n 0, 1) := by decide +kernel
theorem dX8_copyFrom_51 : decode cX8_copyFrom 51 = .ok (.aload_n 1, 1) := by decide +kernel
theorem dX8_copyFrom_52 : decode cX8_copyFrom 52 = .ok (.getfield 28, 3) := by decide +kernel
theorem dX8_copyFrom_55 : decode cX8_copyFrom 55 = .ok (.putfield 28, 3) := by decide +kernel
theorem dX8_copyFrom_58 : decode cX8_copyFrom 58 = .ok (.return_, 1) := by decide +kernel
theorem dX9_init_0 : decode cX9_init 0 = .ok (.aload_n 0, 1) := by decide +kernel
theorem dX9_init_1 : decode cX9_init 1 = .ok (.invokespecial 5, 3) := by decide +kernel
theorem dX9_init_4 : decode cX9_init 4 = .ok (.aload_n 0, 1) := by decide +kernel
theorem dX9_init_5 : decode cX9_init 5 = .ok (.bipush 24, 2) := by decide +kernel
theorem dX9_init_7 : decode cX9_init 7 = .ok (.anewarray 11, 3) := by decide +kernel
theorem dX9_init_10 : decode cX9_init 10 = .ok (.putfield 13, 3) := by decide +kernel
theorem dX9_init_13 : decode cX9_init 13 = .ok (.aload_n 0, 1) := by decide +kernel
theorem dX9_init_14 : decode cX9_init 14 = .ok (.new 17, 3) := by decide +kernel
theorem dX9_init_17 : decode cX9_init 17 = .ok (.dup, 1) := by decide +kernel
theorem dX9_init_18 : decode cX9_init 18 = .ok (.iconst 4, 1) := by decide +kernel
theorem dX9_init_19 : decode cX9_init 19 = .ok (.bipush 120, 2) := by decide +kernel
theorem dX9_init_21 : decode cX9_init 21 = .ok (.invokespecial 19, 3) := by decide +kernel
theorem dX9_init_24 : decode cX9_init 24 = .ok (.putfield 22, 3) := by decide +kernel
theorem dX9_init_27 : decode cX9_init 27 = .ok (.aload_n 0, 1) := by decide +kernel
theorem dX9_init_28 : decode cX9_init 28 = .ok (.new 17, 3) := by decide +kernel
theorem dX9_init_31 : decode cX9_init 31 = .ok (.dup, 1) := by decide +kernel
theorem dX9_init_32 : decode cX9_init 32 = .ok (.bipush 8, 2) := by decide +kernel
theorem dX9_init_34 : decode cX9_init 34 = .ok (.bipush 8, 2) := by decide +kernel
theorem dX9_init_36 : decode cX9_init 36 = .ok (.invokespecial 19, 3) := by decide +kernel
theorem dX9_init_39 : decode cX9_init 39 = .ok (.putfield 26, 3) := by decide +kernel
theorem dX9_init_42 : decode cX9_init 42 = .ok (.aload_n 0, 1) := by decide +kernel
theorem dX9_init_43 : decode cX9_init 43 = .ok (.new 17, 3) := by decide +kernel
theorem dX9_init_46 : decode cX9_init 46 = .ok (.dup, 1) := by decide +kernel
theorem dX9_init_47 : decode cX9_init 47 = .ok (.iconst 4, 1) := by decide +kernel
theorem dX9_init_48 : decode cX9_init 48 = .ok (.bipush 60, 2) := by decide +kernel
theorem dX9_init_50 : decode cX9_init 50 = .ok (.invokespecial 19, 3) := by decide +kernel
theorem dX9_init_53 : decode cX9_init 53 = .ok (.putfield 29, 3) := by decide +kernel
theorem dX9_init_56 : decode cX9_init 56 = .ok (.aload_n 0, 1) := by decide +kernel
theorem dX9_init_57 : decode cX9_init 57 = .ok (.new 17, 3) := by decide +kernel
theorem dX9_init_60 : decode cX9_init 60 = .ok (.dup, 1) := by decide +kernel
theorem dX9_init_61 : decode cX9_init 61 = .ok (.iconst 4, 1) := by decide +kernel
theorem dX9_init_62 : decode cX9_init 62 = .ok (.bipush 30, 2) := by decide +kernel
theorem dX9_init_64 : decode cX9_init 64 = .ok (.invokespecial 19, 3) := by decide +kernel
theorem dX9_init_67 : decode cX9_init 67 = .ok (.putfield 32, 3) := by decide +kernel
theorem dX9_init_70 : decode cX9_init 70 = .ok (.aload_n 0, 1) := by decide +kernel
theorem dX9_init_71 : decode cX9_init 71 = .ok (.new 17, 3) := by decide +kernel
theorem dX9_init_74 : decode cX9_init 74 = .ok (.dup, 1) := by decide +kernel
theorem dX9_init_75 : decode cX9_init 75 = .ok (.iconst 3, 1) := by decide +kernel
theorem dX9_init_76 : decode cX9_init 76 = .ok (.bipush 60, 2) := by decide +kernel
theorem dX9_init_78 : decode cX9_init 78 = .ok (.invokespecial 19, 3) := by decide +kernel
theorem dX9_init_81 : decode cX9_init 81 = .ok (.putfield 35, 3) := by decide +kernel
theorem dX9_init_84 : decode cX9_init 84 = .ok (.aload_n 0, 1) := by decide +kernel
theorem dX9_init_85 : decode cX9_init 85 = .ok (.new 17, 3) := by decide +kernel
theorem dX9_init_88 : decode cX9_init 88 = .ok (.dup, 1) := by decide +kernel
theorem dX9_init_89 : decode cX9_init 89 = .ok (.bipush 10, 2) := by decide +kernel
theorem dX9_init_91 : decode cX9_init 91 = .ok (.bipush 60, 2) := by decide +kernel
theorem dX9_init_93 : decode cX9_init 93 = .ok (.invokespecial 19, 3) := by decide +kernel
theorem dX9_init_96 : decode cX9_init 96 = .ok (.putfield 38, 3) := by decide +kernel
theorem dX9_init_99 : decode cX9_init 99 = .ok (.aload_n 0, 1) := by decide +kernel
theorem dX9_init_100 : decode cX9_init 100 = .ok (.new 17, 3) := by decide +kernel
theorem dX9_init_103 : decode cX9_init 103 = .ok (.dup, 1) := by decide +kernel
theorem dX9_init_104 : decode cX9_init 104 = .ok (.iconst 4, 1) := by decide +kernel
theorem dX9_init_105 : decode cX9_init 105 = .ok (.bipush 40, 2) := by decide +kernel
theorem dX9_init_107 : decode cX9_init 107 = .ok (.invokespecial 19, 3) := by decide +kernel
theorem dX9_init_110 : decode cX9_init 110 = .ok (.putfield 41, 3) := by decide +kernel
theorem dX9_init_113 : decode cX9_init 113 = .ok (.aload_n 0, 1) := by decide +kernel
theorem dX9_init_114 : decode cX9_init 114 = .ok (.new 17, 3) := by decide +kernel
theorem dX9_init_117 : decode cX9_init 117 = .ok (.dup, 1) := by decide +kernel
theorem dX9_init_118 : decode cX9_init 118 = .ok (.bipush 7, 2) := by decide +kernel
theorem dX9_init_120 : decode cX9_init 120 = .ok (.sipush 7830, 3) := by decide +kernel
theorem dX9_init_123 : decode cX9_init 123 = .ok (.invokespecial 19, 3) := by decide +kernel
theorem dX9_init_126 : decode cX9_init 126 = .ok (.putfield 44, 3) := by decide +kernel
theorem dX9_init_129 : decode cX9_init 129 = .ok (.aload_n 0, 1) := by decide +kernel
theorem dX9_init_130 : decode cX9_init 130 = .ok (.bipush 120, 2) := by decide +kernel
theorem dX9_init_132 : decode cX9_init 132 = .ok (.newarray .int, 2) := by decide +kernel
theorem dX9_init_134 : decode cX9_init 134 = .ok (.putfield 47, 3) := by decide +kernel
theorem dX9_init_137 : decode cX9_init 137 = .ok (.aload_n 0, 1) := by decide +kernel
theorem dX9_init_138 : decode cX9_init 138 = .ok (.sipush 2400, 3) := by decide +kernel
theorem dX9_init_141 : decode cX9_init 141 = .ok (.newarray .int, 2) := by decide +kernel
theorem dX9_init_143 : decode cX9_init 143 = .ok (.putfield 51, 3) := by decide +kernel
theorem dX9_init_146 : decode cX9_init 146 = .ok (.return_, 1) := by decide +kernel
theorem dX9_tellClaimed_0 : decode cX9_tellClaimed 0 = .ok (.aload_n 0, 1) := by decide +kernel
theorem dX9_tellClaimed_1 : decode cX9_tellClaimed 1 = .ok (.getfield 51, 3) := by decide +kernel
theorem dX9_tellClaimed_4 : decode cX9_tellClaimed 4 = .ok (.iload_n 1, 1) := by decide +kernel
theorem dX9_tellClaimed_5 : decode cX9_tellClaimed 5 = .ok (.aload_n 0, 1) := by decide +kernel
theorem dX9_tellClaimed_6 : decode cX9_tellClaimed 6 = .ok (.getfield 51, 3) := by decide +kernel
theorem dX9_tellClaimed_9 : decode cX9_tellClaimed 9 = .ok (.iload_n 1, 1) := by decide +kernel
theorem dX9_tellClaimed_10 : decode cX9_tellClaimed 10 = .ok (.iaload, 1) := by decide +kernel
theorem dX9_tellClaimed_11 : decode cX9_tellClaimed 11 = .ok (.ldc 54, 2) := by decide +kernel
theorem dX9_tellClaimed_13 : decode cX9_tellClaimed 13 = .ok (.iand, 1) := by decide +kernel
theorem dX9_tellClaimed_14 : decode cX9_tellClaimed 14 = .ok (.iload_n 2, 1) := by decide +kernel
theorem dX9_tellClaimed_15 : decode cX9_tellClaimed 15 = .ok (.ior, 1) := by decide +kernel
theorem dX9_tellClaimed_16 : decode cX9_tellClaimed 16 = .ok (.iastore, 1) := by decide +kernel
theorem dX9_tellClaimed_17 : decode cX9_tellClaimed 17 = .ok (.return_, 1) := by decide +kernel
theorem dX9_tellSeen_0 : decode cX9_tellSeen 0 = .ok (.aload_n 0, 1) := by decide +kernel
theorem dX9_tellSeen_1 : decode cX9_tellSeen 1 = .ok (.getfield 51, 3) := by decide +kernel
theorem dX9_tellSeen_4 : decode cX9_tellSeen 4 = .ok (.iload_n 1, 1) := by decide +kernel
theorem dX9_tellSeen_5 : decode cX9_tellSeen 5 = .ok (.aload_n 0, 1) := by decide +kernel
theorem dX9_tellSeen_6 : decode cX9_tellSeen 6 = .ok (.getfield 51, 3) := by decide +kernel
theorem dX9_tellSeen_9 : decode cX9_tellSeen 9 = .ok (.iload_n 1, 1) := by decide +kernel
theorem dX9_tellSeen_10 : decode cX9_tellSeen 10 = .ok (.iaload, 1) := by decide +kernel
theorem dX9_tellSeen_11 : decode cX9_tellSeen 11 = .ok (.ldc 55, 2) := by decide +kernel
theorem dX9_tellSeen_13 : decode cX9_tellSeen 13 = .ok (.iand, 1) := by decide +kernel
theorem dX9_tellSeen_14 : decode cX9_tellSeen 14 = .ok (.iload_n 2, 1) := by decide +kernel
theorem dX9_tellSeen_15 : decode cX9_tellSeen 15 = .ok (.iconst 1, 1) := by decide +kernel
theorem dX9_tellSeen_16 : decode cX9_tellSeen 16 = .ok (.iadd, 1) := by decide +kernel
theorem dX9_tellSeen_17 : decode cX9_tellSeen 17 = .ok (.bipush 16, 2) := by decide +kernel
theorem dX9_tellSeen_19 : decode cX9_tellSeen 19 = .ok (.ishl, 1) := by decide +kernel
theorem dX9_tellSeen_20 : decode cX9_tellSeen 20 = .ok (.ior, 1) := by decide +kernel
theorem dX9_tellSeen_21 : decode cX9_tellSeen 21 = .ok (.iastore, 1) := by decide +kernel
theorem dX9_tellSeen_22 : decode cX9_tellSeen 22 = .ok (.return_, 1) := by decide +kernel
theorem dX9_claimedIn_0 : decode cX9_claimedIn 0 = .ok (.aload_n 0, 1) := by decide +kernel
theorem dX9_claimedIn_1 : decode cX9_claimedIn 1 = .ok (.getfield 51, 3) := by decide +kernel
theorem dX9_claimedIn_4 : decode cX9_claimedIn 4 = .ok (.iload_n 1, 1) := by decide +kernel
theorem dX9_claimedIn_5 : decode cX9_claimedIn 5 = .ok (.iaload, 1) := by decide +kernel
theorem dX9_claimedIn_6 : decode cX9_claimedIn 6 = .ok (.ldc 55, 2) := by decide +kernel
theorem dX9_claimedIn_8 : decode cX9_claimedIn 8 = .ok (.iand, 1) := by decide +kernel
theorem dX9_claimedIn_9 : decode cX9_claimedIn 9 = .ok (.ireturn, 1) := by decide +kernel
theorem dX9_seenIn_0 : decode cX9_seenIn 0 = .ok (.aload_n 0, 1) := by decide +kernel
theorem dX9_seenIn_1 : decode cX9_seenIn 1 = .ok (.getfield 51, 3) := by decide +kernel
theorem dX9_seenIn_4 : decode cX9_seenIn 4 = .ok (.iload_n 1, 1) := by decide +kernel
theorem dX9_seenIn_5 : decode cX9_seenIn 5 = .ok (.iaload, 1) := by decide +kernel
theorem dX9_seenIn_6 : decode cX9_seenIn 6 = .ok (.bipush 16, 2) := by decide +kernel
theorem dX9_seenIn_8 : decode cX9_seenIn 8 = .ok (.ishr, 1) := by decide +kernel
theorem dX9_seenIn_9 : decode cX9_seenIn 9 = .ok (.iconst 1, 1) := by decide +kernel
theorem dX9_seenIn_10 : decode cX9_seenIn 10 = .ok (.isub, 1) := by decide +kernel
theorem dX9_seenIn_11 : decode cX9_seenIn 11 = .ok (.ireturn, 1) := by decide +kernel
def W_X5_readPlain_0 (X : Sx) (l : Launch) (D : Nat) (x1 : Int32) (σ : AH) (r : Option Value) (σ' : AH) : Prop := E X l m_X5_readPlain D 4 [(0, .ref 22), (1, .int x1), (2, .int (0 : Int32)), (3, .int (0 : Int32))] [] σ r σ'
set_option maxRecDepth 100000 in
theorem w_X5_readPlain_0 {X : Sx} {l : Launch} {D : Nat} {x1 : Int32} {σ : AH} {r : Option Value} {σ' : AH} (hs : Sh σ) (h : W_X5_readPlain_0 X l D x1 σ r σ') : E X l m_X5_readPlain D 0 [(0, .ref 22), (1, .int x1)] [] σ r σ' := by
  unfold W_X5_readPlain_0 at h
  refine E_iconst (0 : Int32) dX5_readPlain_0 (by decide) ?_
  refine E_istore_n [(2, .int (0 : Int32)), (0, .ref 22), (1, .int x1)] dX5_readPlain_1 rfl (by decide) rfl ?_
  refine E_iconst (0 : Int32) dX5_readPlain_2 (by decide) ?_
  refine E_istore_n [(3, .int (0 : Int32)), (2, .int (0 : Int32)), (0, .ref 22), (1, .int x1)] dX5_readPlain_3 rfl (by decide) rfl ?_
  exact E_lv [2, 3, 1, 0] rfl h
def W_X5_readPlain_33 (X : Sx) (l : Launch) (D : Nat) (x1 : Int32) (x3 : Int32) (y0 : Int32) (σ : AH) (r : Option Value) (σ' : AH) : Prop := E X l m_X5_readPlain D 4 [(0, .ref 22), (1, .int x1), (2, .int y0), (3, .int (x3 + 1))] [] σ r σ'
set_option maxRecDepth 100000 in
theorem w_X5_readPlain_33 {X : Sx} {l : Launch} {D : Nat} {x1 : Int32} {x3 : Int32} {y0 : Int32} {σ : AH} {r : Option Value} {σ' : AH} (hs : Sh σ) (h : W_X5_readPlain_33 X l D x1 x3 y0 σ r σ') : E X l m_X5_readPlain D 33 [(0, .ref 22), (1, .int x1), (3, .int x3)] [.int y0] σ r σ' := by
  unfold W_X5_readPlain_33 at h
  refine E_istore_n [(2, .int y0), (0, .ref 22), (1, .int x1), (3, .int x3)] dX5_readPlain_33 rfl (by decide) rfl ?_
  refine E_iinc 3 (x3 + 1) [(3, .int (x3 + 1)), (2, .int y0), (0, .ref 22), (1, .int x1)] dX5_readPlain_34 rfl (congrArg (x3 + ·) (by decide : Int32.ofInt 1 = 1)) (by decide) rfl ?_
  refine E_goto 4 dX5_readPlain_37 (by decide) ?_
  exact E_lv [2, 3, 1, 0] rfl h
def W_X5_readPlain_140 (X : Sx) (l : Launch) (D : Nat) (x2 : Int32) (σ : AH) (r : Option Value) (σ' : AH) : Prop := (if x2 = 0 then (r = some (.int (1 : Int32)) ∧ σ' = σ) else ∃ d64 : Nat, ∃ σ65 : AH, d64 + 1 ≤ D ∧ Call X l m_X5_emit d64 [.ref 22, .int (11 : Int32), .int (0 : Int32)] σ none σ65 ∧ (r = some (.int (1 : Int32)) ∧ σ' = σ65))
set_option maxRecDepth 100000 in
theorem w_X5_readPlain_140 {X : Sx} {l : Launch} {D : Nat} {x2 : Int32} {σ : AH} {r : Option Value} {σ' : AH} (hs : Sh σ) (h : W_X5_readPlain_140 X l D x2 σ r σ') : E X l m_X5_readPlain D 140 [(0, .ref 22), (2, .int x2)] [] σ r σ' := by
  unfold W_X5_readPlain_140 at h
  refine E_iload_n 1 dX5_readPlain_140 rfl rfl ?_
  refine E_if_eq 151 dX5_readPlain_141 (by decide) (fun c => ?_) (fun c => ?_)
  · rw [if_pos c] at h
    refine E_iconst (1 : Int32) dX5_readPlain_151 (by decide) ?_
    obtain ⟨rfl, rfl⟩ := h
    exact E_zret dX5_readPlain_152 rfl (Or.inr rfl)
  · rw [if_neg c] at h
    refine E_aload_n 0 dX5_readPlain_144 rfl rfl ?_
    refine E_bipush (11 : Int32) dX5_readPlain_145 (by decide) ?_
    refine E_iconst (0 : Int32) dX5_readPlain_147 (by decide) ?_
    obtain ⟨d64, σ65, hD66, hC67, h⟩ := h
    have hs68 := hC67.1.2.2.2.1 hs
    refine E_callV (As := [.int (11 : Int32), .int (0 : Int32)]) (rest := []) (r1 := none) (b := 22) dX5_readPlain_148 ok_X5_emit in_X5_emit se_X5_emit ml_X5_114 hD66 rfl rfl (Nat.le_of_ble_eq_true rfl) (sk_22 hs) (sn hs (by decide)) (by decide) rfl (by decide +kernel) hC67 ?_
    refine E_iconst (1 : Int32) dX5_readPlain_151 (by decide) ?_
    obtain ⟨rfl, rfl⟩ := h
    exact E_zret dX5_readPlain_152 rfl (Or.inr rfl)
def W_X5_readPlain_112 (X : Sx) (l : Launch) (D : Nat) (x1 : Int32) (x2 : Int32) (y0 : Int32) (σ : AH) (r : Option Value) (σ' : AH) : Prop := (if y0 = (-1 : Int32) then (r = some (.int (0 : Int32)) ∧ σ' = σ) else ∃ d48 : Nat, ∃ σ49 : AH, d48 + 1 ≤ D ∧ Call X l m_X5_step d48 [.ref 22] σ none σ49 ∧ ∃ d53 : Nat, ∃ v58 : Int32, ∃ σ54 : AH, d53 + 1 ≤ D ∧ Call X l m_X5_readSum d53 [.ref 22, .int x1] σ49 (some (.int v58)) σ54 ∧ (if v58 = 0 then (r = some (.int (0 : Int32)) ∧ σ' = σ54) else ∃ d59 : Nat, ∃ σ60 : AH, d59 + 1 ≤ D ∧ Call X l m_X5_emit d59 [.ref 22, .int y0, .int (0 : Int32)] σ54 none σ60 ∧ W_X5_readPlain_140 X l D x2 σ60 r σ'))
set_option maxRecDepth 100000 in
theorem w_X5_readPlain_112 {X : Sx} {l : Launch} {D : Nat} {x1 : Int32} {x2 : Int32} {y0 : Int32} {σ : AH} {r : Option Value} {σ' : AH} (hs : Sh σ) (h : W_X5_readPlain_112 X l D x1 x2 y0 σ r σ') : E X l m_X5_readPlain D 112 [(0, .ref 22), (1, .int x1), (2, .int x2)] [.int y0] σ r σ' := by
  unfold W_X5_readPlain_112 at h
  refine E_istore_n [(3, .int y0), (0, .ref 22), (1, .int x1), (2, .int x2)] dX5_readPlain_112 rfl (by decide) rfl ?_
  refine E_iload_n 0 dX5_readPlain_113 rfl rfl ?_
  refine E_iconst (-1 : Int32) dX5_readPlain_114 (by decide) ?_
  refine E_icmp_ne 120 dX5_readPlain_115 (by decide) (fun c => ?_) (fun c => ?_)
  · rw [if_neg c] at h
    refine E_aload_n 1 dX5_readPlain_120 rfl rfl ?_
    obtain ⟨d48, σ49, hD50, hC51, h⟩ := h
    have hs52 := hC51.1.2.2.2.1 hs
    refine E_callV (As := []) (rest := []) (r1 := none) (b := 22) dX5_readPlain_121 ok_X5_step in_X5_step se_X5_step ml_X5_43 hD50 rfl rfl (Nat.le_of_ble_eq_true rfl) (sk_22 hs) (sn hs (by decide)) (by decide) rfl (by decide +kernel) hC51 ?_
    refine E_aload_n 1 dX5_readPlain_124 rfl rfl ?_
    refine E_iload_n 2 dX5_readPlain_125 rfl rfl ?_
    obtain ⟨d53, v58, σ54, hD55, hC56, h⟩ := h
    have hs57 := hC56.1.2.2.2.1 hs52
    refine E_callV (As := [.int x1]) (rest := []) (r1 := (some (.int v58))) (b := 22) dX5_readPlain_126 ok_X5_readSum in_X5_readSum se_X5_readSum ml_X5_138 hD55 rfl rfl (Nat.le_of_ble_eq_true rfl) (sk_22 hs52) (sn hs52 (by decide)) (by decide) rfl (by decide +kernel) hC56 ?_
    refine E_if_ne 134 dX5_readPlain_129 (by decide) (fun c => ?_) (fun c => ?_)
    · rw [if_neg c] at h
      refine E_aload_n 1 dX5_readPlain_134 rfl rfl ?_
      refine E_iload_n 0 dX5_readPlain_135 rfl rfl ?_
      refine E_iconst (0 : Int32) dX5_readPlain_136 (by decide) ?_
      obtain ⟨d59, σ60, hD61, hC62, h⟩ := h
      have hs63 := hC62.1.2.2.2.1 hs57
      refine E_callV (As := [.int y0, .int (0 : Int32)]) (rest := []) (r1 := none) (b := 22) dX5_readPlain_137 ok_X5_emit in_X5_emit se_X5_emit ml_X5_114 hD61 rfl rfl (Nat.le_of_ble_eq_true rfl) (sk_22 hs57) (sn hs57 (by decide)) (by decide) rfl (by decide +kernel) hC62 ?_
      exact E_lv [1, 3] rfl (w_X5_readPlain_140 hs63 h)
    · rw [if_pos c] at h
      refine E_iconst (0 : Int32) dX5_readPlain_132 (by decide) ?_
      obtain ⟨rfl, rfl⟩ := h
      exact E_zret dX5_readPlain_133 rfl (Or.inl rfl)
  · rw [if_pos c] at h
    refine E_iconst (0 : Int32) dX5_readPlain_118 (by decide) ?_
    obtain ⟨rfl, rfl⟩ := h
    exact E_zret dX5_readPlain_119 rfl (Or.inl rfl)
def W_X5_readPlain_40 (X : Sx) (l : Launch) (D : Nat) (x1 : Int32) (x2 : Int32) (σ : AH) (r : Option Value) (σ' : AH) : Prop := ∃ d12 : Nat, ∃ v17 : Int32, ∃ σ13 : AH, d12 + 1 ≤ D ∧ Call X l m_X5_isSign d12 [.ref 22, .int (40 : Int32)] σ (some (.int v17)) σ13 ∧ (if v17 = 0 then ∃ d18 : Nat, ∃ v23 : Int32, ∃ σ19 : AH, d18 + 1 ≤ D ∧ Call X l m_X5_readSum d18 [.ref 22, .int x1] σ13 (some (.int v23)) σ19 ∧ (if v23 = 0 then (r = some (.int (0 : Int32)) ∧ σ' = σ19) else ∃ d24 : Nat, ∃ v29 : Int32, ∃ σ25 : AH, d24 + 1 ≤ D ∧ Call X l m_X5_isSign d24 [.ref 22, .int (60 : Int32)] σ19 (some (.int v29)) σ25 ∧ (if v29 = 0 then ∃ d30 : Nat, ∃ v35 : Int32, ∃ σ31 : AH, d30 + 1 ≤ D ∧ Call X l m_X5_isSign d30 [.ref 22, .int (62 : Int32)] σ25 (some (.int v35)) σ31 ∧ (if v35 = 0 then ∃ d36 : Nat, ∃ v41 : Int32, ∃ σ37 : AH, d36 + 1 ≤ D ∧ Call X l m_X5_isSign d36 [.ref 22, .int (61 : Int32)] σ31 (some (.int v41)) σ37 ∧ (if v41 = 0 then W_X5_readPlain_112 X l D x1 x2 (-1 : Int32) σ37 r σ' else W_X5_readPlain_112 X l D x1 x2 (10 : Int32) σ37 r σ') else W_X5_readPlain_112 X l D x1 x2 (9 : Int32) σ31 r σ') else W_X5_readPlain_112 X l D x1 x2 (8 : Int32) σ25 r σ')) else ∃ d42 : Nat, ∃ v47 : Int32, ∃ σ43 : AH, d42 + 1 ≤ D ∧ Call X l m_X5_readBracket d42 [.ref 22, .int x1] σ13 (some (.int v47)) σ43 ∧ (if v47 = 0 then (r = some (.int (0 : Int32)) ∧ σ' = σ43) else W_X5_readPlain_140 X l D x2 σ43 r σ'))
set_option maxRecDepth 100000 in
theorem w_X5_readPlain_40 {X : Sx} {l : Launch} {D : Nat} {x1 : Int32} {x2 : Int32} {σ : AH} {r : Option Value} {σ' : AH} (hs : Sh σ) (h : W_X5_readPlain_40 X l D x1 x2 σ r σ') : E X l m_X5_readPlain D 40 [(0, .ref 22), (1, .int x1), (2, .int x2)] [] σ r σ' := by
  unfold W_X5_readPlain_40 at h
  refine E_aload_n 0 dX5_readPlain_40 rfl rfl ?_
  refine E_bipush (40 : Int32) dX5_readPlain_41 (by decide) ?_
  obtain ⟨d12, v17, σ13, hD14, hC15, h⟩ := h
  have hs16 := hC15.1.2.2.2.1 hs
  refine E_callV (As := [.int (40 : Int32)]) (rest := []) (r1 := (some (.int v17))) (b := 22) dX5_readPlain_43 ok_X5_isSign in_X5_isSign se_X5_isSign ml_X5_77 hD14 rfl rfl (Nat.le_of_ble_eq_true rfl) (sk_22 hs) (sn hs (by decide)) (by decide) rfl (by decide +kernel) hC15 ?_
  refine E_if_eq 59 dX5_readPlain_46 (by decide) (fun c => ?_) (fun c => ?_)
  · rw [if_pos c] at h
    refine E_aload_n 0 dX5_readPlain_59 rfl rfl ?_
    refine E_iload_n 1 dX5_readPlain_60 rfl rfl ?_
    obtain ⟨d18, v23, σ19, hD20, hC21, h⟩ := h
    have hs22 := hC21.1.2.2.2.1 hs16
    refine E_callV (As := [.int x1]) (rest := []) (r1 := (some (.int v23))) (b := 22) dX5_readPlain_61 ok_X5_readSum in_X5_readSum se_X5_readSum ml_X5_138 hD20 rfl rfl (Nat.le_of_ble_eq_true rfl) (sk_22 hs16) (sn hs16 (by decide)) (by decide) rfl (by decide +kernel) hC21 ?_
    refine E_if_ne 69 dX5_readPlain_64 (by decide) (fun c => ?_) (fun c => ?_)
    · rw [if_neg c] at h
      refine E_aload_n 0 dX5_readPlain_69 rfl rfl ?_
      refine E_bipush (60 : Int32) dX5_readPlain_70 (by decide) ?_
      obtain ⟨d24, v29, σ25, hD26, hC27, h⟩ := h
      have hs28 := hC27.1.2.2.2.1 hs22
      refine E_callV (As := [.int (60 : Int32)]) (rest := []) (r1 := (some (.int v29))) (b := 22) dX5_readPlain_72 ok_X5_isSign in_X5_isSign se_X5_isSign ml_X5_77 hD26 rfl rfl (Nat.le_of_ble_eq_true rfl) (sk_22 hs22) (sn hs22 (by decide)) (by decide) rfl (by decide +kernel) hC27 ?_
      refine E_if_eq 83 dX5_readPlain_75 (by decide) (fun c => ?_) (fun c => ?_)
      · rw [if_pos c] at h
        refine E_aload_n 0 dX5_readPlain_83 rfl rfl ?_
        refine E_bipush (62 : Int32) dX5_readPlain_84 (by decide) ?_
        obtain ⟨d30, v35, σ31, hD32, hC33, h⟩ := h
        have hs34 := hC33.1.2.2.2.1 hs28
        refine E_callV (As := [.int (62 : Int32)]) (rest := []) (r1 := (some (.int v35))) (b := 22) dX5_readPlain_86 ok_X5_isSign in_X5_isSign se_X5_isSign ml_X5_77 hD32 rfl rfl (Nat.le_of_ble_eq_true rfl) (sk_22 hs28) (sn hs28 (by decide)) (by decide) rfl (by decide +kernel) hC33 ?_
        refine E_if_eq 97 dX5_readPlain_89 (by decide) (fun c => ?_) (fun c => ?_)
        · rw [if_pos c] at h
          refine E_aload_n 0 dX5_readPlain_97 rfl rfl ?_
          refine E_bipush (61 : Int32) dX5_readPlain_98 (by decide) ?_
          obtain ⟨d36, v41, σ37, hD38, hC39, h⟩ := h
          have hs40 := hC39.1.2.2.2.1 hs34
          refine E_callV (As := [.int (61 : Int32)]) (rest := []) (r1 := (some (.int v41))) (b := 22) dX5_readPlain_100 ok_X5_isSign in_X5_isSign se_X5_isSign ml_X5_77 hD38 rfl rfl (Nat.le_of_ble_eq_true rfl) (sk_22 hs34) (sn hs34 (by decide)) (by decide) rfl (by decide +kernel) hC39 ?_
          refine E_if_eq 111 dX5_readPlain_103 (by decide) (fun c => ?_) (fun c => ?_)
          · rw [if_pos c] at h
            refine E_iconst (-1 : Int32) dX5_readPlain_111 (by decide) ?_
            exact E_lv [0, 1, 2] rfl (w_X5_readPlain_112 hs40 h)
          · rw [if_neg c] at h
            refine E_bipush (10 : Int32) dX5_readPlain_106 (by decide) ?_
            refine E_goto 112 dX5_readPlain_108 (by decide) ?_
            exact E_lv [0, 1, 2] rfl (w_X5_readPlain_112 hs40 h)
        · rw [if_neg c] at h
          refine E_bipush (9 : Int32) dX5_readPlain_92 (by decide) ?_
          refine E_goto 112 dX5_readPlain_94 (by decide) ?_
          exact E_lv [0, 1, 2] rfl (w_X5_readPlain_112 hs34 h)
      · rw [if_neg c] at h
        refine E_bipush (8 : Int32) dX5_readPlain_78 (by decide) ?_
        refine E_goto 112 dX5_readPlain_80 (by decide) ?_
        exact E_lv [0, 1, 2] rfl (w_X5_readPlain_112 hs28 h)
    · rw [if_pos c] at h
      refine E_iconst (0 : Int32) dX5_readPlain_67 (by decide) ?_
      obtain ⟨rfl, rfl⟩ := h
      exact E_zret dX5_readPlain_68 rfl (Or.inl rfl)
  · rw [if_neg c] at h
    refine E_aload_n 0 dX5_readPlain_49 rfl rfl ?_
    refine E_iload_n 1 dX5_readPlain_50 rfl rfl ?_
    obtain ⟨d42, v47, σ43, hD44, hC45, h⟩ := h
    have hs46 := hC45.1.2.2.2.1 hs16
    refine E_callV (As := [.int x1]) (rest := []) (r1 := (some (.int v47))) (b := 22) dX5_readPlain_51 ok_X5_readBracket in_X5_readBracket se_X5_readBracket ml_X5_153 hD44 rfl rfl (Nat.le_of_ble_eq_true rfl) (sk_22 hs16) (sn hs16 (by decide)) (by decide) rfl (by decide +kernel) hC45 ?_
    refine E_if_ne 140 dX5_readPlain_54 (by decide) (fun c => ?_) (fun c => ?_)
    · rw [if_neg c] at h
      exact E_lv [0, 2] rfl (w_X5_readPlain_140 hs46 h)
    · rw [if_pos c] at h
      refine E_iconst (0 : Int32) dX5_readPlain_57 (by decide) ?_
      obtain ⟨rfl, rfl⟩ := h
      exact E_zret dX5_readPlain_58 rfl (Or.inl rfl)
def W_X5_readPlain_4 (X : Sx) (l : Launch) (D : Nat) (x1 : Int32) (x2 : Int32) (x3 : Int32) (σ : AH) (r : Option Value) (σ' : AH) : Prop := (if (400 : Int32) ≤ x3 then W_X5_readPlain_40 X l D x1 x2 σ r σ' else ∃ d1 : Nat, ∃ v6 : Int32, ∃ σ2 : AH, d1 + 1 ≤ D ∧ Call X l m_X5_isWord d1 [.ref 22, .ref (1000001 + 9)] σ (some (.int v6)) σ2 ∧ (if v6 = 0 then W_X5_readPlain_40 X l D x1 x2 σ2 r σ' else ∃ d7 : Nat, ∃ σ8 : AH, d7 + 1 ≤ D ∧ Call X l m_X5_step d7 [.ref 22] σ2 none σ8 ∧ (if x2 = 0 then W_X5_readPlain_33 X l D x1 x3 (1 : Int32) σ8 r σ' else W_X5_readPlain_33 X l D x1 x3 (0 : Int32) σ8 r σ')))
set_option maxRecDepth 100000 in
theorem w_X5_readPlain_4 {X : Sx} {l : Launch} {D : Nat} {x1 : Int32} {x2 : Int32} {x3 : Int32} {σ : AH} {r : Option Value} {σ' : AH} (hs : Sh σ) (h : W_X5_readPlain_4 X l D x1 x2 x3 σ r σ') : E X l m_X5_readPlain D 4 [(0, .ref 22), (1, .int x1), (2, .int x2), (3, .int x3)] [] σ r σ' := by
  unfold W_X5_readPlain_4 at h
  refine E_iload_n 3 dX5_readPlain_4 rfl rfl ?_
  refine E_sipush (400 : Int32) dX5_readPlain_5 (by decide) ?_
  refine E_icmp_ge 40 dX5_readPlain_8 (by decide) (fun c => ?_) (fun c => ?_)
  · rw [if_pos c] at h
    exact E_lv [0, 1, 2] rfl (w_X5_readPlain_40 hs h)
  · rw [if_neg c] at h
    refine E_aload_n 0 dX5_readPlain_11 rfl rfl ?_
    refine E_ldcS 9 (by decide) dX5_readPlain_12 rfl rfl ?_
    obtain ⟨d1, v6, σ2, hD3, hC4, h⟩ := h
    have hs5 := hC4.1.2.2.2.1 hs
    refine E_callV (As := [.ref (1000001 + 9)]) (rest := []) (r1 := (some (.int v6))) (b := 22) dX5_readPlain_14 ok_X5_isWord in_X5_isWord se_X5_isWord ml_X5_99 hD3 rfl rfl (Nat.le_of_ble_eq_true rfl) (sk_22 hs) (sn hs (by decide)) (by decide) rfl (by decide +kernel) hC4 ?_
    refine E_if_eq 40 dX5_readPlain_17 (by decide) (fun c => ?_) (fun c => ?_)
    · rw [if_pos c] at h
      exact E_lv [0, 1, 2] rfl (w_X5_readPlain_40 hs5 h)
    · rw [if_neg c] at h
      refine E_aload_n 0 dX5_readPlain_20 rfl rfl ?_
      obtain ⟨d7, σ8, hD9, hC10, h⟩ := h
      have hs11 := hC10.1.2.2.2.1 hs5
      refine E_callV (As := []) (rest := []) (r1 := none) (b := 22) dX5_readPlain_21 ok_X5_step in_X5_step se_X5_step ml_X5_43 hD9 rfl rfl (Nat.le_of_ble_eq_true rfl) (sk_22 hs5) (sn hs5 (by decide)) (by decide) rfl (by decide +kernel) hC10 ?_
      refine E_iload_n 2 dX5_readPlain_24 rfl rfl ?_
      refine E_if_ne 32 dX5_readPlain_25 (by decide) (fun c => ?_) (fun c => ?_)
      · rw [if_neg c] at h
        refine E_iconst (0 : Int32) dX5_readPlain_32 (by decide) ?_
        exact E_lv [0, 1, 3] rfl (w_X5_readPlain_33 hs11 h)
      · rw [if_pos c] at h
        refine E_iconst (1 : Int32) dX5_readPlain_28 (by decide) ?_
        refine E_goto 33 dX5_readPlain_29 (by decide) ?_
        exact E_lv [0, 1, 3] rfl (w_X5_readPlain_33 hs11 h)
def W_X5_readBracket_0 (X : Sx) (l : Launch) (D : Nat) (x1 : Int32) (σ : AH) (r : Option Value) (σ' : AH) : Prop := (if x1 < (8 : Int32) then ∃ d1 : Nat, ∃ σ2 : AH, d1 + 1 ≤ D ∧ Call X l m_X5_step d1 [.ref 22] σ none σ2 ∧ ∃ d6 : Nat, ∃ v11 : Int32, ∃ σ7 : AH, d6 + 1 ≤ D ∧ Call X l m_X5_readTest d6 [.ref 22, .int (x1 + (1 : Int32))] σ2 (some (.int v11)) σ7 ∧ (if v11 = 0 then (r = some (.int (0 : Int32)) ∧ σ' = σ7) else ∃ d12 : Nat, ∃ v17 : Int32, ∃ σ13 : AH, d12 + 1 ≤ D ∧ Call X l m_X5_takeSign d12 [.ref 22, .int (41 : Int32)] σ7 (some (.int v17)) σ13 ∧ (if v17 = 0 then (r = some (.int (0 : Int32)) ∧ σ' = σ13) else (r = some (.int (1 : Int32)) ∧ σ' = σ13))) else (r = some (.int (0 : Int32)) ∧ σ' = σ))
set_option maxRecDepth 100000 in
theorem w_X5_readBracket_0 {X : Sx} {l : Launch} {D : Nat} {x1 : Int32} {σ : AH} {r : Option Value} {σ' : AH} (hs : Sh σ) (h : W_X5_readBracket_0 X l D x1 σ r σ') : E X l m_X5_readBracket D 0 [(0, .ref 22), (1, .int x1)] [] σ r σ' := by
  unfold W_X5_readBracket_0 at h
  refine E_iload_n 1 dX5_readBracket_0 rfl rfl ?_
  refine E_bipush (8 : Int32) dX5_readBracket_1 (by decide) ?_
  refine E_icmp_lt 8 dX5_readBracket_3 (by decide) (fun c => ?_) (fun c => ?_)
  · rw [if_pos c] at h
    refine E_aload_n 0 dX5_readBracket_8 rfl rfl ?_
    obtain ⟨d1, σ2, hD3, hC4, h⟩ := h
    have hs5 := hC4.1.2.2.2.1 hs
    refine E_callV (As := []) (rest := []) (r1 := none) (b := 22) dX5_readBracket_9 ok_X5_step in_X5_step se_X5_step ml_X5_43 hD3 rfl rfl (Nat.le_of_ble_eq_true rfl) (sk_22 hs) (sn hs (by decide)) (by decide) rfl (by decide +kernel) hC4 ?_
    refine E_aload_n 0 dX5_readBracket_12 rfl rfl ?_
    refine E_iload_n 1 dX5_readBracket_13 rfl rfl ?_
    refine E_iconst (1 : Int32) dX5_readBracket_14 (by decide) ?_
    refine E_iadd dX5_readBracket_15 ?_
    obtain ⟨d6, v11, σ7, hD8, hC9, h⟩ := h
    have hs10 := hC9.1.2.2.2.1 hs5
    refine E_callV (As := [.int (x1 + (1 : Int32))]) (rest := []) (r1 := (some (.int v11))) (b := 22) dX5_readBracket_16 ok_X5_readTest in_X5_readTest se_X5_readTest ml_X5_111 hD8 rfl rfl (Nat.le_of_ble_eq_true rfl) (sk_22 hs5) (sn hs5 (by decide)) (by decide) rfl (by decide +kernel) hC9 ?_
    refine E_if_eq 35 dX5_readBracket_19 (by decide) (fun c => ?_) (fun c => ?_)
    · rw [if_pos c] at h
      refine E_iconst (0 : Int32) dX5_readBracket_35 (by decide) ?_
      obtain ⟨rfl, rfl⟩ := h
      exact E_zret dX5_readBracket_36 rfl (Or.inl rfl)
    · rw [if_neg c] at h
      refine E_aload_n 0 dX5_readBracket_22 rfl rfl ?_
      refine E_bipush (41 : Int32) dX5_readBracket_23 (by decide) ?_
      obtain ⟨d12, v17, σ13, hD14, hC15, h⟩ := h
      have hs16 := hC15.1.2.2.2.1 hs10
      refine E_callV (As := [.int (41 : Int32)]) (rest := []) (r1 := (some (.int v17))) (b := 22) dX5_readBracket_25 ok_X5_takeSign in_X5_takeSign se_X5_takeSign ml_X5_53 hD14 rfl rfl (Nat.le_of_ble_eq_true rfl) (sk_22 hs10) (sn hs10 (by decide)) (by decide) rfl (by decide +kernel) hC15 ?_
      refine E_if_eq 35 dX5_readBracket_28 (by decide) (fun c => ?_) (fun c => ?_)
      · rw [if_pos c] at h
        refine E_iconst (0 : Int32) dX5_readBracket_35 (by decide) ?_
        obtain ⟨rfl, rfl⟩ := h
        exact E_zret dX5_readBracket_36 rfl (Or.inl rfl)
      · rw [if_neg c] at h
        refine E_iconst (1 : Int32) dX5_readBracket_31 (by decide) ?_
        refine E_goto 36 dX5_readBracket_32 (by decide) ?_
        obtain ⟨rfl, rfl⟩ := h
        exact E_zret dX5_readBracket_36 rfl (Or.inr rfl)
  · rw [if_neg c] at h
    refine E_iconst (0 : Int32) dX5_readBracket_6 (by decide) ?_
    obtain ⟨rfl, rfl⟩ := h
    exact E_zret dX5_readBracket_7 rfl (Or.inl rfl)
def W_X5_readSum_0 (X : Sx) (l : Launch) (D : Nat) (x1 : Int32) (σ : AH) (r : Option Value) (σ' : AH) : Prop := ∃ d1 : Nat, ∃ v6 : Int32, ∃ σ2 : AH, d1 + 1 ≤ D ∧ Call X l m_X5_readTerm d1 [.ref 22, .int x1] σ (some (.int v6)) σ2 ∧ (if v6 = 0 then (r = some (.int (0 : Int32)) ∧ σ' = σ2) else E X l m_X5_readSum D 12 [(0, .ref 22), (1, .int x1), (2, .int (0 : Int32))] [] σ2 r σ')
set_option maxRecDepth 100000 in
theorem w_X5_readSum_0 {X : Sx} {l : Launch} {D : Nat} {x1 : Int32} {σ : AH} {r : Option Value} {σ' : AH} (hs : Sh σ) (h : W_X5_readSum_0 X l D x1 σ r σ') : E X l m_X5_readSum D 0 [(0, .ref 22), (1, .int x1)] [] σ r σ' := by
  unfold W_X5_readSum_0 at h
  refine E_aload_n 0 dX5_readSum_0 rfl rfl ?_
  refine E_iload_n 1 dX5_readSum_1 rfl rfl ?_
  obtain ⟨d1, v6, σ2, hD3, hC4, h⟩ := h
  have hs5 := hC4.1.2.2.2.1 hs
  refine E_callV (As := [.int x1]) (rest := []) (r1 := (some (.int v6))) (b := 22) dX5_readSum_2 ok_X5_readTerm in_X5_readTerm se_X5_readTerm ml_X5_156 hD3 rfl rfl (Nat.le_of_ble_eq_true rfl) (sk_22 hs) (sn hs (by decide)) (by decide) rfl (by decide +kernel) hC4 ?_
  refine E_if_ne 10 dX5_readSum_5 (by decide) (fun c => ?_) (fun c => ?_)
  · rw [if_neg c] at h
    refine E_iconst (0 : Int32) dX5_readSum_10 (by decide) ?_
    refine E_istore_n [(2, .int (0 : Int32)), (0, .ref 22), (1, .int x1)] dX5_readSum_11 rfl (by decide) rfl ?_
    exact E_lv [1, 2, 0] rfl h
  · rw [if_pos c] at h
    refine E_iconst (0 : Int32) dX5_readSum_8 (by decide) ?_
    obtain ⟨rfl, rfl⟩ := h
    exact E_zret dX5_readSum_9 rfl (Or.inl rfl)
def W_X5_readSum_51 (X : Sx) (l : Launch) (D : Nat) (x1 : Int32) (x2 : Int32) (y0 : Int32) (σ : AH) (r : Option Value) (σ' : AH) : Prop := ∃ d25 : Nat, ∃ σ26 : AH, d25 + 1 ≤ D ∧ Call X l m_X5_step d25 [.ref 22] σ none σ26 ∧ ∃ d30 : Nat, ∃ v35 : Int32, ∃ σ31 : AH, d30 + 1 ≤ D ∧ Call X l m_X5_readTerm d30 [.ref 22, .int x1] σ26 (some (.int v35)) σ31 ∧ (if v35 = 0 then (r = some (.int (0 : Int32)) ∧ σ' = σ31) else ∃ d36 : Nat, ∃ σ37 : AH, d36 + 1 ≤ D ∧ Call X l m_X5_emit d36 [.ref 22, .int y0, .int (0 : Int32)] σ31 none σ37 ∧ E X l m_X5_readSum D 12 [(0, .ref 22), (1, .int x1), (2, .int (x2 + 1))] [] σ37 r σ')
set_option maxRecDepth 100000 in
theorem w_X5_readSum_51 {X : Sx} {l : Launch} {D : Nat} {x1 : Int32} {x2 : Int32} {y0 : Int32} {σ : AH} {r : Option Value} {σ' : AH} (hs : Sh σ) (h : W_X5_readSum_51 X l D x1 x2 y0 σ r σ') : E X l m_X5_readSum D 51 [(0, .ref 22), (1, .int x1), (2, .int x2)] [.int y0] σ r σ' := by
  unfold W_X5_readSum_51 at h
  refine E_istore_n [(3, .int y0), (0, .ref 22), (1, .int x1), (2, .int x2)] dX5_readSum_51 rfl (by decide) rfl ?_
  refine E_aload_n 1 dX5_readSum_52 rfl rfl ?_
  obtain ⟨d25, σ26, hD27, hC28, h⟩ := h
  have hs29 := hC28.1.2.2.2.1 hs
  refine E_callV (As := []) (rest := []) (r1 := none) (b := 22) dX5_readSum_53 ok_X5_step in_X5_step se_X5_step ml_X5_43 hD27 rfl rfl (Nat.le_of_ble_eq_true rfl) (sk_22 hs) (sn hs (by decide)) (by decide) rfl (by decide +kernel) hC28 ?_
  refine E_aload_n 1 dX5_readSum_56 rfl rfl ?_
  refine E_iload_n 2 dX5_readSum_57 rfl rfl ?_
  obtain ⟨d30, v35, σ31, hD32, hC33, h⟩ := h
  have hs34 := hC33.1.2.2.2.1 hs29
  refine E_callV (As := [.int x1]) (rest := []) (r1 := (some (.int v35))) (b := 22) dX5_readSum_58 ok_X5_readTerm in_X5_readTerm se_X5_readTerm ml_X5_156 hD32 rfl rfl (Nat.le_of_ble_eq_true rfl) (sk_22 hs29) (sn hs29 (by decide)) (by decide) rfl (by decide +kernel) hC33 ?_
  refine E_if_ne 66 dX5_readSum_61 (by decide) (fun c => ?_) (fun c => ?_)
  · rw [if_neg c] at h
    refine E_aload_n 1 dX5_readSum_66 rfl rfl ?_
    refine E_iload_n 0 dX5_readSum_67 rfl rfl ?_
    refine E_iconst (0 : Int32) dX5_readSum_68 (by decide) ?_
    obtain ⟨d36, σ37, hD38, hC39, h⟩ := h
    have hs40 := hC39.1.2.2.2.1 hs34
    refine E_callV (As := [.int y0, .int (0 : Int32)]) (rest := []) (r1 := none) (b := 22) dX5_readSum_69 ok_X5_emit in_X5_emit se_X5_emit ml_X5_114 hD38 rfl rfl (Nat.le_of_ble_eq_true rfl) (sk_22 hs34) (sn hs34 (by decide)) (by decide) rfl (by decide +kernel) hC39 ?_
    refine E_iinc 3 (x2 + 1) [(2, .int (x2 + 1)), (3, .int y0), (0, .ref 22), (1, .int x1)] dX5_readSum_72 rfl (congrArg (x2 + ·) (by decide : Int32.ofInt 1 = 1)) (by decide) rfl ?_
    refine E_goto 12 dX5_readSum_75 (by decide) ?_
    exact E_lv [2, 3, 0] rfl h
  · rw [if_pos c] at h
    refine E_iconst (0 : Int32) dX5_readSum_64 (by decide) ?_
    obtain ⟨rfl, rfl⟩ := h
    exact E_zret dX5_readSum_65 rfl (Or.inl rfl)
def W_X5_readSum_37 (X : Sx) (l : Launch) (D : Nat) (x1 : Int32) (x2 : Int32) (σ : AH) (r : Option Value) (σ' : AH) : Prop := ∃ d19 : Nat, ∃ v24 : Int32, ∃ σ20 : AH, d19 + 1 ≤ D ∧ Call X l m_X5_isSign d19 [.ref 22, .int (43 : Int32)] σ (some (.int v24)) σ20 ∧ (if v24 = 0 then W_X5_readSum_51 X l D x1 x2 (3 : Int32) σ20 r σ' else W_X5_readSum_51 X l D x1 x2 (2 : Int32) σ20 r σ')
set_option maxRecDepth 100000 in
theorem w_X5_readSum_37 {X : Sx} {l : Launch} {D : Nat} {x1 : Int32} {x2 : Int32} {σ : AH} {r : Option Value} {σ' : AH} (hs : Sh σ) (h : W_X5_readSum_37 X l D x1 x2 σ r σ') : E X l m_X5_readSum D 37 [(0, .ref 22), (1, .int x1), (2, .int x2)] [] σ r σ' := by
  unfold W_X5_readSum_37 at h
  refine E_aload_n 0 dX5_readSum_37 rfl rfl ?_
  refine E_bipush (43 : Int32) dX5_readSum_38 (by decide) ?_
  obtain ⟨d19, v24, σ20, hD21, hC22, h⟩ := h
  have hs23 := hC22.1.2.2.2.1 hs
  refine E_callV (As := [.int (43 : Int32)]) (rest := []) (r1 := (some (.int v24))) (b := 22) dX5_readSum_40 ok_X5_isSign in_X5_isSign se_X5_isSign ml_X5_77 hD21 rfl rfl (Nat.le_of_ble_eq_true rfl) (sk_22 hs) (sn hs (by decide)) (by decide) rfl (by decide +kernel) hC22 ?_
  refine E_if_eq 50 dX5_readSum_43 (by decide) (fun c => ?_) (fun c => ?_)
  · rw [if_pos c] at h
    refine E_iconst (3 : Int32) dX5_readSum_50 (by decide) ?_
    exact E_lv [0, 1, 2] rfl (w_X5_readSum_51 hs23 h)
  · rw [if_neg c] at h
    refine E_iconst (2 : Int32) dX5_readSum_46 (by decide) ?_
    refine E_goto 51 dX5_readSum_47 (by decide) ?_
    exact E_lv [0, 1, 2] rfl (w_X5_readSum_51 hs23 h)
def W_X5_readSum_12 (X : Sx) (l : Launch) (D : Nat) (x1 : Int32) (x2 : Int32) (σ : AH) (r : Option Value) (σ' : AH) : Prop := (if (400 : Int32) ≤ x2 then (r = some (.int (1 : Int32)) ∧ σ' = σ) else ∃ d7 : Nat, ∃ v12 : Int32, ∃ σ8 : AH, d7 + 1 ≤ D ∧ Call X l m_X5_isSign d7 [.ref 22, .int (43 : Int32)] σ (some (.int v12)) σ8 ∧ (if v12 = 0 then ∃ d13 : Nat, ∃ v18 : Int32, ∃ σ14 : AH, d13 + 1 ≤ D ∧ Call X l m_X5_isSign d13 [.ref 22, .int (45 : Int32)] σ8 (some (.int v18)) σ14 ∧ (if v18 = 0 then (r = some (.int (1 : Int32)) ∧ σ' = σ14) else W_X5_readSum_37 X l D x1 x2 σ14 r σ') else W_X5_readSum_37 X l D x1 x2 σ8 r σ'))
set_option maxRecDepth 100000 in
theorem w_X5_readSum_12 {X : Sx} {l : Launch} {D : Nat} {x1 : Int32} {x2 : Int32} {σ : AH} {r : Option Value} {σ' : AH} (hs : Sh σ) (h : W_X5_readSum_12 X l D x1 x2 σ r σ') : E X l m_X5_readSum D 12 [(0, .ref 22), (1, .int x1), (2, .int x2)] [] σ r σ' := by
  unfold W_X5_readSum_12 at h
  refine E_iload_n 2 dX5_readSum_12 rfl rfl ?_
  refine E_sipush (400 : Int32) dX5_readSum_13 (by decide) ?_
  refine E_icmp_ge 78 dX5_readSum_16 (by decide) (fun c => ?_) (fun c => ?_)
  · rw [if_pos c] at h
    refine E_iconst (1 : Int32) dX5_readSum_78 (by decide) ?_
    obtain ⟨rfl, rfl⟩ := h
    exact E_zret dX5_readSum_79 rfl (Or.inr rfl)
  · rw [if_neg c] at h
    refine E_aload_n 0 dX5_readSum_19 rfl rfl ?_
    refine E_bipush (43 : Int32) dX5_readSum_20 (by decide) ?_
    obtain ⟨d7, v12, σ8, hD9, hC10, h⟩ := h
    have hs11 := hC10.1.2.2.2.1 hs
    refine E_callV (As := [.int (43 : Int32)]) (rest := []) (r1 := (some (.int v12))) (b := 22) dX5_readSum_22 ok_X5_isSign in_X5_isSign se_X5_isSign ml_X5_77 hD9 rfl rfl (Nat.le_of_ble_eq_true rfl) (sk_22 hs) (sn hs (by decide)) (by decide) rfl (by decide +kernel) hC10 ?_
    refine E_if_ne 37 dX5_readSum_25 (by decide) (fun c => ?_) (fun c => ?_)
    · rw [if_neg c] at h
      exact E_lv [0, 1, 2] rfl (w_X5_readSum_37 hs11 h)
    · rw [if_pos c] at h
      refine E_aload_n 0 dX5_readSum_28 rfl rfl ?_
      refine E_bipush (45 : Int32) dX5_readSum_29 (by decide) ?_
      obtain ⟨d13, v18, σ14, hD15, hC16, h⟩ := h
      have hs17 := hC16.1.2.2.2.1 hs11
      refine E_callV (As := [.int (45 : Int32)]) (rest := []) (r1 := (some (.int v18))) (b := 22) dX5_readSum_31 ok_X5_isSign in_X5_isSign se_X5_isSign ml_X5_77 hD15 rfl rfl (Nat.le_of_ble_eq_true rfl) (sk_22 hs11) (sn hs11 (by decide)) (by decide) rfl (by decide +kernel) hC16 ?_
      refine E_if_eq 78 dX5_readSum_34 (by decide) (fun c => ?_) (fun c => ?_)
      · rw [if_pos c] at h
        refine E_iconst (1 : Int32) dX5_readSum_78 (by decide) ?_
        obtain ⟨rfl, rfl⟩ := h
        exact E_zret dX5_readSum_79 rfl (Or.inr rfl)
      · rw [if_neg c] at h
        exact E_lv [0, 1, 2] rfl (w_X5_readSum_37 hs17 h)
def W_X5_readTerm_0 (X : Sx) (l : Launch) (D : Nat) (x1 : Int32) (σ : AH) (r : Option Value) (σ' : AH) : Prop := ∃ d1 : Nat, ∃ v6 : Int32, ∃ σ2 : AH, d1 + 1 ≤ D ∧ Call X l m_X5_readPart d1 [.ref 22, .int x1] σ (some (.int v6)) σ2 ∧ (if v6 = 0 then (r = some (.int (0 : Int32)) ∧ σ' = σ2) else E X l m_X5_readTerm D 12 [(0, .ref 22), (1, .int x1), (2, .int (0 : Int32))] [] σ2 r σ')
set_option maxRecDepth 100000 in
theorem w_X5_readTerm_0 {X : Sx} {l : Launch} {D : Nat} {x1 : Int32} {σ : AH} {r : Option Value} {σ' : AH} (hs : Sh σ) (h : W_X5_readTerm_0 X l D x1 σ r σ') : E X l m_X5_readTerm D 0 [(0, .ref 22), (1, .int x1)] [] σ r σ' := by
  unfold W_X5_readTerm_0 at h
  refine E_aload_n 0 dX5_readTerm_0 rfl rfl ?_
  refine E_iload_n 1 dX5_readTerm_1 rfl rfl ?_
  obtain ⟨d1, v6, σ2, hD3, hC4, h⟩ := h
  have hs5 := hC4.1.2.2.2.1 hs
  refine E_callV (As := [.int x1]) (rest := []) (r1 := (some (.int v6))) (b := 22) dX5_readTerm_2 ok_X5_readPart in_X5_readPart se_X5_readPart ml_X5_159 hD3 rfl rfl (Nat.le_of_ble_eq_true rfl) (sk_22 hs) (sn hs (by decide)) (by decide) rfl (by decide +kernel) hC4 ?_
  refine E_if_ne 10 dX5_readTerm_5 (by decide) (fun c => ?_) (fun c => ?_)
  · rw [if_neg c] at h
    refine E_iconst (0 : Int32) dX5_readTerm_10 (by decide) ?_
    refine E_istore_n [(2, .int (0 : Int32)), (0, .ref 22), (1, .int x1)] dX5_readTerm_11 rfl (by decide) rfl ?_
    exact E_lv [1, 2, 0] rfl h
  · rw [if_pos c] at h
    refine E_iconst (0 : Int32) dX5_readTerm_8 (by decide) ?_
    obtain ⟨rfl, rfl⟩ := h
    exact E_zret dX5_readTerm_9 rfl (Or.inl rfl)
def W_X5_readTerm_51 (X : Sx) (l : Launch) (D : Nat) (x1 : Int32) (x2 : Int32) (y0 : Int32) (σ : AH) (r : Option Value) (σ' : AH) : Prop := ∃ d25 : Nat, ∃ σ26 : AH, d25 + 1 ≤ D ∧ Call X l m_X5_step d25 [.ref 22] σ none σ26 ∧ ∃ d30 : Nat, ∃ v35 : Int32, ∃ σ31 : AH, d30 + 1 ≤ D ∧ Call X l m_X5_readPart d30 [.ref 22, .int x1] σ26 (some (.int v35)) σ31 ∧ (if v35 = 0 then (r = some (.int (0 : Int32)) ∧ σ' = σ31) else ∃ d36 : Nat, ∃ σ37 : AH, d36 + 1 ≤ D ∧ Call X l m_X5_emit d36 [.ref 22, .int y0, .int (0 : Int32)] σ31 none σ37 ∧ E X l m_X5_readTerm D 12 [(0, .ref 22), (1, .int x1), (2, .int (x2 + 1))] [] σ37 r σ')
set_option maxRecDepth 100000 in
theorem w_X5_readTerm_51 {X : Sx} {l : Launch} {D : Nat} {x1 : Int32} {x2 : Int32} {y0 : Int32} {σ : AH} {r : Option Value} {σ' : AH} (hs : Sh σ) (h : W_X5_readTerm_51 X l D x1 x2 y0 σ r σ') : E X l m_X5_readTerm D 51 [(0, .ref 22), (1, .int x1), (2, .int x2)] [.int y0] σ r σ' := by
  unfold W_X5_readTerm_51 at h
  refine E_istore_n [(3, .int y0), (0, .ref 22), (1, .int x1), (2, .int x2)] dX5_readTerm_51 rfl (by decide) rfl ?_
  refine E_aload_n 1 dX5_readTerm_52 rfl rfl ?_
  obtain ⟨d25, σ26, hD27, hC28, h⟩ := h
  have hs29 := hC28.1.2.2.2.1 hs
  refine E_callV (As := []) (rest := []) (r1 := none) (b := 22) dX5_readTerm_53 ok_X5_step in_X5_step se_X5_step ml_X5_43 hD27 rfl rfl (Nat.le_of_ble_eq_true rfl) (sk_22 hs) (sn hs (by decide)) (by decide) rfl (by decide +kernel) hC28 ?_
  refine E_aload_n 1 dX5_readTerm_56 rfl rfl ?_
  refine E_iload_n 2 dX5_readTerm_57 rfl rfl ?_
  obtain ⟨d30, v35, σ31, hD32, hC33, h⟩ := h
  have hs34 := hC33.1.2.2.2.1 hs29
  refine E_callV (As := [.int x1]) (rest := []) (r1 := (some (.int v35))) (b := 22) dX5_readTerm_58 ok_X5_readPart in_X5_readPart se_X5_readPart ml_X5_159 hD32 rfl rfl (Nat.le_of_ble_eq_true rfl) (sk_22 hs29) (sn hs29 (by decide)) (by decide) rfl (by decide +kernel) hC33 ?_
  refine E_if_ne 66 dX5_readTerm_61 (by decide) (fun c => ?_) (fun c => ?_)
  · rw [if_neg c] at h
    refine E_aload_n 1 dX5_readTerm_66 rfl rfl ?_
    refine E_iload_n 0 dX5_readTerm_67 rfl rfl ?_
    refine E_iconst (0 : Int32) dX5_readTerm_68 (by decide) ?_
    obtain ⟨d36, σ37, hD38, hC39, h⟩ := h
    have hs40 := hC39.1.2.2.2.1 hs34
    refine E_callV (As := [.int y0, .int (0 : Int32)]) (rest := []) (r1 := none) (b := 22) dX5_readTerm_69 ok_X5_emit in_X5_emit se_X5_emit ml_X5_114 hD38 rfl rfl (Nat.le_of_ble_eq_true rfl) (sk_22 hs34) (sn hs34 (by decide)) (by decide) rfl (by decide +kernel) hC39 ?_
    refine E_iinc 3 (x2 + 1) [(2, .int (x2 + 1)), (3, .int y0), (0, .ref 22), (1, .int x1)] dX5_readTerm_72 rfl (congrArg (x2 + ·) (by decide : Int32.ofInt 1 = 1)) (by decide) rfl ?_
    refine E_goto 12 dX5_readTerm_75 (by decide) ?_
    exact E_lv [2, 3, 0] rfl h
  · rw [if_pos c] at h
    refine E_iconst (0 : Int32) dX5_readTerm_64 (by decide) ?_
    obtain ⟨rfl, rfl⟩ := h
    exact E_zret dX5_readTerm_65 rfl (Or.inl rfl)
def W_X5_readTerm_37 (X : Sx) (l : Launch) (D : Nat) (x1 : Int32) (x2 : Int32) (σ : AH) (r : Option Value) (σ' : AH) : Prop := ∃ d19 : Nat, ∃ v24 : Int32, ∃ σ20 : AH, d19 + 1 ≤ D ∧ Call X l m_X5_isSign d19 [.ref 22, .int (42 : Int32)] σ (some (.int v24)) σ20 ∧ (if v24 = 0 then W_X5_readTerm_51 X l D x1 x2 (5 : Int32) σ20 r σ' else W_X5_readTerm_51 X l D x1 x2 (4 : Int32) σ20 r σ')
set_option maxRecDepth 100000 in
theorem w_X5_readTerm_37 {X : Sx} {l : Launch} {D : Nat} {x1 : Int32} {x2 : Int32} {σ : AH} {r : Option Value} {σ' : AH} (hs : Sh σ) (h : W_X5_readTerm_37 X l D x1 x2 σ r σ') : E X l m_X5_readTerm D 37 [(0, .ref 22), (1, .int x1), (2, .int x2)] [] σ r σ' := by
  unfold W_X5_readTerm_37 at h
  refine E_aload_n 0 dX5_readTerm_37 rfl rfl ?_
  refine E_bipush (42 : Int32) dX5_readTerm_38 (by decide) ?_
  obtain ⟨d19, v24, σ20, hD21, hC22, h⟩ := h
  have hs23 := hC22.1.2.2.2.1 hs
  refine E_callV (As := [.int (42 : Int32)]) (rest := []) (r1 := (some (.int v24))) (b := 22) dX5_readTerm_40 ok_X5_isSign in_X5_isSign se_X5_isSign ml_X5_77 hD21 rfl rfl (Nat.le_of_ble_eq_true rfl) (sk_22 hs) (sn hs (by decide)) (by decide) rfl (by decide +kernel) hC22 ?_
  refine E_if_eq 50 dX5_readTerm_43 (by decide) (fun c => ?_) (fun c => ?_)
  · rw [if_pos c] at h
    refine E_iconst (5 : Int32) dX5_readTerm_50 (by decide) ?_
    exact E_lv [0, 1, 2] rfl (w_X5_readTerm_51 hs23 h)
  · rw [if_neg c] at h
    refine E_iconst (4 : Int32) dX5_readTerm_46 (by decide) ?_
    refine E_goto 51 dX5_readTerm_47 (by decide) ?_
    exact E_lv [0, 1, 2] rfl (w_X5_readTerm_51 hs23 h)
def W_X5_readTerm_12 (X : Sx) (l : Launch) (D : Nat) (x1 : Int32) (x2 : Int32) (σ : AH) (r : Option Value) (σ' : AH) : Prop := (if (400 : Int32) ≤ x2 then (r = some (.int (1 : Int32)) ∧ σ' = σ) else ∃ d7 : Nat, ∃ v12 : Int32, ∃ σ8 : AH, d7 + 1 ≤ D ∧ Call X l m_X5_isSign d7 [.ref 22, .int (42 : Int32)] σ (some (.int v12)) σ8 ∧ (if v12 = 0 then ∃ d13 : Nat, ∃ v18 : Int32, ∃ σ14 : AH, d13 + 1 ≤ D ∧ Call X l m_X5_isSign d13 [.ref 22, .int (47 : Int32)] σ8 (some (.int v18)) σ14 ∧ (if v18 = 0 then (r = some (.int (1 : Int32)) ∧ σ' = σ14) else W_X5_readTerm_37 X l D x1 x2 σ14 r σ') else W_X5_readTerm_37 X l D x1 x2 σ8 r σ'))
set_option maxRecDepth 100000 in
theorem w_X5_readTerm_12 {X : Sx} {l : Launch} {D : Nat} {x1 : Int32} {x2 : Int32} {σ : AH} {r : Option Value} {σ' : AH} (hs : Sh σ) (h : W_X5_readTerm_12 X l D x1 x2 σ r σ') : E X l m_X5_readTerm D 12 [(0, .ref 22), (1, .int x1), (2, .int x2)] [] σ r σ' := by
  unfold W_X5_readTerm_12 at h
  refine E_iload_n 2 dX5_readTerm_12 rfl rfl ?_
  refine E_sipush (400 : Int32) dX5_readTerm_13 (by decide) ?_
  refine E_icmp_ge 78 dX5_readTerm_16 (by decide) (fun c => ?_) (fun c => ?_)
  · rw [if_pos c] at h
    refine E_iconst (1 : Int32) dX5_readTerm_78 (by decide) ?_
    obtain ⟨rfl, rfl⟩ := h
    exact E_zret dX5_readTerm_79 rfl (Or.inr rfl)
  · rw [if_neg c] at h
    refine E_aload_n 0 dX5_readTerm_19 rfl rfl ?_
    refine E_bipush (42 : Int32) dX5_readTerm_20 (by decide) ?_
    obtain ⟨d7, v12, σ8, hD9, hC10, h⟩ := h
    have hs11 := hC10.1.2.2.2.1 hs
    refine E_callV (As := [.int (42 : Int32)]) (rest := []) (r1 := (some (.int v12))) (b := 22) dX5_readTerm_22 ok_X5_isSign in_X5_isSign se_X5_isSign ml_X5_77 hD9 rfl rfl (Nat.le_of_ble_eq_true rfl) (sk_22 hs) (sn hs (by decide)) (by decide) rfl (by decide +kernel) hC10 ?_
    refine E_if_ne 37 dX5_readTerm_25 (by decide) (fun c => ?_) (fun c => ?_)
    · rw [if_neg c] at h
      exact E_lv [0, 1, 2] rfl (w_X5_readTerm_37 hs11 h)
    · rw [if_pos c] at h
      refine E_aload_n 0 dX5_readTerm_28 rfl rfl ?_
      refine E_bipush (47 : Int32) dX5_readTerm_29 (by decide) ?_
      obtain ⟨d13, v18, σ14, hD15, hC16, h⟩ := h
      have hs17 := hC16.1.2.2.2.1 hs11
      refine E_callV (As := [.int (47 : Int32)]) (rest := []) (r1 := (some (.int v18))) (b := 22) dX5_readTerm_31 ok_X5_isSign in_X5_isSign se_X5_isSign ml_X5_77 hD15 rfl rfl (Nat.le_of_ble_eq_true rfl) (sk_22 hs11) (sn hs11 (by decide)) (by decide) rfl (by decide +kernel) hC16 ?_
      refine E_if_eq 78 dX5_readTerm_34 (by decide) (fun c => ?_) (fun c => ?_)
      · rw [if_pos c] at h
        refine E_iconst (1 : Int32) dX5_readTerm_78 (by decide) ?_
        obtain ⟨rfl, rfl⟩ := h
        exact E_zret dX5_readTerm_79 rfl (Or.inr rfl)
      · rw [if_neg c] at h
        exact E_lv [0, 1, 2] rfl (w_X5_readTerm_37 hs17 h)
def W_X5_readPart_156 (X : Sx) (l : Launch) (D : Nat) (σ : AH) (r : Option Value) (σ' : AH) : Prop := (r = some (.int (0 : Int32)) ∧ σ' = σ)
set_option maxRecDepth 100000 in
theorem w_X5_readPart_156 {X : Sx} {l : Launch} {D : Nat} {σ : AH} {r : Option Value} {σ' : AH} (hs : Sh σ) (h : W_X5_readPart_156 X l D σ r σ') : E X l m_X5_readPart D 156 [] [] σ r σ' := by
  unfold W_X5_readPart_156 at h
  refine E_iconst (0 : Int32) dX5_readPart_156 (by decide) ?_
  obtain ⟨rfl, rfl⟩ := h
  exact E_zret dX5_readPart_157 rfl (Or.inl rfl)
def W_X5_readPart_170 (X : Sx) (l : Launch) (D : Nat) (y0 : Int32) (σ : AH) (r : Option Value) (σ' : AH) : Prop := ∃ d73 : Nat, ∃ σ74 : AH, d73 + 1 ≤ D ∧ Call X l m_X5_emit d73 [.ref 22, .int y0, .int (0 : Int32)] σ none σ74 ∧ (r = some (.int (1 : Int32)) ∧ σ' = σ74)
set_option maxRecDepth 100000 in
theorem w_X5_readPart_170 {X : Sx} {l : Launch} {D : Nat} {y0 : Int32} {σ : AH} {r : Option Value} {σ' : AH} (hs : Sh σ) (h : W_X5_readPart_170 X l D y0 σ r σ') : E X l m_X5_readPart D 170 [] [.int y0, .ref 22] σ r σ' := by
  unfold W_X5_readPart_170 at h
  refine E_iconst (0 : Int32) dX5_readPart_170 (by decide) ?_
  obtain ⟨d73, σ74, hD75, hC76, h⟩ := h
  have hs77 := hC76.1.2.2.2.1 hs
  refine E_callV (As := [.int y0, .int (0 : Int32)]) (rest := []) (r1 := none) (b := 22) dX5_readPart_171 ok_X5_emit in_X5_emit se_X5_emit ml_X5_114 hD75 rfl rfl (Nat.le_of_ble_eq_true rfl) (sk_22 hs) (sn hs (by decide)) (by decide) rfl (by decide +kernel) hC76 ?_
  refine E_iconst (1 : Int32) dX5_readPart_174 (by decide) ?_
  obtain ⟨rfl, rfl⟩ := h
  exact E_zret dX5_readPart_175 rfl (Or.inr rfl)
def W_X5_readPart_137 (X : Sx) (l : Launch) (D : Nat) (x1 : Int32) (x3 : Int32) (σ : AH) (r : Option Value) (σ' : AH) : Prop := ∃ d61 : Nat, ∃ v66 : Int32, ∃ σ62 : AH, d61 + 1 ≤ D ∧ Call X l m_X5_readSum d61 [.ref 22, .int (x1 + (1 : Int32))] σ (some (.int v66)) σ62 ∧ (if v66 = 0 then W_X5_readPart_156 X l D σ62 r σ' else ∃ d67 : Nat, ∃ v72 : Int32, ∃ σ68 : AH, d67 + 1 ≤ D ∧ Call X l m_X5_takeSign d67 [.ref 22, .int (93 : Int32)] σ62 (some (.int v72)) σ68 ∧ (if v72 = 0 then W_X5_readPart_156 X l D σ68 r σ' else (if x3 = 0 then W_X5_readPart_170 X l D (6 : Int32) σ68 r σ' else W_X5_readPart_170 X l D (7 : Int32) σ68 r σ')))
set_option maxRecDepth 100000 in
theorem w_X5_readPart_137 {X : Sx} {l : Launch} {D : Nat} {x1 : Int32} {x3 : Int32} {σ : AH} {r : Option Value} {σ' : AH} (hs : Sh σ) (h : W_X5_readPart_137 X l D x1 x3 σ r σ') : E X l m_X5_readPart D 137 [(0, .ref 22), (1, .int x1), (3, .int x3)] [] σ r σ' := by
  unfold W_X5_readPart_137 at h
  refine E_aload_n 0 dX5_readPart_137 rfl rfl ?_
  refine E_iload_n 1 dX5_readPart_138 rfl rfl ?_
  refine E_iconst (1 : Int32) dX5_readPart_139 (by decide) ?_
  refine E_iadd dX5_readPart_140 ?_
  obtain ⟨d61, v66, σ62, hD63, hC64, h⟩ := h
  have hs65 := hC64.1.2.2.2.1 hs
  refine E_callV (As := [.int (x1 + (1 : Int32))]) (rest := []) (r1 := (some (.int v66))) (b := 22) dX5_readPart_141 ok_X5_readSum in_X5_readSum se_X5_readSum ml_X5_138 hD63 rfl rfl (Nat.le_of_ble_eq_true rfl) (sk_22 hs) (sn hs (by decide)) (by decide) rfl (by decide +kernel) hC64 ?_
  refine E_if_eq 156 dX5_readPart_144 (by decide) (fun c => ?_) (fun c => ?_)
  · rw [if_pos c] at h
    exact E_lv [] rfl (w_X5_readPart_156 hs65 h)
  · rw [if_neg c] at h
    refine E_aload_n 0 dX5_readPart_147 rfl rfl ?_
    refine E_bipush (93 : Int32) dX5_readPart_148 (by decide) ?_
    obtain ⟨d67, v72, σ68, hD69, hC70, h⟩ := h
    have hs71 := hC70.1.2.2.2.1 hs65
    refine E_callV (As := [.int (93 : Int32)]) (rest := []) (r1 := (some (.int v72))) (b := 22) dX5_readPart_150 ok_X5_takeSign in_X5_takeSign se_X5_takeSign ml_X5_53 hD69 rfl rfl (Nat.le_of_ble_eq_true rfl) (sk_22 hs65) (sn hs65 (by decide)) (by decide) rfl (by decide +kernel) hC70 ?_
    refine E_if_ne 158 dX5_readPart_153 (by decide) (fun c => ?_) (fun c => ?_)
    · rw [if_neg c] at h
      refine E_aload_n 0 dX5_readPart_158 rfl rfl ?_
      refine E_iload_n 2 dX5_readPart_159 rfl rfl ?_
      refine E_if_ne 168 dX5_readPart_160 (by decide) (fun c => ?_) (fun c => ?_)
      · rw [if_neg c] at h
        refine E_bipush (7 : Int32) dX5_readPart_168 (by decide) ?_
        exact E_lv [] rfl (w_X5_readPart_170 hs71 h)
      · rw [if_pos c] at h
        refine E_bipush (6 : Int32) dX5_readPart_163 (by decide) ?_
        refine E_goto 170 dX5_readPart_165 (by decide) ?_
        exact E_lv [] rfl (w_X5_readPart_170 hs71 h)
    · rw [if_pos c] at h
      exact E_lv [] rfl (w_X5_readPart_156 hs71 h)
def W_X5_readPart_0 (X : Sx) (l : Launch) (D : Nat) (x1 : Int32) (σ : AH) (r : Option Value) (σ' : AH) : Prop := (if (gI σ 22 11) = (2 : Int32) then (if (10000 : Int32) < (gI σ 22 12) then (r = some (.int (0 : Int32)) ∧ σ' = σ) else ∃ d55 : Nat, ∃ v60 : Int32, ∃ σ56 : AH, d55 + 1 ≤ D ∧ Call X l m_X5_takeLeaf d55 [.ref 22, .int (0 : Int32), .int (gI σ 22 12)] σ (some (.int v60)) σ56 ∧ (if v60 = 0 then (r = some (.int (0 : Int32)) ∧ σ' = σ56) else (r = some (.int (1 : Int32)) ∧ σ' = σ56))) else ∃ d1 : Nat, ∃ v6 : Int32, ∃ σ2 : AH, d1 + 1 ≤ D ∧ Call X l m_X5_wordIn d1 [.ref 22, .ref (1000001 + 6)] σ (some (.int v6)) σ2 ∧ (if v6 = (-1 : Int32) then (if x1 < (8 : Int32) then ∃ d7 : Nat, ∃ v12 : Int32, ∃ σ8 : AH, d7 + 1 ≤ D ∧ Call X l m_X5_takeSign d7 [.ref 22, .int (91 : Int32)] σ2 (some (.int v12)) σ8 ∧ (if v12 = 0 then ∃ d13 : Nat, ∃ v18 : Int32, ∃ σ14 : AH, d13 + 1 ≤ D ∧ Call X l m_X5_takeWord d13 [.ref 22, .ref (1000001 + 7)] σ8 (some (.int v18)) σ14 ∧ (if v18 = (-1 : Int32) then (r = some (.int (0 : Int32)) ∧ σ' = σ14) else ∃ d19 : Nat, ∃ v24 : Int32, ∃ σ20 : AH, d19 + 1 ≤ D ∧ Call X l m_X5_takeSign d19 [.ref 22, .int (91 : Int32)] σ14 (some (.int v24)) σ20 ∧ (if v24 = 0 then (r = some (.int (0 : Int32)) ∧ σ' = σ20) else ∃ d25 : Nat, ∃ v30 : Int32, ∃ σ26 : AH, d25 + 1 ≤ D ∧ Call X l m_X5_readSum d25 [.ref 22, .int (x1 + (1 : Int32))] σ20 (some (.int v30)) σ26 ∧ (if v30 = 0 then (r = some (.int (0 : Int32)) ∧ σ' = σ26) else ∃ d31 : Nat, ∃ v36 : Int32, ∃ σ32 : AH, d31 + 1 ≤ D ∧ Call X l m_X5_takeSign d31 [.ref 22, .int (44 : Int32)] σ26 (some (.int v36)) σ32 ∧ (if v36 = 0 then W_X5_readPart_156 X l D σ32 r σ' else W_X5_readPart_137 X l D x1 v18 σ32 r σ')))) else ∃ d37 : Nat, ∃ v42 : Int32, ∃ σ38 : AH, d37 + 1 ≤ D ∧ Call X l m_X5_readSum d37 [.ref 22, .int (x1 + (1 : Int32))] σ8 (some (.int v42)) σ38 ∧ (if v42 = 0 then (r = some (.int (0 : Int32)) ∧ σ' = σ38) else ∃ d43 : Nat, ∃ v48 : Int32, ∃ σ44 : AH, d43 + 1 ≤ D ∧ Call X l m_X5_takeSign d43 [.ref 22, .int (93 : Int32)] σ38 (some (.int v48)) σ44 ∧ (if v48 = 0 then (r = some (.int (0 : Int32)) ∧ σ' = σ44) else (r = some (.int (1 : Int32)) ∧ σ' = σ44)))) else (r = some (.int (0 : Int32)) ∧ σ' = σ2)) else ∃ d49 : Nat, ∃ v54 : Int32, ∃ σ50 : AH, d49 + 1 ≤ D ∧ Call X l m_X5_takeLeaf d49 [.ref 22, .int (1 : Int32), .int v6] σ2 (some (.int v54)) σ50 ∧ ((v54 = 0 ∨ v54 = 1) ∧ r = some (.int v54) ∧ σ' = σ50)))
set_option maxRecDepth 100000 in
theorem w_X5_readPart_0 {X : Sx} {l : Launch} {D : Nat} {x1 : Int32} {σ : AH} {r : Option Value} {σ' : AH} (hs : Sh σ) (h : W_X5_readPart_0 X l D x1 σ r σ') : E X l m_X5_readPart D 0 [(0, .ref 22), (1, .int x1)] [] σ r σ' := by
  unfold W_X5_readPart_0 at h
  refine E_aload_n 0 dX5_readPart_0 rfl rfl ?_
  refine E_getI dX5_readPart_1 fl_X5_50 rfl (sk_22 hs) (sn hs (by decide)) ?_
  refine E_iconst (2 : Int32) dX5_readPart_4 (by decide) ?_
  refine E_icmp_ne 36 dX5_readPart_5 (by decide) (fun c => ?_) (fun c => ?_)
  · rw [if_neg c] at h
    refine E_aload_n 0 dX5_readPart_36 rfl rfl ?_
    refine E_ldcS 6 (by decide) dX5_readPart_37 rfl rfl ?_
    obtain ⟨d1, v6, σ2, hD3, hC4, h⟩ := h
    have hs5 := hC4.1.2.2.2.1 hs
    refine E_callV (As := [.ref (1000001 + 6)]) (rest := []) (r1 := (some (.int v6))) (b := 22) dX5_readPart_39 ok_X5_wordIn in_X5_wordIn se_X5_wordIn ml_X5_80 hD3 rfl rfl (Nat.le_of_ble_eq_true rfl) (sk_22 hs) (sn hs (by decide)) (by decide) rfl (by decide +kernel) hC4 ?_
    refine E_istore_n [(2, .int v6), (0, .ref 22), (1, .int x1)] dX5_readPart_42 rfl (by decide) rfl ?_
    refine E_iload_n 0 dX5_readPart_43 rfl rfl ?_
    refine E_iconst (-1 : Int32) dX5_readPart_44 (by decide) ?_
    refine E_icmp_eq 55 dX5_readPart_45 (by decide) (fun c => ?_) (fun c => ?_)
    · rw [if_pos c] at h
      refine E_iload_n 2 dX5_readPart_55 rfl rfl ?_
      refine E_bipush (8 : Int32) dX5_readPart_56 (by decide) ?_
      refine E_icmp_lt 63 dX5_readPart_58 (by decide) (fun c => ?_) (fun c => ?_)
      · rw [if_pos c] at h
        refine E_aload_n 1 dX5_readPart_63 rfl rfl ?_
        refine E_bipush (91 : Int32) dX5_readPart_64 (by decide) ?_
        obtain ⟨d7, v12, σ8, hD9, hC10, h⟩ := h
        have hs11 := hC10.1.2.2.2.1 hs5
        refine E_callV (As := [.int (91 : Int32)]) (rest := []) (r1 := (some (.int v12))) (b := 22) dX5_readPart_66 ok_X5_takeSign in_X5_takeSign se_X5_takeSign ml_X5_53 hD9 rfl rfl (Nat.le_of_ble_eq_true rfl) (sk_22 hs5) (sn hs5 (by decide)) (by decide) rfl (by decide +kernel) hC10 ?_
        refine E_if_eq 97 dX5_readPart_69 (by decide) (fun c => ?_) (fun c => ?_)
        · rw [if_pos c] at h
          refine E_aload_n 1 dX5_readPart_97 rfl rfl ?_
          refine E_ldcS 7 (by decide) dX5_readPart_98 rfl rfl ?_
          obtain ⟨d13, v18, σ14, hD15, hC16, h⟩ := h
          have hs17 := hC16.1.2.2.2.1 hs11
          refine E_callV (As := [.ref (1000001 + 7)]) (rest := []) (r1 := (some (.int v18))) (b := 22) dX5_readPart_100 ok_X5_takeWord in_X5_takeWord se_X5_takeWord ml_X5_122 hD15 rfl rfl (Nat.le_of_ble_eq_true rfl) (sk_22 hs11) (sn hs11 (by decide)) (by decide) rfl (by decide +kernel) hC16 ?_
          refine E_istore_n [(3, .int v18), (2, .int v6), (0, .ref 22), (1, .int x1)] dX5_readPart_103 rfl (by decide) rfl ?_
          refine E_iload_n 0 dX5_readPart_104 rfl rfl ?_
          refine E_iconst (-1 : Int32) dX5_readPart_105 (by decide) ?_
          refine E_icmp_eq 156 dX5_readPart_106 (by decide) (fun c => ?_) (fun c => ?_)
          · rw [if_pos c] at h
            refine E_iconst (0 : Int32) dX5_readPart_156 (by decide) ?_
            obtain ⟨rfl, rfl⟩ := h
            exact E_zret dX5_readPart_157 rfl (Or.inl rfl)
          · rw [if_neg c] at h
            refine E_aload_n 2 dX5_readPart_109 rfl rfl ?_
            refine E_bipush (91 : Int32) dX5_readPart_110 (by decide) ?_
            obtain ⟨d19, v24, σ20, hD21, hC22, h⟩ := h
            have hs23 := hC22.1.2.2.2.1 hs17
            refine E_callV (As := [.int (91 : Int32)]) (rest := []) (r1 := (some (.int v24))) (b := 22) dX5_readPart_112 ok_X5_takeSign in_X5_takeSign se_X5_takeSign ml_X5_53 hD21 rfl rfl (Nat.le_of_ble_eq_true rfl) (sk_22 hs17) (sn hs17 (by decide)) (by decide) rfl (by decide +kernel) hC22 ?_
            refine E_if_eq 156 dX5_readPart_115 (by decide) (fun c => ?_) (fun c => ?_)
            · rw [if_pos c] at h
              refine E_iconst (0 : Int32) dX5_readPart_156 (by decide) ?_
              obtain ⟨rfl, rfl⟩ := h
              exact E_zret dX5_readPart_157 rfl (Or.inl rfl)
            · rw [if_neg c] at h
              refine E_aload_n 2 dX5_readPart_118 rfl rfl ?_
              refine E_iload_n 3 dX5_readPart_119 rfl rfl ?_
              refine E_iconst (1 : Int32) dX5_readPart_120 (by decide) ?_
              refine E_iadd dX5_readPart_121 ?_
              obtain ⟨d25, v30, σ26, hD27, hC28, h⟩ := h
              have hs29 := hC28.1.2.2.2.1 hs23
              refine E_callV (As := [.int (x1 + (1 : Int32))]) (rest := []) (r1 := (some (.int v30))) (b := 22) dX5_readPart_122 ok_X5_readSum in_X5_readSum se_X5_readSum ml_X5_138 hD27 rfl rfl (Nat.le_of_ble_eq_true rfl) (sk_22 hs23) (sn hs23 (by decide)) (by decide) rfl (by decide +kernel) hC28 ?_
              refine E_if_eq 156 dX5_readPart_125 (by decide) (fun c => ?_) (fun c => ?_)
              · rw [if_pos c] at h
                refine E_iconst (0 : Int32) dX5_readPart_156 (by decide) ?_
                obtain ⟨rfl, rfl⟩ := h
                exact E_zret dX5_readPart_157 rfl (Or.inl rfl)
              · rw [if_neg c] at h
                refine E_aload_n 2 dX5_readPart_128 rfl rfl ?_
                refine E_bipush (44 : Int32) dX5_readPart_129 (by decide) ?_
                obtain ⟨d31, v36, σ32, hD33, hC34, h⟩ := h
                have hs35 := hC34.1.2.2.2.1 hs29
                refine E_callV (As := [.int (44 : Int32)]) (rest := []) (r1 := (some (.int v36))) (b := 22) dX5_readPart_131 ok_X5_takeSign in_X5_takeSign se_X5_takeSign ml_X5_53 hD33 rfl rfl (Nat.le_of_ble_eq_true rfl) (sk_22 hs29) (sn hs29 (by decide)) (by decide) rfl (by decide +kernel) hC34 ?_
                refine E_if_eq 156 dX5_readPart_134 (by decide) (fun c => ?_) (fun c => ?_)
                · rw [if_pos c] at h
                  exact E_lv [] rfl (w_X5_readPart_156 hs35 h)
                · rw [if_neg c] at h
                  exact E_lv [2, 3, 0] rfl (w_X5_readPart_137 hs35 h)
        · rw [if_neg c] at h
          refine E_aload_n 1 dX5_readPart_72 rfl rfl ?_
          refine E_iload_n 2 dX5_readPart_73 rfl rfl ?_
          refine E_iconst (1 : Int32) dX5_readPart_74 (by decide) ?_
          refine E_iadd dX5_readPart_75 ?_
          obtain ⟨d37, v42, σ38, hD39, hC40, h⟩ := h
          have hs41 := hC40.1.2.2.2.1 hs11
          refine E_callV (As := [.int (x1 + (1 : Int32))]) (rest := []) (r1 := (some (.int v42))) (b := 22) dX5_readPart_76 ok_X5_readSum in_X5_readSum se_X5_readSum ml_X5_138 hD39 rfl rfl (Nat.le_of_ble_eq_true rfl) (sk_22 hs11) (sn hs11 (by decide)) (by decide) rfl (by decide +kernel) hC40 ?_
          refine E_if_eq 95 dX5_readPart_79 (by decide) (fun c => ?_) (fun c => ?_)
          · rw [if_pos c] at h
            refine E_iconst (0 : Int32) dX5_readPart_95 (by decide) ?_
            obtain ⟨rfl, rfl⟩ := h
            exact E_zret dX5_readPart_96 rfl (Or.inl rfl)
          · rw [if_neg c] at h
            refine E_aload_n 1 dX5_readPart_82 rfl rfl ?_
            refine E_bipush (93 : Int32) dX5_readPart_83 (by decide) ?_
            obtain ⟨d43, v48, σ44, hD45, hC46, h⟩ := h
            have hs47 := hC46.1.2.2.2.1 hs41
            refine E_callV (As := [.int (93 : Int32)]) (rest := []) (r1 := (some (.int v48))) (b := 22) dX5_readPart_85 ok_X5_takeSign in_X5_takeSign se_X5_takeSign ml_X5_53 hD45 rfl rfl (Nat.le_of_ble_eq_true rfl) (sk_22 hs41) (sn hs41 (by decide)) (by decide) rfl (by decide +kernel) hC46 ?_
            refine E_if_eq 95 dX5_readPart_88 (by decide) (fun c => ?_) (fun c => ?_)
            · rw [if_pos c] at h
              refine E_iconst (0 : Int32) dX5_readPart_95 (by decide) ?_
              obtain ⟨rfl, rfl⟩ := h
              exact E_zret dX5_readPart_96 rfl (Or.inl rfl)
            · rw [if_neg c] at h
              refine E_iconst (1 : Int32) dX5_readPart_91 (by decide) ?_
              refine E_goto 96 dX5_readPart_92 (by decide) ?_
              obtain ⟨rfl, rfl⟩ := h
              exact E_zret dX5_readPart_96 rfl (Or.inr rfl)
      · rw [if_neg c] at h
        refine E_iconst (0 : Int32) dX5_readPart_61 (by decide) ?_
        obtain ⟨rfl, rfl⟩ := h
        exact E_zret dX5_readPart_62 rfl (Or.inl rfl)
    · rw [if_neg c] at h
      refine E_aload_n 1 dX5_readPart_48 rfl rfl ?_
      refine E_iconst (1 : Int32) dX5_readPart_49 (by decide) ?_
      refine E_iload_n 0 dX5_readPart_50 rfl rfl ?_
      obtain ⟨d49, v54, σ50, hD51, hC52, h⟩ := h
      have hs53 := hC52.1.2.2.2.1 hs5
      refine E_callV (As := [.int (1 : Int32), .int v6]) (rest := []) (r1 := (some (.int v54))) (b := 22) dX5_readPart_51 ok_X5_takeLeaf in_X5_takeLeaf se_X5_takeLeaf ml_X5_162 hD51 rfl rfl (Nat.le_of_ble_eq_true rfl) (sk_22 hs5) (sn hs5 (by decide)) (by decide) rfl (by decide +kernel) hC52 ?_
      obtain ⟨hz, rfl, rfl⟩ := h
      exact E_zret dX5_readPart_54 rfl hz
  · rw [if_pos c] at h
    refine E_aload_n 0 dX5_readPart_8 rfl rfl ?_
    refine E_getI dX5_readPart_9 fl_X5_60 rfl (sk_22 hs) (sn hs (by decide)) ?_
    refine E_sipush (10000 : Int32) dX5_readPart_12 (by decide) ?_
    refine E_icmp_gt 34 dX5_readPart_15 (by decide) (fun c => ?_) (fun c => ?_)
    · rw [if_pos c] at h
      refine E_iconst (0 : Int32) dX5_readPart_34 (by decide) ?_
      obtain ⟨rfl, rfl⟩ := h
      exact E_zret dX5_readPart_35 rfl (Or.inl rfl)
    · rw [if_neg c] at h
      refine E_aload_n 0 dX5_readPart_18 rfl rfl ?_
      refine E_iconst (0 : Int32) dX5_readPart_19 (by decide) ?_
      refine E_aload_n 0 dX5_readPart_20 rfl rfl ?_
      refine E_getI dX5_readPart_21 fl_X5_60 rfl (sk_22 hs) (sn hs (by decide)) ?_
      obtain ⟨d55, v60, σ56, hD57, hC58, h⟩ := h
      have hs59 := hC58.1.2.2.2.1 hs
      refine E_callV (As := [.int (0 : Int32), .int (gI σ 22 12)]) (rest := []) (r1 := (some (.int v60))) (b := 22) dX5_readPart_24 ok_X5_takeLeaf in_X5_takeLeaf se_X5_takeLeaf ml_X5_162 hD57 rfl rfl (Nat.le_of_ble_eq_true rfl) (sk_22 hs) (sn hs (by decide)) (by decide) rfl (by decide +kernel) hC58 ?_
      refine E_if_eq 34 dX5_readPart_27 (by decide) (fun c => ?_) (fun c => ?_)
      · rw [if_pos c] at h
        refine E_iconst (0 : Int32) dX5_readPart_34 (by decide) ?_
        obtain ⟨rfl, rfl⟩ := h
        exact E_zret dX5_readPart_35 rfl (Or.inl rfl)
      · rw [if_neg c] at h
        refine E_iconst (1 : Int32) dX5_readPart_30 (by decide) ?_
        refine E_goto 35 dX5_readPart_31 (by decide) ?_
        obtain ⟨rfl, rfl⟩ := h
        exact E_zret dX5_readPart_35 rfl (Or.inr rfl)
def W_X5_takeLeaf_0 (X : Sx) (l : Launch) (D : Nat) (x1 : Int32) (x2 : Int32) (σ : AH) (r : Option Value) (σ' : AH) : Prop := (if (gI σ 22 8) < (60 : Int32) then ∃ d1 : Nat, ∃ σ2 : AH, d1 + 1 ≤ D ∧ Call X l m_X5_emit d1 [.ref 22, .int x1, .int x2] (sI σ 22 8 ((gI σ 22 8) + (1 : Int32))) none σ2 ∧ ∃ d6 : Nat, ∃ σ7 : AH, d6 + 1 ≤ D ∧ Call X l m_X5_step d6 [.ref 22] σ2 none σ7 ∧ (r = some (.int (1 : Int32)) ∧ σ' = σ7) else (r = some (.int (0 : Int32)) ∧ σ' = σ))
set_option maxRecDepth 100000 in
theorem w_X5_takeLeaf_0 {X : Sx} {l : Launch} {D : Nat} {x1 : Int32} {x2 : Int32} {σ : AH} {r : Option Value} {σ' : AH} (hs : Sh σ) (h : W_X5_takeLeaf_0 X l D x1 x2 σ r σ') : E X l m_X5_takeLeaf D 0 [(0, .ref 22), (1, .int x1), (2, .int x2)] [] σ r σ' := by
  unfold W_X5_takeLeaf_0 at h
  refine E_aload_n 0 dX5_takeLeaf_0 rfl rfl ?_
  refine E_getI dX5_takeLeaf_1 fl_X5_37 rfl (sk_22 hs) (sn hs (by decide)) ?_
  refine E_bipush (60 : Int32) dX5_takeLeaf_4 (by decide) ?_
  refine E_icmp_lt 11 dX5_takeLeaf_6 (by decide) (fun c => ?_) (fun c => ?_)
  · rw [if_pos c] at h
    refine E_aload_n 0 dX5_takeLeaf_11 rfl rfl ?_
    refine E_dup dX5_takeLeaf_12 rfl ?_
    refine E_getI dX5_takeLeaf_13 fl_X5_37 rfl (sk_22 hs) (sn hs (by decide)) ?_
    refine E_iconst (1 : Int32) dX5_takeLeaf_16 (by decide) ?_
    refine E_iadd dX5_takeLeaf_17 ?_
    refine E_putI dX5_takeLeaf_18 fl_X5_37 rfl (Or.inl rfl) (sk_22 hs) (sn hs (by decide)) (Or.inl (by decide)) rfl rfl ?_
    refine E_aload_n 0 dX5_takeLeaf_21 rfl rfl ?_
    refine E_iload_n 1 dX5_takeLeaf_22 rfl rfl ?_
    refine E_iload_n 2 dX5_takeLeaf_23 rfl rfl ?_
    obtain ⟨d1, σ2, hD3, hC4, h⟩ := h
    have hs5 := hC4.1.2.2.2.1 hs
    refine E_callV (As := [.int x1, .int x2]) (rest := []) (r1 := none) (b := 22) dX5_takeLeaf_24 ok_X5_emit in_X5_emit se_X5_emit ml_X5_114 hD3 rfl rfl (Nat.le_of_ble_eq_true rfl) (sk_22 hs) (sn hs (by decide)) (by decide) rfl (by decide +kernel) hC4 ?_
    refine E_aload_n 0 dX5_takeLeaf_27 rfl rfl ?_
    obtain ⟨d6, σ7, hD8, hC9, h⟩ := h
    have hs10 := hC9.1.2.2.2.1 hs5
    refine E_callV (As := []) (rest := []) (r1 := none) (b := 22) dX5_takeLeaf_28 ok_X5_step in_X5_step se_X5_step ml_X5_43 hD8 rfl rfl (Nat.le_of_ble_eq_true rfl) (sk_22 hs5) (sn hs5 (by decide)) (by decide) rfl (by decide +kernel) hC9 ?_
    refine E_iconst (1 : Int32) dX5_takeLeaf_31 (by decide) ?_
    obtain ⟨rfl, rfl⟩ := h
    exact E_zret dX5_takeLeaf_32 rfl (Or.inr rfl)
  · rw [if_neg c] at h
    refine E_iconst (0 : Int32) dX5_takeLeaf_9 (by decide) ?_
    obtain ⟨rfl, rfl⟩ := h
    exact E_zret dX5_takeLeaf_10 rfl (Or.inl rfl)
def W_X6_init_0 (X : Sx) (l : Launch) (D : Nat) (x0 : Nat) (σ : AH) (r : Option Value) (σ' : AH) : Prop := kd σ x0 = (6, NO 6) ∧ x0 < nx σ ∧ 1 ≤ D ∧ (∀ τ1 : AH, τ1 = (aw σ 7 (NO 7)) → ∃ d8 : Nat, ∃ σ9 : AH, d8 + 1 ≤ D ∧ Call X l m_X7_init d8 [.ref (nx σ)] τ1 none σ9 ∧ al m_X6_init x0 ∧ (Sh σ9 → Sh (sR σ9 x0 0 (some (nx σ)))) ∧ (∀ τ19 : AH, τ19 = (sR σ9 x0 0 (some (nx σ))) → (∀ τ24 : AH, τ24 = (aw τ19 100 1300) → al m_X6_init x0 ∧ (Sh τ24 → Sh (sR τ24 x0 1 (some (nx τ19)))) ∧ (∀ τ33 : AH, τ33 = (sR τ24 x0 1 (some (nx τ19))) → al m_X6_init x0 ∧ al m_X6_init x0 ∧ al m_X6_init x0 ∧ (r = none ∧ σ' = (sI (sI (sI τ33 x0 2 (-1 : Int32)) x0 3 (-1 : Int32)) x0 4 (-1 : Int32)))))))
set_option maxRecDepth 100000 in
theorem w_X6_init_0 {X : Sx} {l : Launch} {D : Nat} {x0 : Nat} {σ : AH} {r : Option Value} {σ' : AH} (h : W_X6_init_0 X l D x0 σ r σ') : E X l m_X6_init D 0 [(0, .ref x0)] [] σ r σ' := by
  unfold W_X6_init_0 at h
  obtain ⟨hkx0, hbx0, h⟩ := h
  refine E_aload_n 0 dX6_init_0 rfl rfl ?_
  obtain ⟨g41, h⟩ := h
  refine E_objInit dX6_init_1 mo_X6_3 g41 (Nat.le_of_ble_eq_true rfl) ?_
  refine E_aload_n 0 dX6_init_4 rfl rfl ?_
  refine E_new 7 dX6_init_5 (by decide) ck_X6_9 ?_
  obtain ⟨τ1, e2⟩ : ∃ τ : AH, τ = (aw σ 7 (NO 7)) := ⟨_, rfl⟩
  replace h := h τ1 e2
  rw [← e2]
  have hk4 : kd _ x0 = (6, NO 6) := (congrFun (congrArg kd e2) _).trans ((up_ne _ _ _ (Nat.ne_of_lt hbx0)).trans hkx0)
  have hb5 := Nat.lt_of_lt_of_eq (Nat.lt_succ_of_lt hbx0) (congrArg nx e2).symm
  have hk6 : kd _ (nx σ) = (7, NO 7) := (congrFun (congrArg kd e2) _).trans (up_same _ _ _)
  have hb7 := Nat.lt_of_lt_of_eq (Nat.lt_succ_self _) (congrArg nx e2).symm
  refine E_dup dX6_init_8 rfl ?_
  obtain ⟨d8, σ9, hD10, hC11, h⟩ := h
  have hk13 := (hC11.1.2.2.1 _ hb5).trans hk4
  have hb14 := Nat.lt_of_lt_of_le hb5 hC11.1.1
  have hk15 := (hC11.1.2.2.1 _ hb7).trans hk6
  have hb16 := Nat.lt_of_lt_of_le hb7 hC11.1.1
  refine E_callIN (As := []) (rest := [.ref (nx σ), .ref x0]) (r1 := none) (b := (nx σ)) dX6_init_9 ok_X7_init in_X7_init rfl rfl (by decide) hD10 rfl rfl (Nat.le_of_ble_eq_true rfl) (by decide +kernel) hC11 ?_
  obtain ⟨ga17, h⟩ := h
  obtain ⟨g18, h⟩ := h
  refine E_putR dX6_init_12 fl_X6_12 rfl (Or.inr ⟨rfl, rfl, rfl⟩) hk13 hb14 ga17 g18 ?_
  obtain ⟨τ19, e20⟩ : ∃ τ : AH, τ = (sR σ9 x0 0 (some (nx σ))) := ⟨_, rfl⟩
  replace h := h τ19 e20
  rw [← e20]
  have hk22 : kd _ x0 = (6, NO 6) := (congrFun (congrArg kd e20) _).trans hk13
  have hb23 := Nat.lt_of_lt_of_eq hb14 (congrArg nx e20).symm
  refine E_aload_n 0 dX6_init_15 rfl rfl ?_
  refine E_sipush (1300 : Int32) dX6_init_16 (by decide) ?_
  refine E_newaI 1300 dX6_init_19 ac_int (by decide) (by decide) (by decide) ?_
  obtain ⟨τ24, e25⟩ : ∃ τ : AH, τ = (aw τ19 100 1300) := ⟨_, rfl⟩
  replace h := h τ24 e25
  rw [← e25]
  have hk27 : kd _ x0 = (6, NO 6) := (congrFun (congrArg kd e25) _).trans ((up_ne _ _ _ (Nat.ne_of_lt hb23)).trans hk22)
  have hb28 := Nat.lt_of_lt_of_eq (Nat.lt_succ_of_lt hb23) (congrArg nx e25).symm
  have hk29 : kd _ (nx τ19) = (100, 1300) := (congrFun (congrArg kd e25) _).trans (up_same _ _ _)
  have hb30 := Nat.lt_of_lt_of_eq (Nat.lt_succ_self _) (congrArg nx e25).symm
  obtain ⟨ga31, h⟩ := h
  obtain ⟨g32, h⟩ := h
  refine E_putR dX6_init_21 fl_X6_18 rfl (Or.inr ⟨rfl, rfl, rfl⟩) hk27 hb28 ga31 g32 ?_
  obtain ⟨τ33, e34⟩ : ∃ τ : AH, τ = (sR τ24 x0 1 (some (nx τ19))) := ⟨_, rfl⟩
  replace h := h τ33 e34
  rw [← e34]
  have hk36 : kd _ x0 = (6, NO 6) := (congrFun (congrArg kd e34) _).trans hk27
  have hb37 := Nat.lt_of_lt_of_eq hb28 (congrArg nx e34).symm
  refine E_aload_n 0 dX6_init_24 rfl rfl ?_
  refine E_iconst (-1 : Int32) dX6_init_25 (by decide) ?_
  obtain ⟨ga38, h⟩ := h
  refine E_putI dX6_init_26 fl_X6_22 rfl (Or.inl rfl) hk36 hb37 ga38 rfl rfl ?_
  refine E_aload_n 0 dX6_init_29 rfl rfl ?_
  refine E_iconst (-1 : Int32) dX6_init_30 (by decide) ?_
  obtain ⟨ga39, h⟩ := h
  refine E_putI dX6_init_31 fl_X6_26 rfl (Or.inl rfl) hk36 hb37 ga39 rfl rfl ?_
  refine E_aload_n 0 dX6_init_34 rfl rfl ?_
  refine E_iconst (-1 : Int32) dX6_init_35 (by decide) ?_
  obtain ⟨ga40, h⟩ := h
  refine E_putI dX6_init_36 fl_X6_29 rfl (Or.inl rfl) hk36 hb37 ga40 rfl rfl ?_
  obtain ⟨rfl, rfl⟩ := h
  exact E_vret dX6_init_39 rfl
def W_X6_isOf_0 (X : Sx) (l : Launch) (D : Nat) (x0 : Nat) (x1 : Int32) (x2 : Int32) (x3 : Int32) (σ : AH) (r : Option Value) (σ' : AH) : Prop := (if (gI σ x0 2) = x1 then (if (gI σ x0 3) = x2 then (if (gI σ x0 4) = x3 then (r = some (.int (1 : Int32)) ∧ σ' = σ) else (r = some (.int (0 : Int32)) ∧ σ' = σ)) else (r = some (.int (0 : Int32)) ∧ σ' = σ)) else (r = some (.int (0 : Int32)) ∧ σ' = σ))
set_option maxRecDepth 100000 in
theorem w_X6_isOf_0 {X : Sx} {l : Launch} {D : Nat} {x0 : Nat} {x1 : Int32} {x2 : Int32} {x3 : Int32} {σ : AH} {r : Option Value} {σ' : AH} (hs : Sh σ) (hmx0 : x0 ∈ runIds) (h : W_X6_isOf_0 X l D x0 x1 x2 x3 σ r σ') : E X l m_X6_isOf D 0 [(0, .ref x0), (1, .int x1), (2, .int x2), (3, .int x3)] [] σ r σ' := by
  unfold W_X6_isOf_0 at h
  refine E_aload_n 0 dX6_isOf_0 rfl rfl ?_
  refine E_getI dX6_isOf_1 fl_X6_22 rfl (rn_k hs hmx0) (rn_n hs hmx0 (j := 0) (by decide)) ?_
  refine E_iload_n 1 dX6_isOf_4 rfl rfl ?_
  refine E_icmp_ne 28 dX6_isOf_5 (by decide) (fun c => ?_) (fun c => ?_)
  · rw [if_neg c] at h
    refine E_iconst (0 : Int32) dX6_isOf_28 (by decide) ?_
    obtain ⟨rfl, rfl⟩ := h
    exact E_zret dX6_isOf_29 rfl (Or.inl rfl)
  · rw [if_pos c] at h
    refine E_aload_n 0 dX6_isOf_8 rfl rfl ?_
    refine E_getI dX6_isOf_9 fl_X6_26 rfl (rn_k hs hmx0) (rn_n hs hmx0 (j := 0) (by decide)) ?_
    refine E_iload_n 2 dX6_isOf_12 rfl rfl ?_
    refine E_icmp_ne 28 dX6_isOf_13 (by decide) (fun c => ?_) (fun c => ?_)
    · rw [if_neg c] at h
      refine E_iconst (0 : Int32) dX6_isOf_28 (by decide) ?_
      obtain ⟨rfl, rfl⟩ := h
      exact E_zret dX6_isOf_29 rfl (Or.inl rfl)
    · rw [if_pos c] at h
      refine E_aload_n 0 dX6_isOf_16 rfl rfl ?_
      refine E_getI dX6_isOf_17 fl_X6_29 rfl (rn_k hs hmx0) (rn_n hs hmx0 (j := 0) (by decide)) ?_
      refine E_iload_n 3 dX6_isOf_20 rfl rfl ?_
      refine E_icmp_ne 28 dX6_isOf_21 (by decide) (fun c => ?_) (fun c => ?_)
      · rw [if_neg c] at h
        refine E_iconst (0 : Int32) dX6_isOf_28 (by decide) ?_
        obtain ⟨rfl, rfl⟩ := h
        exact E_zret dX6_isOf_29 rfl (Or.inl rfl)
      · rw [if_pos c] at h
        refine E_iconst (1 : Int32) dX6_isOf_24 (by decide) ?_
        refine E_goto 29 dX6_isOf_25 (by decide) ?_
        obtain ⟨rfl, rfl⟩ := h
        exact E_zret dX6_isOf_29 rfl (Or.inr rfl)
def W_X6_open_0 (X : Sx) (l : Launch) (D : Nat) (x0 : Nat) (x1 : Int32) (x2 : Int32) (x3 : Int32) (σ : AH) (r : Option Value) (σ' : AH) : Prop := ∃ d1 : Nat, ∃ σ2 : AH, d1 + 1 ≤ D ∧ Call X l m_X7_empty d1 [.ref (x0 + 1)] (sI (sI (sI σ x0 2 x1) x0 3 x2) x0 4 x3) none σ2 ∧ (r = none ∧ σ' = σ2)
set_option maxRecDepth 100000 in
theorem w_X6_open_0 {X : Sx} {l : Launch} {D : Nat} {x0 : Nat} {x1 : Int32} {x2 : Int32} {x3 : Int32} {σ : AH} {r : Option Value} {σ' : AH} (hs : Sh σ) (hmx0 : x0 ∈ runIds) (h : W_X6_open_0 X l D x0 x1 x2 x3 σ r σ') : E X l m_X6_open D 0 [(0, .ref x0), (1, .int x1), (2, .int x2), (3, .int x3)] [] σ r σ' := by
  unfold W_X6_open_0 at h
  refine E_aload_n 0 dX6_open_0 rfl rfl ?_
  refine E_iload_n 1 dX6_open_1 rfl rfl ?_
  refine E_putI dX6_open_2 fl_X6_22 rfl (Or.inl rfl) (rn_k hs hmx0) (rn_n hs hmx0 (j := 0) (by decide)) (Or.inl ((by decide : ∀ b ∈ runIds, m_X6_open.2.2.2.2.1.contains b = true) _ hmx0)) rfl rfl ?_
  refine E_aload_n 0 dX6_open_5 rfl rfl ?_
  refine E_iload_n 2 dX6_open_6 rfl rfl ?_
  refine E_putI dX6_open_7 fl_X6_26 rfl (Or.inl rfl) (rn_k hs hmx0) (rn_n hs hmx0 (j := 0) (by decide)) (Or.inl ((by decide : ∀ b ∈ runIds, m_X6_open.2.2.2.2.1.contains b = true) _ hmx0)) rfl rfl ?_
  refine E_aload_n 0 dX6_open_10 rfl rfl ?_
  refine E_iload_n 3 dX6_open_11 rfl rfl ?_
  refine E_putI dX6_open_12 fl_X6_29 rfl (Or.inl rfl) (rn_k hs hmx0) (rn_n hs hmx0 (j := 0) (by decide)) (Or.inl ((by decide : ∀ b ∈ runIds, m_X6_open.2.2.2.2.1.contains b = true) _ hmx0)) rfl rfl ?_
  refine E_aload_n 0 dX6_open_15 rfl rfl ?_
  refine E_getR (x0 + 1) dX6_open_16 fl_X6_12 rfl (rn_k hs hmx0) (rn_n hs hmx0 (j := 0) (by decide)) (rn_r0 hs hmx0) ?_
  obtain ⟨d1, σ2, hD3, hC4, h⟩ := h
  have hs5 := hC4.1.2.2.2.1 hs
  refine E_callV (As := []) (rest := []) (r1 := none) (b := (x0 + 1)) dX6_open_19 ok_X7_empty in_X7_empty se_X7_empty ml_X6_32 hD3 rfl rfl (Nat.le_of_ble_eq_true rfl) (st_k hs (rn_site hmx0)) (st_n hs (rn_site hmx0) (j := 0) (by decide)) (by decide) rfl (by decide +kernel) hC4 ?_
  obtain ⟨rfl, rfl⟩ := h
  exact E_vret dX6_open_22 rfl
def W_X6_keepStock_0 (X : Sx) (l : Launch) (D : Nat) (x0 : Nat) (x1 : Int32) (σ : AH) (r : Option Value) (σ' : AH) : Prop := ¬ (x1 * (5 : Int32)) < 0 ∧ 0 + 5 ≤ 5 ∧ (x1 * (5 : Int32)).toNatClampNeg + 5 ≤ 1300 ∧ 1 ≤ D ∧ (∀ τ7 : AH, τ7 = (sA σ (x0 + 11) (va_cpy (gI σ ((x0 + 1) + 1)) (gI σ (x0 + 11)) 0 ((x1 * (5 : Int32)).toNatClampNeg) 5)) → (r = none ∧ σ' = τ7))
set_option maxRecDepth 100000 in
theorem w_X6_keepStock_0 {X : Sx} {l : Launch} {D : Nat} {x0 : Nat} {x1 : Int32} {σ : AH} {r : Option Value} {σ' : AH} (hs : Sh σ) (hmx0 : x0 ∈ runIds) (h : W_X6_keepStock_0 X l D x0 x1 σ r σ') : E X l m_X6_keepStock D 0 [(0, .ref x0), (1, .int x1)] [] σ r σ' := by
  unfold W_X6_keepStock_0 at h
  refine E_aload_n 0 dX6_keepStock_0 rfl rfl ?_
  refine E_getR (x0 + 1) dX6_keepStock_1 fl_X6_12 rfl (rn_k hs hmx0) (rn_n hs hmx0 (j := 0) (by decide)) (rn_r0 hs hmx0) ?_
  refine E_getR ((x0 + 1) + 1) dX6_keepStock_4 fl_X6_35 rfl (st_k hs (rn_site hmx0)) (st_n hs (rn_site hmx0) (j := 0) (by decide)) (st_r0 hs (rn_site hmx0)) ?_
  refine E_iconst (0 : Int32) dX6_keepStock_7 (by decide) ?_
  refine E_aload_n 0 dX6_keepStock_8 rfl rfl ?_
  refine E_getR (x0 + 11) dX6_keepStock_9 fl_X6_18 rfl (rn_k hs hmx0) (rn_n hs hmx0 (j := 0) (by decide)) (rn_r1 hs hmx0) ?_
  refine E_iload_n 1 dX6_keepStock_12 rfl rfl ?_
  refine E_iconst (5 : Int32) dX6_keepStock_13 (by decide) ?_
  refine E_imul dX6_keepStock_14 ?_
  refine E_iconst (5 : Int32) dX6_keepStock_15 (by decide) ?_
  obtain ⟨g2, g4, g5, g6, h⟩ := h
  refine E_copy2 (0) ((x1 * (5 : Int32)).toNatClampNeg) (5) dX6_keepStock_16 ma_X6_36 (sk_stock hs (st_stock (rn_site hmx0))) (sn_stock hs (st_stock (rn_site hmx0))) (rn_ka11 hs hmx0) (rn_n hs hmx0 (by decide)) (by decide) g2 (by decide) (by decide) rfl (by decide) g4 g5 g6 (Nat.le_of_ble_eq_true rfl) (Or.inl ((by decide : ∀ b ∈ runIds, m_X6_keepStock.2.2.2.2.1.contains (b + 11) = true) _ hmx0)) ?_
  obtain ⟨τ7, e8⟩ : ∃ τ : AH, τ = (sA σ (x0 + 11) (va_cpy (gI σ ((x0 + 1) + 1)) (gI σ (x0 + 11)) 0 ((x1 * (5 : Int32)).toNatClampNeg) 5)) := ⟨_, rfl⟩
  replace h := h τ7 e8
  rw [← e8]
  have hs9 : Sh τ7 := by rw [e8]; exact hs
  obtain ⟨rfl, rfl⟩ := h
  exact E_vret dX6_keepStock_19 rfl
def W_X6_doneWeek_0 (X : Sx) (l : Launch) (D : Nat) (x0 : Nat) (x1 : Int32) (σ : AH) (r : Option Value) (σ' : AH) : Prop := vp_in (((x1 * (3 : Int32)) + (3 : Int32)) - (1 : Int32)) 90 ∧ (r = some (.int (gI σ ((x0 + 1) + 9) (((x1 * (3 : Int32)) + (3 : Int32)) - (1 : Int32)).toNatClampNeg)) ∧ σ' = σ)
set_option maxRecDepth 100000 in
theorem w_X6_doneWeek_0 {X : Sx} {l : Launch} {D : Nat} {x0 : Nat} {x1 : Int32} {σ : AH} {r : Option Value} {σ' : AH} (hs : Sh σ) (hmx0 : x0 ∈ runIds) (h : W_X6_doneWeek_0 X l D x0 x1 σ r σ') : E X l m_X6_doneWeek D 0 [(0, .ref x0), (1, .int x1)] [] σ r σ' := by
  unfold W_X6_doneWeek_0 at h
  refine E_aload_n 0 dX6_doneWeek_0 rfl rfl ?_
  refine E_getR (x0 + 1) dX6_doneWeek_1 fl_X6_12 rfl (rn_k hs hmx0) (rn_n hs hmx0 (j := 0) (by decide)) (rn_r0 hs hmx0) ?_
  refine E_getR ((x0 + 1) + 9) dX6_doneWeek_4 fl_X6_42 rfl (st_k hs (rn_site hmx0)) (st_n hs (rn_site hmx0) (j := 0) (by decide)) (st_r9 hs (rn_site hmx0)) ?_
  refine E_iload_n 1 dX6_doneWeek_7 rfl rfl ?_
  refine E_iconst (3 : Int32) dX6_doneWeek_8 (by decide) ?_
  refine E_imul dX6_doneWeek_9 ?_
  refine E_iconst (3 : Int32) dX6_doneWeek_10 (by decide) ?_
  refine E_iadd dX6_doneWeek_11 ?_
  refine E_iconst (1 : Int32) dX6_doneWeek_12 (by decide) ?_
  refine E_isub dX6_doneWeek_13 ?_
  obtain ⟨g1, h⟩ := h
  refine E_iald2 ((((x1 * (3 : Int32)) + (3 : Int32)) - (1 : Int32)).toNatClampNeg) dX6_doneWeek_14 (st_ka9 hs (rn_site hmx0)) (st_n hs (rn_site hmx0) (by decide)) g1 rfl ?_
  obtain ⟨rfl, rfl⟩ := h
  exact E_iret dX6_doneWeek_15 rfl
def W_X6_isDoneBy_0 (X : Sx) (l : Launch) (D : Nat) (x0 : Nat) (x1 : Int32) (x2 : Int32) (σ : AH) (r : Option Value) (σ' : AH) : Prop := ∃ d1 : Nat, ∃ v6 : Int32, ∃ σ2 : AH, d1 + 1 ≤ D ∧ Call X l m_X6_doneWeek d1 [.ref x0, .int x1] σ (some (.int v6)) σ2 ∧ (if v6 = (-1 : Int32) then (r = some (.int (0 : Int32)) ∧ σ' = σ2) else ∃ d7 : Nat, ∃ v12 : Int32, ∃ σ8 : AH, d7 + 1 ≤ D ∧ Call X l m_X6_doneWeek d7 [.ref x0, .int x1] σ2 (some (.int v12)) σ8 ∧ (if x2 < v12 then (r = some (.int (0 : Int32)) ∧ σ' = σ8) else (r = some (.int (1 : Int32)) ∧ σ' = σ8)))
set_option maxRecDepth 100000 in
theorem w_X6_isDoneBy_0 {X : Sx} {l : Launch} {D : Nat} {x0 : Nat} {x1 : Int32} {x2 : Int32} {σ : AH} {r : Option Value} {σ' : AH} (hs : Sh σ) (hmx0 : x0 ∈ runIds) (h : W_X6_isDoneBy_0 X l D x0 x1 x2 σ r σ') : E X l m_X6_isDoneBy D 0 [(0, .ref x0), (1, .int x1), (2, .int x2)] [] σ r σ' := by
  unfold W_X6_isDoneBy_0 at h
  refine E_aload_n 0 dX6_isDoneBy_0 rfl rfl ?_
  refine E_iload_n 1 dX6_isDoneBy_1 rfl rfl ?_
  obtain ⟨d1, v6, σ2, hD3, hC4, h⟩ := h
  have hs5 := hC4.1.2.2.2.1 hs
  refine E_callV (As := [.int x1]) (rest := []) (r1 := (some (.int v6))) (b := x0) dX6_isDoneBy_2 ok_X6_doneWeek in_X6_doneWeek se_X6_doneWeek ml_X6_45 hD3 rfl rfl (Nat.le_of_ble_eq_true rfl) (rn_k hs hmx0) (rn_n hs hmx0 (j := 0) (by decide)) (by decide) rfl (by decide +kernel) hC4 ?_
  refine E_iconst (-1 : Int32) dX6_isDoneBy_5 (by decide) ?_
  refine E_icmp_eq 22 dX6_isDoneBy_6 (by decide) (fun c => ?_) (fun c => ?_)
  · rw [if_pos c] at h
    refine E_iconst (0 : Int32) dX6_isDoneBy_22 (by decide) ?_
    obtain ⟨rfl, rfl⟩ := h
    exact E_zret dX6_isDoneBy_23 rfl (Or.inl rfl)
  · rw [if_neg c] at h
    refine E_aload_n 0 dX6_isDoneBy_9 rfl rfl ?_
    refine E_iload_n 1 dX6_isDoneBy_10 rfl rfl ?_
    obtain ⟨d7, v12, σ8, hD9, hC10, h⟩ := h
    have hs11 := hC10.1.2.2.2.1 hs5
    refine E_callV (As := [.int x1]) (rest := []) (r1 := (some (.int v12))) (b := x0) dX6_isDoneBy_11 ok_X6_doneWeek in_X6_doneWeek se_X6_doneWeek ml_X6_45 hD9 rfl rfl (Nat.le_of_ble_eq_true rfl) (rn_k hs5 hmx0) (rn_n hs5 hmx0 (j := 0) (by decide)) (by decide) rfl (by decide +kernel) hC10 ?_
    refine E_iload_n 2 dX6_isDoneBy_14 rfl rfl ?_
    refine E_icmp_gt 22 dX6_isDoneBy_15 (by decide) (fun c => ?_) (fun c => ?_)
    · rw [if_pos c] at h
      refine E_iconst (0 : Int32) dX6_isDoneBy_22 (by decide) ?_
      obtain ⟨rfl, rfl⟩ := h
      exact E_zret dX6_isDoneBy_23 rfl (Or.inl rfl)
    · rw [if_neg c] at h
      refine E_iconst (1 : Int32) dX6_isDoneBy_18 (by decide) ?_
      refine E_goto 23 dX6_isDoneBy_19 (by decide) ?_
      obtain ⟨rfl, rfl⟩ := h
      exact E_zret dX6_isDoneBy_23 rfl (Or.inr rfl)
def W_X7_init_0 (X : Sx) (l : Launch) (D : Nat) (x0 : Nat) (σ : AH) (r : Option Value) (σ' : AH) : Prop := kd σ x0 = (7, NO 7) ∧ x0 < nx σ ∧ 1 ≤ D ∧ (∀ τ1 : AH, τ1 = (aw σ 100 5) → al m_X7_init x0 ∧ (Sh τ1 → Sh (sR τ1 x0 0 (some (nx σ)))) ∧ (∀ τ10 : AH, τ10 = (sR τ1 x0 0 (some (nx σ))) → (∀ τ15 : AH, τ15 = (aw τ10 100 30) → al m_X7_init x0 ∧ (Sh τ15 → Sh (sR τ15 x0 1 (some (nx τ10)))) ∧ (∀ τ24 : AH, τ24 = (sR τ15 x0 1 (some (nx τ10))) → (∀ τ29 : AH, τ29 = (aw τ24 100 18) → al m_X7_init x0 ∧ (Sh τ29 → Sh (sR τ29 x0 3 (some (nx τ24)))) ∧ (∀ τ38 : AH, τ38 = (sR τ29 x0 3 (some (nx τ24))) → (∀ τ43 : AH, τ43 = (aw τ38 100 30) → al m_X7_init x0 ∧ (Sh τ43 → Sh (sR τ43 x0 4 (some (nx τ38)))) ∧ (∀ τ52 : AH, τ52 = (sR τ43 x0 4 (some (nx τ38))) → (∀ τ57 : AH, τ57 = (aw τ52 100 30) → al m_X7_init x0 ∧ (Sh τ57 → Sh (sR τ57 x0 5 (some (nx τ52)))) ∧ (∀ τ66 : AH, τ66 = (sR τ57 x0 5 (some (nx τ52))) → (∀ τ71 : AH, τ71 = (aw τ66 100 30) → al m_X7_init x0 ∧ (Sh τ71 → Sh (sR τ71 x0 6 (some (nx τ66)))) ∧ (∀ τ80 : AH, τ80 = (sR τ71 x0 6 (some (nx τ66))) → (∀ τ85 : AH, τ85 = (aw τ80 100 90) → al m_X7_init x0 ∧ (Sh τ85 → Sh (sR τ85 x0 7 (some (nx τ80)))) ∧ (∀ τ94 : AH, τ94 = (sR τ85 x0 7 (some (nx τ80))) → (∀ τ99 : AH, τ99 = (aw τ94 100 90) → al m_X7_init x0 ∧ (Sh τ99 → Sh (sR τ99 x0 8 (some (nx τ94)))) ∧ (∀ τ108 : AH, τ108 = (sR τ99 x0 8 (some (nx τ94))) → (∀ τ113 : AH, τ113 = (aw τ108 100 90) → al m_X7_init x0 ∧ (Sh τ113 → Sh (sR τ113 x0 9 (some (nx τ108)))) ∧ (∀ τ122 : AH, τ122 = (sR τ113 x0 9 (some (nx τ108))) → (r = none ∧ σ' = τ122)))))))))))))))))))
set_option maxRecDepth 100000 in
theorem w_X7_init_0 {X : Sx} {l : Launch} {D : Nat} {x0 : Nat} {σ : AH} {r : Option Value} {σ' : AH} (h : W_X7_init_0 X l D x0 σ r σ') : E X l m_X7_init D 0 [(0, .ref x0)] [] σ r σ' := by
  unfold W_X7_init_0 at h
  obtain ⟨hkx0, hbx0, h⟩ := h
  refine E_aload_n 0 dX7_init_0 rfl rfl ?_
  obtain ⟨g127, h⟩ := h
  refine E_objInit dX7_init_1 mo_X7_3 g127 (Nat.le_of_ble_eq_true rfl) ?_
  refine E_aload_n 0 dX7_init_4 rfl rfl ?_
  refine E_iconst (5 : Int32) dX7_init_5 (by decide) ?_
  refine E_newaI 5 dX7_init_6 ac_int (by decide) (by decide) (by decide) ?_
  obtain ⟨τ1, e2⟩ : ∃ τ : AH, τ = (aw σ 100 5) := ⟨_, rfl⟩
  replace h := h τ1 e2
  rw [← e2]
  have hk4 : kd _ x0 = (7, NO 7) := (congrFun (congrArg kd e2) _).trans ((up_ne _ _ _ (Nat.ne_of_lt hbx0)).trans hkx0)
  have hb5 := Nat.lt_of_lt_of_eq (Nat.lt_succ_of_lt hbx0) (congrArg nx e2).symm
  have hk6 : kd _ (nx σ) = (100, 5) := (congrFun (congrArg kd e2) _).trans (up_same _ _ _)
  have hb7 := Nat.lt_of_lt_of_eq (Nat.lt_succ_self _) (congrArg nx e2).symm
  obtain ⟨ga8, h⟩ := h
  obtain ⟨g9, h⟩ := h
  refine E_putR dX7_init_8 fl_X7_9 rfl (Or.inr ⟨rfl, rfl, rfl⟩) hk4 hb5 ga8 g9 ?_
  obtain ⟨τ10, e11⟩ : ∃ τ : AH, τ = (sR τ1 x0 0 (some (nx σ))) := ⟨_, rfl⟩
  replace h := h τ10 e11
  rw [← e11]
  have hk13 : kd _ x0 = (7, NO 7) := (congrFun (congrArg kd e11) _).trans hk4
  have hb14 := Nat.lt_of_lt_of_eq hb5 (congrArg nx e11).symm
  refine E_aload_n 0 dX7_init_11 rfl rfl ?_
  refine E_bipush (30 : Int32) dX7_init_12 (by decide) ?_
  refine E_newaI 30 dX7_init_14 ac_int (by decide) (by decide) (by decide) ?_
  obtain ⟨τ15, e16⟩ : ∃ τ : AH, τ = (aw τ10 100 30) := ⟨_, rfl⟩
  replace h := h τ15 e16
  rw [← e16]
  have hk18 : kd _ x0 = (7, NO 7) := (congrFun (congrArg kd e16) _).trans ((up_ne _ _ _ (Nat.ne_of_lt hb14)).trans hk13)
  have hb19 := Nat.lt_of_lt_of_eq (Nat.lt_succ_of_lt hb14) (congrArg nx e16).symm
  have hk20 : kd _ (nx τ10) = (100, 30) := (congrFun (congrArg kd e16) _).trans (up_same _ _ _)
  have hb21 := Nat.lt_of_lt_of_eq (Nat.lt_succ_self _) (congrArg nx e16).symm
  obtain ⟨ga22, h⟩ := h
  obtain ⟨g23, h⟩ := h
  refine E_putR dX7_init_16 fl_X7_15 rfl (Or.inr ⟨rfl, rfl, rfl⟩) hk18 hb19 ga22 g23 ?_
  obtain ⟨τ24, e25⟩ : ∃ τ : AH, τ = (sR τ15 x0 1 (some (nx τ10))) := ⟨_, rfl⟩
  replace h := h τ24 e25
  rw [← e25]
  have hk27 : kd _ x0 = (7, NO 7) := (congrFun (congrArg kd e25) _).trans hk18
  have hb28 := Nat.lt_of_lt_of_eq hb19 (congrArg nx e25).symm
  refine E_aload_n 0 dX7_init_19 rfl rfl ?_
  refine E_bipush (18 : Int32) dX7_init_20 (by decide) ?_
  refine E_newaI 18 dX7_init_22 ac_int (by decide) (by decide) (by decide) ?_
  obtain ⟨τ29, e30⟩ : ∃ τ : AH, τ = (aw τ24 100 18) := ⟨_, rfl⟩
  replace h := h τ29 e30
  rw [← e30]
  have hk32 : kd _ x0 = (7, NO 7) := (congrFun (congrArg kd e30) _).trans ((up_ne _ _ _ (Nat.ne_of_lt hb28)).trans hk27)
  have hb33 := Nat.lt_of_lt_of_eq (Nat.lt_succ_of_lt hb28) (congrArg nx e30).symm
  have hk34 : kd _ (nx τ24) = (100, 18) := (congrFun (congrArg kd e30) _).trans (up_same _ _ _)
  have hb35 := Nat.lt_of_lt_of_eq (Nat.lt_succ_self _) (congrArg nx e30).symm
  obtain ⟨ga36, h⟩ := h
  obtain ⟨g37, h⟩ := h
  refine E_putR dX7_init_24 fl_X7_18 rfl (Or.inr ⟨rfl, rfl, rfl⟩) hk32 hb33 ga36 g37 ?_
  obtain ⟨τ38, e39⟩ : ∃ τ : AH, τ = (sR τ29 x0 3 (some (nx τ24))) := ⟨_, rfl⟩
  replace h := h τ38 e39
  rw [← e39]
  have hk41 : kd _ x0 = (7, NO 7) := (congrFun (congrArg kd e39) _).trans hk32
  have hb42 := Nat.lt_of_lt_of_eq hb33 (congrArg nx e39).symm
  refine E_aload_n 0 dX7_init_27 rfl rfl ?_
  refine E_bipush (30 : Int32) dX7_init_28 (by decide) ?_
  refine E_newaI 30 dX7_init_30 ac_int (by decide) (by decide) (by decide) ?_
  obtain ⟨τ43, e44⟩ : ∃ τ : AH, τ = (aw τ38 100 30) := ⟨_, rfl⟩
  replace h := h τ43 e44
  rw [← e44]
  have hk46 : kd _ x0 = (7, NO 7) := (congrFun (congrArg kd e44) _).trans ((up_ne _ _ _ (Nat.ne_of_lt hb42)).trans hk41)
  have hb47 := Nat.lt_of_lt_of_eq (Nat.lt_succ_of_lt hb42) (congrArg nx e44).symm
  have hk48 : kd _ (nx τ38) = (100, 30) := (congrFun (congrArg kd e44) _).trans (up_same _ _ _)
  have hb49 := Nat.lt_of_lt_of_eq (Nat.lt_succ_self _) (congrArg nx e44).symm
  obtain ⟨ga50, h⟩ := h
  obtain ⟨g51, h⟩ := h
  refine E_putR dX7_init_32 fl_X7_21 rfl (Or.inr ⟨rfl, rfl, rfl⟩) hk46 hb47 ga50 g51 ?_
  obtain ⟨τ52, e53⟩ : ∃ τ : AH, τ = (sR τ43 x0 4 (some (nx τ38))) := ⟨_, rfl⟩
  replace h := h τ52 e53
  rw [← e53]
  have hk55 : kd _ x0 = (7, NO 7) := (congrFun (congrArg kd e53) _).trans hk46
  have hb56 := Nat.lt_of_lt_of_eq hb47 (congrArg nx e53).symm
  refine E_aload_n 0 dX7_init_35 rfl rfl ?_
  refine E_bipush (30 : Int32) dX7_init_36 (by decide) ?_
  refine E_newaI 30 dX7_init_38 ac_int (by decide) (by decide) (by decide) ?_
  obtain ⟨τ57, e58⟩ : ∃ τ : AH, τ = (aw τ52 100 30) := ⟨_, rfl⟩
  replace h := h τ57 e58
  rw [← e58]
  have hk60 : kd _ x0 = (7, NO 7) := (congrFun (congrArg kd e58) _).trans ((up_ne _ _ _ (Nat.ne_of_lt hb56)).trans hk55)
  have hb61 := Nat.lt_of_lt_of_eq (Nat.lt_succ_of_lt hb56) (congrArg nx e58).symm
  have hk62 : kd _ (nx τ52) = (100, 30) := (congrFun (congrArg kd e58) _).trans (up_same _ _ _)
  have hb63 := Nat.lt_of_lt_of_eq (Nat.lt_succ_self _) (congrArg nx e58).symm
  obtain ⟨ga64, h⟩ := h
  obtain ⟨g65, h⟩ := h
  refine E_putR dX7_init_40 fl_X7_24 rfl (Or.inr ⟨rfl, rfl, rfl⟩) hk60 hb61 ga64 g65 ?_
  obtain ⟨τ66, e67⟩ : ∃ τ : AH, τ = (sR τ57 x0 5 (some (nx τ52))) := ⟨_, rfl⟩
  replace h := h τ66 e67
  rw [← e67]
  have hk69 : kd _ x0 = (7, NO 7) := (congrFun (congrArg kd e67) _).trans hk60
  have hb70 := Nat.lt_of_lt_of_eq hb61 (congrArg nx e67).symm
  refine E_aload_n 0 dX7_init_43 rfl rfl ?_
  refine E_bipush (30 : Int32) dX7_init_44 (by decide) ?_
  refine E_newaI 30 dX7_init_46 ac_int (by decide) (by decide) (by decide) ?_
  obtain ⟨τ71, e72⟩ : ∃ τ : AH, τ = (aw τ66 100 30) := ⟨_, rfl⟩
  replace h := h τ71 e72
  rw [← e72]
  have hk74 : kd _ x0 = (7, NO 7) := (congrFun (congrArg kd e72) _).trans ((up_ne _ _ _ (Nat.ne_of_lt hb70)).trans hk69)
  have hb75 := Nat.lt_of_lt_of_eq (Nat.lt_succ_of_lt hb70) (congrArg nx e72).symm
  have hk76 : kd _ (nx τ66) = (100, 30) := (congrFun (congrArg kd e72) _).trans (up_same _ _ _)
  have hb77 := Nat.lt_of_lt_of_eq (Nat.lt_succ_self _) (congrArg nx e72).symm
  obtain ⟨ga78, h⟩ := h
  obtain ⟨g79, h⟩ := h
  refine E_putR dX7_init_48 fl_X7_27 rfl (Or.inr ⟨rfl, rfl, rfl⟩) hk74 hb75 ga78 g79 ?_
  obtain ⟨τ80, e81⟩ : ∃ τ : AH, τ = (sR τ71 x0 6 (some (nx τ66))) := ⟨_, rfl⟩
  replace h := h τ80 e81
  rw [← e81]
  have hk83 : kd _ x0 = (7, NO 7) := (congrFun (congrArg kd e81) _).trans hk74
  have hb84 := Nat.lt_of_lt_of_eq hb75 (congrArg nx e81).symm
  refine E_aload_n 0 dX7_init_51 rfl rfl ?_
  refine E_bipush (90 : Int32) dX7_init_52 (by decide) ?_
  refine E_newaI 90 dX7_init_54 ac_int (by decide) (by decide) (by decide) ?_
  obtain ⟨τ85, e86⟩ : ∃ τ : AH, τ = (aw τ80 100 90) := ⟨_, rfl⟩
  replace h := h τ85 e86
  rw [← e86]
  have hk88 : kd _ x0 = (7, NO 7) := (congrFun (congrArg kd e86) _).trans ((up_ne _ _ _ (Nat.ne_of_lt hb84)).trans hk83)
  have hb89 := Nat.lt_of_lt_of_eq (Nat.lt_succ_of_lt hb84) (congrArg nx e86).symm
  have hk90 : kd _ (nx τ80) = (100, 90) := (congrFun (congrArg kd e86) _).trans (up_same _ _ _)
  have hb91 := Nat.lt_of_lt_of_eq (Nat.lt_succ_self _) (congrArg nx e86).symm
  obtain ⟨ga92, h⟩ := h
  obtain ⟨g93, h⟩ := h
  refine E_putR dX7_init_56 fl_X7_30 rfl (Or.inr ⟨rfl, rfl, rfl⟩) hk88 hb89 ga92 g93 ?_
  obtain ⟨τ94, e95⟩ : ∃ τ : AH, τ = (sR τ85 x0 7 (some (nx τ80))) := ⟨_, rfl⟩
  replace h := h τ94 e95
  rw [← e95]
  have hk97 : kd _ x0 = (7, NO 7) := (congrFun (congrArg kd e95) _).trans hk88
  have hb98 := Nat.lt_of_lt_of_eq hb89 (congrArg nx e95).symm
  refine E_aload_n 0 dX7_init_59 rfl rfl ?_
  refine E_bipush (90 : Int32) dX7_init_60 (by decide) ?_
  refine E_newaI 90 dX7_init_62 ac_int (by decide) (by decide) (by decide) ?_
  obtain ⟨τ99, e100⟩ : ∃ τ : AH, τ = (aw τ94 100 90) := ⟨_, rfl⟩
  replace h := h τ99 e100
  rw [← e100]
  have hk102 : kd _ x0 = (7, NO 7) := (congrFun (congrArg kd e100) _).trans ((up_ne _ _ _ (Nat.ne_of_lt hb98)).trans hk97)
  have hb103 := Nat.lt_of_lt_of_eq (Nat.lt_succ_of_lt hb98) (congrArg nx e100).symm
  have hk104 : kd _ (nx τ94) = (100, 90) := (congrFun (congrArg kd e100) _).trans (up_same _ _ _)
  have hb105 := Nat.lt_of_lt_of_eq (Nat.lt_succ_self _) (congrArg nx e100).symm
  obtain ⟨ga106, h⟩ := h
  obtain ⟨g107, h⟩ := h
  refine E_putR dX7_init_64 fl_X7_33 rfl (Or.inr ⟨rfl, rfl, rfl⟩) hk102 hb103 ga106 g107 ?_
  obtain ⟨τ108, e109⟩ : ∃ τ : AH, τ = (sR τ99 x0 8 (some (nx τ94))) := ⟨_, rfl⟩
  replace h := h τ108 e109
  rw [← e109]
  have hk111 : kd _ x0 = (7, NO 7) := (congrFun (congrArg kd e109) _).trans hk102
  have hb112 := Nat.lt_of_lt_of_eq hb103 (congrArg nx e109).symm
  refine E_aload_n 0 dX7_init_67 rfl rfl ?_
  refine E_bipush (90 : Int32) dX7_init_68 (by decide) ?_
  refine E_newaI 90 dX7_init_70 ac_int (by decide) (by decide) (by decide) ?_
  obtain ⟨τ113, e114⟩ : ∃ τ : AH, τ = (aw τ108 100 90) := ⟨_, rfl⟩
  replace h := h τ113 e114
  rw [← e114]
  have hk116 : kd _ x0 = (7, NO 7) := (congrFun (congrArg kd e114) _).trans ((up_ne _ _ _ (Nat.ne_of_lt hb112)).trans hk111)
  have hb117 := Nat.lt_of_lt_of_eq (Nat.lt_succ_of_lt hb112) (congrArg nx e114).symm
  have hk118 : kd _ (nx τ108) = (100, 90) := (congrFun (congrArg kd e114) _).trans (up_same _ _ _)
  have hb119 := Nat.lt_of_lt_of_eq (Nat.lt_succ_self _) (congrArg nx e114).symm
  obtain ⟨ga120, h⟩ := h
  obtain ⟨g121, h⟩ := h
  refine E_putR dX7_init_72 fl_X7_36 rfl (Or.inr ⟨rfl, rfl, rfl⟩) hk116 hb117 ga120 g121 ?_
  obtain ⟨τ122, e123⟩ : ∃ τ : AH, τ = (sR τ113 x0 9 (some (nx τ108))) := ⟨_, rfl⟩
  replace h := h τ122 e123
  rw [← e123]
  have hk125 : kd _ x0 = (7, NO 7) := (congrFun (congrArg kd e123) _).trans hk116
  have hb126 := Nat.lt_of_lt_of_eq hb117 (congrArg nx e123).symm
  obtain ⟨rfl, rfl⟩ := h
  exact E_vret dX7_init_75 rfl
def W_X7_empty_0 (X : Sx) (l : Launch) (D : Nat) (x0 : Nat) (σ : AH) (r : Option Value) (σ' : AH) : Prop := 1 ≤ D ∧ (∀ τ2 : AH, τ2 = (sA σ (x0 + 1) (filln (gI σ (x0 + 1)) 5 (0 : Int32))) → 1 ≤ D ∧ (∀ τ6 : AH, τ6 = (sA (sI τ2 x0 2 (0 : Int32)) (x0 + 3) (filln (gI (sI τ2 x0 2 (0 : Int32)) (x0 + 3)) 18 (0 : Int32))) → 1 ≤ D ∧ (∀ τ10 : AH, τ10 = (sA τ6 (x0 + 4) (filln (gI τ6 (x0 + 4)) 30 (0 : Int32))) → 1 ≤ D ∧ (∀ τ14 : AH, τ14 = (sA τ10 (x0 + 5) (filln (gI τ10 (x0 + 5)) 30 (0 : Int32))) → 1 ≤ D ∧ (∀ τ18 : AH, τ18 = (sA τ14 (x0 + 6) (filln (gI τ14 (x0 + 6)) 30 (-1 : Int32))) → 1 ≤ D ∧ (∀ τ22 : AH, τ22 = (sA τ18 (x0 + 7) (filln (gI τ18 (x0 + 7)) 90 (-1 : Int32))) → 1 ≤ D ∧ (∀ τ26 : AH, τ26 = (sA τ22 (x0 + 8) (filln (gI τ22 (x0 + 8)) 90 (-1 : Int32))) → 1 ≤ D ∧ (∀ τ30 : AH, τ30 = (sA τ26 (x0 + 9) (filln (gI τ26 (x0 + 9)) 90 (-1 : Int32))) → (r = none ∧ σ' = τ30)))))))))
set_option maxRecDepth 100000 in
theorem w_X7_empty_0 {X : Sx} {l : Launch} {D : Nat} {x0 : Nat} {σ : AH} {r : Option Value} {σ' : AH} (hs : Sh σ) (hmx0 : x0 ∈ siteIds) (h : W_X7_empty_0 X l D x0 σ r σ') : E X l m_X7_empty D 0 [(0, .ref x0)] [] σ r σ' := by
  unfold W_X7_empty_0 at h
  refine E_aload_n 0 dX7_empty_0 rfl rfl ?_
  refine E_getR (x0 + 1) dX7_empty_1 fl_X7_9 rfl (st_k hs hmx0) (st_n hs hmx0 (j := 0) (by decide)) (st_r0 hs hmx0) ?_
  refine E_iconst (0 : Int32) dX7_empty_4 (by decide) ?_
  obtain ⟨g1, h⟩ := h
  refine E_fill dX7_empty_5 ml_X7_39 (sk_stock hs (st_stock hmx0)) (sn_stock hs (st_stock hmx0)) (Or.inl ((by decide : ∀ b ∈ stockIds, m_X7_empty.2.2.2.2.1.contains b = true) _ (st_stock hmx0))) g1 (by decide) (Nat.le_of_ble_eq_true rfl) ?_
  obtain ⟨τ2, e3⟩ : ∃ τ : AH, τ = (sA σ (x0 + 1) (filln (gI σ (x0 + 1)) 5 (0 : Int32))) := ⟨_, rfl⟩
  replace h := h τ2 e3
  rw [← e3]
  have hs4 : Sh τ2 := by rw [e3]; exact hs
  refine E_aload_n 0 dX7_empty_8 rfl rfl ?_
  refine E_iconst (0 : Int32) dX7_empty_9 (by decide) ?_
  refine E_putI dX7_empty_10 fl_X7_45 rfl (Or.inl rfl) (st_k hs4 hmx0) (st_n hs4 hmx0 (j := 0) (by decide)) (Or.inl ((by decide : ∀ b ∈ siteIds, m_X7_empty.2.2.2.2.1.contains b = true) _ hmx0)) rfl rfl ?_
  refine E_aload_n 0 dX7_empty_13 rfl rfl ?_
  refine E_getR (x0 + 3) dX7_empty_14 fl_X7_18 rfl (st_k hs4 hmx0) (st_n hs4 hmx0 (j := 0) (by decide)) (st_r3 hs4 hmx0) ?_
  refine E_iconst (0 : Int32) dX7_empty_17 (by decide) ?_
  obtain ⟨g5, h⟩ := h
  refine E_fill dX7_empty_18 ml_X7_39 (st_ka3 hs4 hmx0) (st_n hs4 hmx0 (by decide)) (Or.inl ((by decide : ∀ b ∈ siteIds, m_X7_empty.2.2.2.2.1.contains (b + 3) = true) _ hmx0)) g5 (by decide) (Nat.le_of_ble_eq_true rfl) ?_
  obtain ⟨τ6, e7⟩ : ∃ τ : AH, τ = (sA (sI τ2 x0 2 (0 : Int32)) (x0 + 3) (filln (gI (sI τ2 x0 2 (0 : Int32)) (x0 + 3)) 18 (0 : Int32))) := ⟨_, rfl⟩
  replace h := h τ6 e7
  rw [← e7]
  have hs8 : Sh τ6 := by rw [e7]; exact hs4
  refine E_aload_n 0 dX7_empty_21 rfl rfl ?_
  refine E_getR (x0 + 4) dX7_empty_22 fl_X7_21 rfl (st_k hs8 hmx0) (st_n hs8 hmx0 (j := 0) (by decide)) (st_r4 hs8 hmx0) ?_
  refine E_iconst (0 : Int32) dX7_empty_25 (by decide) ?_
  obtain ⟨g9, h⟩ := h
  refine E_fill dX7_empty_26 ml_X7_39 (st_ka4 hs8 hmx0) (st_n hs8 hmx0 (by decide)) (Or.inl ((by decide : ∀ b ∈ siteIds, m_X7_empty.2.2.2.2.1.contains (b + 4) = true) _ hmx0)) g9 (by decide) (Nat.le_of_ble_eq_true rfl) ?_
  obtain ⟨τ10, e11⟩ : ∃ τ : AH, τ = (sA τ6 (x0 + 4) (filln (gI τ6 (x0 + 4)) 30 (0 : Int32))) := ⟨_, rfl⟩
  replace h := h τ10 e11
  rw [← e11]
  have hs12 : Sh τ10 := by rw [e11]; exact hs8
  refine E_aload_n 0 dX7_empty_29 rfl rfl ?_
  refine E_getR (x0 + 5) dX7_empty_30 fl_X7_24 rfl (st_k hs12 hmx0) (st_n hs12 hmx0 (j := 0) (by decide)) (st_r5 hs12 hmx0) ?_
  refine E_iconst (0 : Int32) dX7_empty_33 (by decide) ?_
  obtain ⟨g13, h⟩ := h
  refine E_fill dX7_empty_34 ml_X7_39 (st_ka5 hs12 hmx0) (st_n hs12 hmx0 (by decide)) (Or.inl ((by decide : ∀ b ∈ siteIds, m_X7_empty.2.2.2.2.1.contains (b + 5) = true) _ hmx0)) g13 (by decide) (Nat.le_of_ble_eq_true rfl) ?_
  obtain ⟨τ14, e15⟩ : ∃ τ : AH, τ = (sA τ10 (x0 + 5) (filln (gI τ10 (x0 + 5)) 30 (0 : Int32))) := ⟨_, rfl⟩
  replace h := h τ14 e15
  rw [← e15]
  have hs16 : Sh τ14 := by rw [e15]; exact hs12
  refine E_aload_n 0 dX7_empty_37 rfl rfl ?_
  refine E_getR (x0 + 6) dX7_empty_38 fl_X7_27 rfl (st_k hs16 hmx0) (st_n hs16 hmx0 (j := 0) (by decide)) (st_r6 hs16 hmx0) ?_
  refine E_iconst (-1 : Int32) dX7_empty_41 (by decide) ?_
  obtain ⟨g17, h⟩ := h
  refine E_fill dX7_empty_42 ml_X7_39 (st_ka6 hs16 hmx0) (st_n hs16 hmx0 (by decide)) (Or.inl ((by decide : ∀ b ∈ siteIds, m_X7_empty.2.2.2.2.1.contains (b + 6) = true) _ hmx0)) g17 (by decide) (Nat.le_of_ble_eq_true rfl) ?_
  obtain ⟨τ18, e19⟩ : ∃ τ : AH, τ = (sA τ14 (x0 + 6) (filln (gI τ14 (x0 + 6)) 30 (-1 : Int32))) := ⟨_, rfl⟩
  replace h := h τ18 e19
  rw [← e19]
  have hs20 : Sh τ18 := by rw [e19]; exact hs16
  refine E_aload_n 0 dX7_empty_45 rfl rfl ?_
  refine E_getR (x0 + 7) dX7_empty_46 fl_X7_30 rfl (st_k hs20 hmx0) (st_n hs20 hmx0 (j := 0) (by decide)) (st_r7 hs20 hmx0) ?_
  refine E_iconst (-1 : Int32) dX7_empty_49 (by decide) ?_
  obtain ⟨g21, h⟩ := h
  refine E_fill dX7_empty_50 ml_X7_39 (st_ka7 hs20 hmx0) (st_n hs20 hmx0 (by decide)) (Or.inl ((by decide : ∀ b ∈ siteIds, m_X7_empty.2.2.2.2.1.contains (b + 7) = true) _ hmx0)) g21 (by decide) (Nat.le_of_ble_eq_true rfl) ?_
  obtain ⟨τ22, e23⟩ : ∃ τ : AH, τ = (sA τ18 (x0 + 7) (filln (gI τ18 (x0 + 7)) 90 (-1 : Int32))) := ⟨_, rfl⟩
  replace h := h τ22 e23
  rw [← e23]
  have hs24 : Sh τ22 := by rw [e23]; exact hs20
  refine E_aload_n 0 dX7_empty_53 rfl rfl ?_
  refine E_getR (x0 + 8) dX7_empty_54 fl_X7_33 rfl (st_k hs24 hmx0) (st_n hs24 hmx0 (j := 0) (by decide)) (st_r8 hs24 hmx0) ?_
  refine E_iconst (-1 : Int32) dX7_empty_57 (by decide) ?_
  obtain ⟨g25, h⟩ := h
  refine E_fill dX7_empty_58 ml_X7_39 (st_ka8 hs24 hmx0) (st_n hs24 hmx0 (by decide)) (Or.inl ((by decide : ∀ b ∈ siteIds, m_X7_empty.2.2.2.2.1.contains (b + 8) = true) _ hmx0)) g25 (by decide) (Nat.le_of_ble_eq_true rfl) ?_
  obtain ⟨τ26, e27⟩ : ∃ τ : AH, τ = (sA τ22 (x0 + 8) (filln (gI τ22 (x0 + 8)) 90 (-1 : Int32))) := ⟨_, rfl⟩
  replace h := h τ26 e27
  rw [← e27]
  have hs28 : Sh τ26 := by rw [e27]; exact hs24
  refine E_aload_n 0 dX7_empty_61 rfl rfl ?_
  refine E_getR (x0 + 9) dX7_empty_62 fl_X7_36 rfl (st_k hs28 hmx0) (st_n hs28 hmx0 (j := 0) (by decide)) (st_r9 hs28 hmx0) ?_
  refine E_iconst (-1 : Int32) dX7_empty_65 (by decide) ?_
  obtain ⟨g29, h⟩ := h
  refine E_fill dX7_empty_66 ml_X7_39 (st_ka9 hs28 hmx0) (st_n hs28 hmx0 (by decide)) (Or.inl ((by decide : ∀ b ∈ siteIds, m_X7_empty.2.2.2.2.1.contains (b + 9) = true) _ hmx0)) g29 (by decide) (Nat.le_of_ble_eq_true rfl) ?_
  obtain ⟨τ30, e31⟩ : ∃ τ : AH, τ = (sA τ26 (x0 + 9) (filln (gI τ26 (x0 + 9)) 90 (-1 : Int32))) := ⟨_, rfl⟩
  replace h := h τ30 e31
  rw [← e31]
  have hs32 : Sh τ30 := by rw [e31]; exact hs28
  obtain ⟨rfl, rfl⟩ := h
  exact E_vret dX7_empty_69 rfl
def W_X7_copyFrom_0 (X : Sx) (l : Launch) (D : Nat) (x0 : Nat) (x1 : Nat) (x2 : Int32) (σ : AH) (r : Option Value) (σ' : AH) : Prop := 0 + 5 ≤ 5 ∧ 0 + 5 ≤ 5 ∧ 1 ≤ D ∧ (∀ τ7 : AH, τ7 = (sA σ (x0 + 1) (va_cpy (gI σ (x1 + 1)) (gI σ (x0 + 1)) 0 0 5)) → ¬ (gI τ7 x1 2) < 0 ∧ 0 + (gI τ7 x1 2).toNatClampNeg ≤ 30 ∧ 0 + (gI τ7 x1 2).toNatClampNeg ≤ 30 ∧ 1 ≤ D ∧ (∀ τ16 : AH, τ16 = (sA τ7 (x0 + 2) (va_cpy (gI τ7 (x1 + 2)) (gI τ7 (x0 + 2)) 0 0 ((gI τ7 x1 2).toNatClampNeg))) → 0 + 18 ≤ 18 ∧ 0 + 18 ≤ 18 ∧ 1 ≤ D ∧ (∀ τ25 : AH, τ25 = (sA (sI τ16 x0 2 (gI τ16 x1 2)) (x0 + 3) (va_cpy (gI (sI τ16 x0 2 (gI τ16 x1 2)) (x1 + 3)) (gI (sI τ16 x0 2 (gI τ16 x1 2)) (x0 + 3)) 0 0 18)) → ¬ x2 < 0 ∧ 0 + x2.toNatClampNeg ≤ 30 ∧ 0 + x2.toNatClampNeg ≤ 30 ∧ 1 ≤ D ∧ (∀ τ34 : AH, τ34 = (sA τ25 (x0 + 4) (va_cpy (gI τ25 (x1 + 4)) (gI τ25 (x0 + 4)) 0 0 x2.toNatClampNeg)) → ¬ x2 < 0 ∧ 0 + x2.toNatClampNeg ≤ 30 ∧ 0 + x2.toNatClampNeg ≤ 30 ∧ 1 ≤ D ∧ (∀ τ43 : AH, τ43 = (sA τ34 (x0 + 5) (va_cpy (gI τ34 (x1 + 5)) (gI τ34 (x0 + 5)) 0 0 x2.toNatClampNeg)) → ¬ x2 < 0 ∧ 0 + x2.toNatClampNeg ≤ 30 ∧ 0 + x2.toNatClampNeg ≤ 30 ∧ 1 ≤ D ∧ (∀ τ52 : AH, τ52 = (sA τ43 (x0 + 6) (va_cpy (gI τ43 (x1 + 6)) (gI τ43 (x0 + 6)) 0 0 x2.toNatClampNeg)) → ¬ (x2 * (3 : Int32)) < 0 ∧ 0 + (x2 * (3 : Int32)).toNatClampNeg ≤ 90 ∧ 0 + (x2 * (3 : Int32)).toNatClampNeg ≤ 90 ∧ 1 ≤ D ∧ (∀ τ61 : AH, τ61 = (sA τ52 (x0 + 7) (va_cpy (gI τ52 (x1 + 7)) (gI τ52 (x0 + 7)) 0 0 ((x2 * (3 : Int32)).toNatClampNeg))) → ¬ (x2 * (3 : Int32)) < 0 ∧ 0 + (x2 * (3 : Int32)).toNatClampNeg ≤ 90 ∧ 0 + (x2 * (3 : Int32)).toNatClampNeg ≤ 90 ∧ 1 ≤ D ∧ (∀ τ70 : AH, τ70 = (sA τ61 (x0 + 8) (va_cpy (gI τ61 (x1 + 8)) (gI τ61 (x0 + 8)) 0 0 ((x2 * (3 : Int32)).toNatClampNeg))) → ¬ (x2 * (3 : Int32)) < 0 ∧ 0 + (x2 * (3 : Int32)).toNatClampNeg ≤ 90 ∧ 0 + (x2 * (3 : Int32)).toNatClampNeg ≤ 90 ∧ 1 ≤ D ∧ (∀ τ79 : AH, τ79 = (sA τ70 (x0 + 9) (va_cpy (gI τ70 (x1 + 9)) (gI τ70 (x0 + 9)) 0 0 ((x2 * (3 : Int32)).toNatClampNeg))) → (r = none ∧ σ' = τ79))))))))))
set_option maxRecDepth 100000 in
theorem w_X7_copyFrom_0 {X : Sx} {l : Launch} {D : Nat} {x0 : Nat} {x1 : Nat} {x2 : Int32} {σ : AH} {r : Option Value} {σ' : AH} (hs : Sh σ) (hmx0 : x0 ∈ siteIds) (hmx1 : x1 ∈ siteIds) (h : W_X7_copyFrom_0 X l D x0 x1 x2 σ r σ') : E X l m_X7_copyFrom D 0 [(0, .ref x0), (1, .ref x1), (2, .int x2)] [] σ r σ' := by
  unfold W_X7_copyFrom_0 at h
  refine E_aload_n 1 dX7_copyFrom_0 rfl rfl ?_
  refine E_getR (x1 + 1) dX7_copyFrom_1 fl_X7_9 rfl (st_k hs hmx1) (st_n hs hmx1 (j := 0) (by decide)) (st_r0 hs hmx1) ?_
  refine E_iconst (0 : Int32) dX7_copyFrom_4 (by decide) ?_
  refine E_aload_n 0 dX7_copyFrom_5 rfl rfl ?_
  refine E_getR (x0 + 1) dX7_copyFrom_6 fl_X7_9 rfl (st_k hs hmx0) (st_n hs hmx0 (j := 0) (by decide)) (st_r0 hs hmx0) ?_
  refine E_iconst (0 : Int32) dX7_copyFrom_9 (by decide) ?_
  refine E_iconst (5 : Int32) dX7_copyFrom_10 (by decide) ?_
  obtain ⟨g4, g5, g6, h⟩ := h
  refine E_copy2 (0) (0) (5) dX7_copyFrom_11 ma_X7_49 (sk_stock hs (st_stock hmx1)) (sn_stock hs (st_stock hmx1)) (sk_stock hs (st_stock hmx0)) (sn_stock hs (st_stock hmx0)) (by decide) (by decide) (by decide) (by decide) (by decide) (by decide) g4 g5 g6 (Nat.le_of_ble_eq_true rfl) (Or.inl ((by decide : ∀ b ∈ stockIds, m_X7_copyFrom.2.2.2.2.1.contains b = true) _ (st_stock hmx0))) ?_
  obtain ⟨τ7, e8⟩ : ∃ τ : AH, τ = (sA σ (x0 + 1) (va_cpy (gI σ (x1 + 1)) (gI σ (x0 + 1)) 0 0 5)) := ⟨_, rfl⟩
  replace h := h τ7 e8
  rw [← e8]
  have hs9 : Sh τ7 := by rw [e8]; exact hs
  refine E_aload_n 1 dX7_copyFrom_14 rfl rfl ?_
  refine E_getR (x1 + 2) dX7_copyFrom_15 fl_X7_15 rfl (st_k hs9 hmx1) (st_n hs9 hmx1 (j := 0) (by decide)) (st_r1 hs9 hmx1) ?_
  refine E_iconst (0 : Int32) dX7_copyFrom_18 (by decide) ?_
  refine E_aload_n 0 dX7_copyFrom_19 rfl rfl ?_
  refine E_getR (x0 + 2) dX7_copyFrom_20 fl_X7_15 rfl (st_k hs9 hmx0) (st_n hs9 hmx0 (j := 0) (by decide)) (st_r1 hs9 hmx0) ?_
  refine E_iconst (0 : Int32) dX7_copyFrom_23 (by decide) ?_
  refine E_aload_n 1 dX7_copyFrom_24 rfl rfl ?_
  refine E_getI dX7_copyFrom_25 fl_X7_45 rfl (st_k hs9 hmx1) (st_n hs9 hmx1 (j := 0) (by decide)) ?_
  obtain ⟨g12, g13, g14, g15, h⟩ := h
  refine E_copy2 (0) (0) ((gI τ7 x1 2).toNatClampNeg) dX7_copyFrom_28 ma_X7_49 (st_ka2 hs9 hmx1) (st_n hs9 hmx1 (by decide)) (st_ka2 hs9 hmx0) (st_n hs9 hmx0 (by decide)) (by decide) (by decide) g12 (by decide) (by decide) rfl g13 g14 g15 (Nat.le_of_ble_eq_true rfl) (Or.inl ((by decide : ∀ b ∈ siteIds, m_X7_copyFrom.2.2.2.2.1.contains (b + 2) = true) _ hmx0)) ?_
  obtain ⟨τ16, e17⟩ : ∃ τ : AH, τ = (sA τ7 (x0 + 2) (va_cpy (gI τ7 (x1 + 2)) (gI τ7 (x0 + 2)) 0 0 ((gI τ7 x1 2).toNatClampNeg))) := ⟨_, rfl⟩
  replace h := h τ16 e17
  rw [← e17]
  have hs18 : Sh τ16 := by rw [e17]; exact hs9
  refine E_aload_n 0 dX7_copyFrom_31 rfl rfl ?_
  refine E_aload_n 1 dX7_copyFrom_32 rfl rfl ?_
  refine E_getI dX7_copyFrom_33 fl_X7_45 rfl (st_k hs18 hmx1) (st_n hs18 hmx1 (j := 0) (by decide)) ?_
  refine E_putI dX7_copyFrom_36 fl_X7_45 rfl (Or.inl rfl) (st_k hs18 hmx0) (st_n hs18 hmx0 (j := 0) (by decide)) (Or.inl ((by decide : ∀ b ∈ siteIds, m_X7_copyFrom.2.2.2.2.1.contains b = true) _ hmx0)) rfl rfl ?_
  refine E_aload_n 1 dX7_copyFrom_39 rfl rfl ?_
  refine E_getR (x1 + 3) dX7_copyFrom_40 fl_X7_18 rfl (st_k hs18 hmx1) (st_n hs18 hmx1 (j := 0) (by decide)) (st_r3 hs18 hmx1) ?_
  refine E_iconst (0 : Int32) dX7_copyFrom_43 (by decide) ?_
  refine E_aload_n 0 dX7_copyFrom_44 rfl rfl ?_
  refine E_getR (x0 + 3) dX7_copyFrom_45 fl_X7_18 rfl (st_k hs18 hmx0) (st_n hs18 hmx0 (j := 0) (by decide)) (st_r3 hs18 hmx0) ?_
  refine E_iconst (0 : Int32) dX7_copyFrom_48 (by decide) ?_
  refine E_aload_n 0 dX7_copyFrom_49 rfl rfl ?_
  refine E_getR (x0 + 3) dX7_copyFrom_50 fl_X7_18 rfl (st_k hs18 hmx0) (st_n hs18 hmx0 (j := 0) (by decide)) (st_r3 hs18 hmx0) ?_
  refine E_alen2 (18 : Int32) dX7_copyFrom_53 (st_ka3 hs18 hmx0) (st_n hs18 hmx0 (by decide)) (by decide) (by decide) (by decide) ?_
  obtain ⟨g22, g23, g24, h⟩ := h
  refine E_copy2 (0) (0) (18) dX7_copyFrom_54 ma_X7_49 (st_ka3 hs18 hmx1) (st_n hs18 hmx1 (by decide)) (st_ka3 hs18 hmx0) (st_n hs18 hmx0 (by decide)) (by decide) (by decide) (by decide) (by decide) (by decide) (by decide) g22 g23 g24 (Nat.le_of_ble_eq_true rfl) (Or.inl ((by decide : ∀ b ∈ siteIds, m_X7_copyFrom.2.2.2.2.1.contains (b + 3) = true) _ hmx0)) ?_
  obtain ⟨τ25, e26⟩ : ∃ τ : AH, τ = (sA (sI τ16 x0 2 (gI τ16 x1 2)) (x0 + 3) (va_cpy (gI (sI τ16 x0 2 (gI τ16 x1 2)) (x1 + 3)) (gI (sI τ16 x0 2 (gI τ16 x1 2)) (x0 + 3)) 0 0 18)) := ⟨_, rfl⟩
  replace h := h τ25 e26
  rw [← e26]
  have hs27 : Sh τ25 := by rw [e26]; exact hs18
  refine E_aload_n 1 dX7_copyFrom_57 rfl rfl ?_
  refine E_getR (x1 + 4) dX7_copyFrom_58 fl_X7_21 rfl (st_k hs27 hmx1) (st_n hs27 hmx1 (j := 0) (by decide)) (st_r4 hs27 hmx1) ?_
  refine E_iconst (0 : Int32) dX7_copyFrom_61 (by decide) ?_
  refine E_aload_n 0 dX7_copyFrom_62 rfl rfl ?_
  refine E_getR (x0 + 4) dX7_copyFrom_63 fl_X7_21 rfl (st_k hs27 hmx0) (st_n hs27 hmx0 (j := 0) (by decide)) (st_r4 hs27 hmx0) ?_
  refine E_iconst (0 : Int32) dX7_copyFrom_66 (by decide) ?_
  refine E_iload_n 2 dX7_copyFrom_67 rfl rfl ?_
  obtain ⟨g30, g31, g32, g33, h⟩ := h
  refine E_copy2 (0) (0) (x2.toNatClampNeg) dX7_copyFrom_68 ma_X7_49 (st_ka4 hs27 hmx1) (st_n hs27 hmx1 (by decide)) (st_ka4 hs27 hmx0) (st_n hs27 hmx0 (by decide)) (by decide) (by decide) g30 (by decide) (by decide) rfl g31 g32 g33 (Nat.le_of_ble_eq_true rfl) (Or.inl ((by decide : ∀ b ∈ siteIds, m_X7_copyFrom.2.2.2.2.1.contains (b + 4) = true) _ hmx0)) ?_
  obtain ⟨τ34, e35⟩ : ∃ τ : AH, τ = (sA τ25 (x0 + 4) (va_cpy (gI τ25 (x1 + 4)) (gI τ25 (x0 + 4)) 0 0 x2.toNatClampNeg)) := ⟨_, rfl⟩
  replace h := h τ34 e35
  rw [← e35]
  have hs36 : Sh τ34 := by rw [e35]; exact hs27
  refine E_aload_n 1 dX7_copyFrom_71 rfl rfl ?_
  refine E_getR (x1 + 5) dX7_copyFrom_72 fl_X7_24 rfl (st_k hs36 hmx1) (st_n hs36 hmx1 (j := 0) (by decide)) (st_r5 hs36 hmx1) ?_
  refine E_iconst (0 : Int32) dX7_copyFrom_75 (by decide) ?_
  refine E_aload_n 0 dX7_copyFrom_76 rfl rfl ?_
  refine E_getR (x0 + 5) dX7_copyFrom_77 fl_X7_24 rfl (st_k hs36 hmx0) (st_n hs36 hmx0 (j := 0) (by decide)) (st_r5 hs36 hmx0) ?_
  refine E_iconst (0 : Int32) dX7_copyFrom_80 (by decide) ?_
  refine E_iload_n 2 dX7_copyFrom_81 rfl rfl ?_
  obtain ⟨g39, g40, g41, g42, h⟩ := h
  refine E_copy2 (0) (0) (x2.toNatClampNeg) dX7_copyFrom_82 ma_X7_49 (st_ka5 hs36 hmx1) (st_n hs36 hmx1 (by decide)) (st_ka5 hs36 hmx0) (st_n hs36 hmx0 (by decide)) (by decide) (by decide) g39 (by decide) (by decide) rfl g40 g41 g42 (Nat.le_of_ble_eq_true rfl) (Or.inl ((by decide : ∀ b ∈ siteIds, m_X7_copyFrom.2.2.2.2.1.contains (b + 5) = true) _ hmx0)) ?_
  obtain ⟨τ43, e44⟩ : ∃ τ : AH, τ = (sA τ34 (x0 + 5) (va_cpy (gI τ34 (x1 + 5)) (gI τ34 (x0 + 5)) 0 0 x2.toNatClampNeg)) := ⟨_, rfl⟩
  replace h := h τ43 e44
  rw [← e44]
  have hs45 : Sh τ43 := by rw [e44]; exact hs36
  refine E_aload_n 1 dX7_copyFrom_85 rfl rfl ?_
  refine E_getR (x1 + 6) dX7_copyFrom_86 fl_X7_27 rfl (st_k hs45 hmx1) (st_n hs45 hmx1 (j := 0) (by decide)) (st_r6 hs45 hmx1) ?_
  refine E_iconst (0 : Int32) dX7_copyFrom_89 (by decide) ?_
  refine E_aload_n 0 dX7_copyFrom_90 rfl rfl ?_
  refine E_getR (x0 + 6) dX7_copyFrom_91 fl_X7_27 rfl (st_k hs45 hmx0) (st_n hs45 hmx0 (j := 0) (by decide)) (st_r6 hs45 hmx0) ?_
  refine E_iconst (0 : Int32) dX7_copyFrom_94 (by decide) ?_
  refine E_iload_n 2 dX7_copyFrom_95 rfl rfl ?_
  obtain ⟨g48, g49, g50, g51, h⟩ := h
  refine E_copy2 (0) (0) (x2.toNatClampNeg) dX7_copyFrom_96 ma_X7_49 (st_ka6 hs45 hmx1) (st_n hs45 hmx1 (by decide)) (st_ka6 hs45 hmx0) (st_n hs45 hmx0 (by decide)) (by decide) (by decide) g48 (by decide) (by decide) rfl g49 g50 g51 (Nat.le_of_ble_eq_true rfl) (Or.inl ((by decide : ∀ b ∈ siteIds, m_X7_copyFrom.2.2.2.2.1.contains (b + 6) = true) _ hmx0)) ?_
  obtain ⟨τ52, e53⟩ : ∃ τ : AH, τ = (sA τ43 (x0 + 6) (va_cpy (gI τ43 (x1 + 6)) (gI τ43 (x0 + 6)) 0 0 x2.toNatClampNeg)) := ⟨_, rfl⟩
  replace h := h τ52 e53
  rw [← e53]
  have hs54 : Sh τ52 := by rw [e53]; exact hs45
  refine E_aload_n 1 dX7_copyFrom_99 rfl rfl ?_
  refine E_getR (x1 + 7) dX7_copyFrom_100 fl_X7_30 rfl (st_k hs54 hmx1) (st_n hs54 hmx1 (j := 0) (by decide)) (st_r7 hs54 hmx1) ?_
  refine E_iconst (0 : Int32) dX7_copyFrom_103 (by decide) ?_
  refine E_aload_n 0 dX7_copyFrom_104 rfl rfl ?_
  refine E_getR (x0 + 7) dX7_copyFrom_105 fl_X7_30 rfl (st_k hs54 hmx0) (st_n hs54 hmx0 (j := 0) (by decide)) (st_r7 hs54 hmx0) ?_
  refine E_iconst (0 : Int32) dX7_copyFrom_108 (by decide) ?_
  refine E_iload_n 2 dX7_copyFrom_109 rfl rfl ?_
  refine E_iconst (3 : Int32) dX7_copyFrom_110 (by decide) ?_
  refine E_imul dX7_copyFrom_111 ?_
  obtain ⟨g57, g58, g59, g60, h⟩ := h
  refine E_copy2 (0) (0) ((x2 * (3 : Int32)).toNatClampNeg) dX7_copyFrom_112 ma_X7_49 (st_ka7 hs54 hmx1) (st_n hs54 hmx1 (by decide)) (st_ka7 hs54 hmx0) (st_n hs54 hmx0 (by decide)) (by decide) (by decide) g57 (by decide) (by decide) rfl g58 g59 g60 (Nat.le_of_ble_eq_true rfl) (Or.inl ((by decide : ∀ b ∈ siteIds, m_X7_copyFrom.2.2.2.2.1.contains (b + 7) = true) _ hmx0)) ?_
  obtain ⟨τ61, e62⟩ : ∃ τ : AH, τ = (sA τ52 (x0 + 7) (va_cpy (gI τ52 (x1 + 7)) (gI τ52 (x0 + 7)) 0 0 ((x2 * (3 : Int32)).toNatClampNeg))) := ⟨_, rfl⟩
  replace h := h τ61 e62
  rw [← e62]
  have hs63 : Sh τ61 := by rw [e62]; exact hs54
  refine E_aload_n 1 dX7_copyFrom_115 rfl rfl ?_
  refine E_getR (x1 + 8) dX7_copyFrom_116 fl_X7_33 rfl (st_k hs63 hmx1) (st_n hs63 hmx1 (j := 0) (by decide)) (st_r8 hs63 hmx1) ?_
  refine E_iconst (0 : Int32) dX7_copyFrom_119 (by decide) ?_
  refine E_aload_n 0 dX7_copyFrom_120 rfl rfl ?_
  refine E_getR (x0 + 8) dX7_copyFrom_121 fl_X7_33 rfl (st_k hs63 hmx0) (st_n hs63 hmx0 (j := 0) (by decide)) (st_r8 hs63 hmx0) ?_
  refine E_iconst (0 : Int32) dX7_copyFrom_124 (by decide) ?_
  refine E_iload_n 2 dX7_copyFrom_125 rfl rfl ?_
  refine E_iconst (3 : Int32) dX7_copyFrom_126 (by decide) ?_
  refine E_imul dX7_copyFrom_127 ?_
  obtain ⟨g66, g67, g68, g69, h⟩ := h
  refine E_copy2 (0) (0) ((x2 * (3 : Int32)).toNatClampNeg) dX7_copyFrom_128 ma_X7_49 (st_ka8 hs63 hmx1) (st_n hs63 hmx1 (by decide)) (st_ka8 hs63 hmx0) (st_n hs63 hmx0 (by decide)) (by decide) (by decide) g66 (by decide) (by decide) rfl g67 g68 g69 (Nat.le_of_ble_eq_true rfl) (Or.inl ((by decide : ∀ b ∈ siteIds, m_X7_copyFrom.2.2.2.2.1.contains (b + 8) = true) _ hmx0)) ?_
  obtain ⟨τ70, e71⟩ : ∃ τ : AH, τ = (sA τ61 (x0 + 8) (va_cpy (gI τ61 (x1 + 8)) (gI τ61 (x0 + 8)) 0 0 ((x2 * (3 : Int32)).toNatClampNeg))) := ⟨_, rfl⟩
  replace h := h τ70 e71
  rw [← e71]
  have hs72 : Sh τ70 := by rw [e71]; exact hs63
  refine E_aload_n 1 dX7_copyFrom_131 rfl rfl ?_
  refine E_getR (x1 + 9) dX7_copyFrom_132 fl_X7_36 rfl (st_k hs72 hmx1) (st_n hs72 hmx1 (j := 0) (by decide)) (st_r9 hs72 hmx1) ?_
  refine E_iconst (0 : Int32) dX7_copyFrom_135 (by decide) ?_
  refine E_aload_n 0 dX7_copyFrom_136 rfl rfl ?_
  refine E_getR (x0 + 9) dX7_copyFrom_137 fl_X7_36 rfl (st_k hs72 hmx0) (st_n hs72 hmx0 (j := 0) (by decide)) (st_r9 hs72 hmx0) ?_
  refine E_iconst (0 : Int32) dX7_copyFrom_140 (by decide) ?_
  refine E_iload_n 2 dX7_copyFrom_141 rfl rfl ?_
  refine E_iconst (3 : Int32) dX7_copyFrom_142 (by decide) ?_
  refine E_imul dX7_copyFrom_143 ?_
  obtain ⟨g75, g76, g77, g78, h⟩ := h
  refine E_copy2 (0) (0) ((x2 * (3 : Int32)).toNatClampNeg) dX7_copyFrom_144 ma_X7_49 (st_ka9 hs72 hmx1) (st_n hs72 hmx1 (by decide)) (st_ka9 hs72 hmx0) (st_n hs72 hmx0 (by decide)) (by decide) (by decide) g75 (by decide) (by decide) rfl g76 g77 g78 (Nat.le_of_ble_eq_true rfl) (Or.inl ((by decide : ∀ b ∈ siteIds, m_X7_copyFrom.2.2.2.2.1.contains (b + 9) = true) _ hmx0)) ?_
  obtain ⟨τ79, e80⟩ : ∃ τ : AH, τ = (sA τ70 (x0 + 9) (va_cpy (gI τ70 (x1 + 9)) (gI τ70 (x0 + 9)) 0 0 ((x2 * (3 : Int32)).toNatClampNeg))) := ⟨_, rfl⟩
  replace h := h τ79 e80
  rw [← e80]
  have hs81 : Sh τ79 := by rw [e80]; exact hs72
  obtain ⟨rfl, rfl⟩ := h
  exact E_vret dX7_copyFrom_147 rfl
def W_X7_isDone_0 (X : Sx) (l : Launch) (D : Nat) (x0 : Nat) (x1 : Int32) (σ : AH) (r : Option Value) (σ' : AH) : Prop := vp_in x1 30 ∧ (if (gI σ (x0 + 5) x1.toNatClampNeg) < (3 : Int32) then (r = some (.int (0 : Int32)) ∧ σ' = σ) else (r = some (.int (1 : Int32)) ∧ σ' = σ))
set_option maxRecDepth 100000 in
theorem w_X7_isDone_0 {X : Sx} {l : Launch} {D : Nat} {x0 : Nat} {x1 : Int32} {σ : AH} {r : Option Value} {σ' : AH} (hs : Sh σ) (hmx0 : x0 ∈ siteIds) (h : W_X7_isDone_0 X l D x0 x1 σ r σ') : E X l m_X7_isDone D 0 [(0, .ref x0), (1, .int x1)] [] σ r σ' := by
  unfold W_X7_isDone_0 at h
  refine E_aload_n 0 dX7_isDone_0 rfl rfl ?_
  refine E_getR (x0 + 5) dX7_isDone_1 fl_X7_24 rfl (st_k hs hmx0) (st_n hs hmx0 (j := 0) (by decide)) (st_r5 hs hmx0) ?_
  refine E_iload_n 1 dX7_isDone_4 rfl rfl ?_
  obtain ⟨g1, h⟩ := h
  refine E_iald2 (x1.toNatClampNeg) dX7_isDone_5 (st_ka5 hs hmx0) (st_n hs hmx0 (by decide)) g1 rfl ?_
  refine E_iconst (3 : Int32) dX7_isDone_6 (by decide) ?_
  refine E_icmp_lt 14 dX7_isDone_7 (by decide) (fun c => ?_) (fun c => ?_)
  · rw [if_pos c] at h
    refine E_iconst (0 : Int32) dX7_isDone_14 (by decide) ?_
    obtain ⟨rfl, rfl⟩ := h
    exact E_zret dX7_isDone_15 rfl (Or.inl rfl)
  · rw [if_neg c] at h
    refine E_iconst (1 : Int32) dX7_isDone_10 (by decide) ?_
    refine E_goto 15 dX7_isDone_11 (by decide) ?_
    obtain ⟨rfl, rfl⟩ := h
    exact E_zret dX7_isDone_15 rfl (Or.inr rfl)
def W_X7_isShell_0 (X : Sx) (l : Launch) (D : Nat) (x0 : Nat) (x1 : Int32) (σ : AH) (r : Option Value) (σ' : AH) : Prop := ∃ d1 : Nat, ∃ v6 : Int32, ∃ σ2 : AH, d1 + 1 ≤ D ∧ Call X l m_X7_isDone d1 [.ref x0, .int x1] σ (some (.int v6)) σ2 ∧ (if v6 = 0 then vp_in (x1 * (3 : Int32)) 90 ∧ (if (gI σ2 (x0 + 8) (x1 * (3 : Int32)).toNatClampNeg) = (-1 : Int32) then (r = some (.int (0 : Int32)) ∧ σ' = σ2) else (r = some (.int (1 : Int32)) ∧ σ' = σ2)) else (r = some (.int (0 : Int32)) ∧ σ' = σ2))
set_option maxRecDepth 100000 in
theorem w_X7_isShell_0 {X : Sx} {l : Launch} {D : Nat} {x0 : Nat} {x1 : Int32} {σ : AH} {r : Option Value} {σ' : AH} (hs : Sh σ) (hmx0 : x0 ∈ siteIds) (h : W_X7_isShell_0 X l D x0 x1 σ r σ') : E X l m_X7_isShell D 0 [(0, .ref x0), (1, .int x1)] [] σ r σ' := by
  unfold W_X7_isShell_0 at h
  refine E_aload_n 0 dX7_isShell_0 rfl rfl ?_
  refine E_iload_n 1 dX7_isShell_1 rfl rfl ?_
  obtain ⟨d1, v6, σ2, hD3, hC4, h⟩ := h
  have hs5 := hC4.1.2.2.2.1 hs
  refine E_callV (As := [.int x1]) (rest := []) (r1 := (some (.int v6))) (b := x0) dX7_isShell_2 ok_X7_isDone in_X7_isDone se_X7_isDone ml_X7_55 hD3 rfl rfl (Nat.le_of_ble_eq_true rfl) (st_k hs hmx0) (st_n hs hmx0 (j := 0) (by decide)) (by decide) rfl (by decide +kernel) hC4 ?_
  refine E_if_ne 24 dX7_isShell_5 (by decide) (fun c => ?_) (fun c => ?_)
  · rw [if_neg c] at h
    refine E_iconst (0 : Int32) dX7_isShell_24 (by decide) ?_
    obtain ⟨rfl, rfl⟩ := h
    exact E_zret dX7_isShell_25 rfl (Or.inl rfl)
  · rw [if_pos c] at h
    refine E_aload_n 0 dX7_isShell_8 rfl rfl ?_
    refine E_getR (x0 + 8) dX7_isShell_9 fl_X7_33 rfl (st_k hs5 hmx0) (st_n hs5 hmx0 (j := 0) (by decide)) (st_r8 hs5 hmx0) ?_
    refine E_iload_n 1 dX7_isShell_12 rfl rfl ?_
    refine E_iconst (3 : Int32) dX7_isShell_13 (by decide) ?_
    refine E_imul dX7_isShell_14 ?_
    obtain ⟨g7, h⟩ := h
    refine E_iald2 ((x1 * (3 : Int32)).toNatClampNeg) dX7_isShell_15 (st_ka8 hs5 hmx0) (st_n hs5 hmx0 (by decide)) g7 rfl ?_
    refine E_iconst (-1 : Int32) dX7_isShell_16 (by decide) ?_
    refine E_icmp_eq 24 dX7_isShell_17 (by decide) (fun c => ?_) (fun c => ?_)
    · rw [if_pos c] at h
      refine E_iconst (0 : Int32) dX7_isShell_24 (by decide) ?_
      obtain ⟨rfl, rfl⟩ := h
      exact E_zret dX7_isShell_25 rfl (Or.inl rfl)
    · rw [if_neg c] at h
      refine E_iconst (1 : Int32) dX7_isShell_20 (by decide) ?_
      refine E_goto 25 dX7_isShell_21 (by decide) ?_
      obtain ⟨rfl, rfl⟩ := h
      exact E_zret dX7_isShell_25 rfl (Or.inr rfl)
def W_X7_waitsForNeeds_0 (X : Sx) (l : Launch) (D : Nat) (x0 : Nat) (x1 : Int32) (x2 : Int32) (σ : AH) (r : Option Value) (σ' : AH) : Prop := E X l m_X7_waitsForNeeds D 4 [(0, .ref x0), (1, .int x1), (2, .int x2), (3, .int (x1 * (3 : Int32)))] [] σ r σ'
set_option maxRecDepth 100000 in
theorem w_X7_waitsForNeeds_0 {X : Sx} {l : Launch} {D : Nat} {x0 : Nat} {x1 : Int32} {x2 : Int32} {σ : AH} {r : Option Value} {σ' : AH} (hs : Sh σ) (hmx0 : x0 ∈ siteIds) (h : W_X7_waitsForNeeds_0 X l D x0 x1 x2 σ r σ') : E X l m_X7_waitsForNeeds D 0 [(0, .ref x0), (1, .int x1), (2, .int x2)] [] σ r σ' := by
  unfold W_X7_waitsForNeeds_0 at h
  refine E_iload_n 1 dX7_waitsForNeeds_0 rfl rfl ?_
  refine E_iconst (3 : Int32) dX7_waitsForNeeds_1 (by decide) ?_
  refine E_imul dX7_waitsForNeeds_2 ?_
  refine E_istore_n [(3, .int (x1 * (3 : Int32))), (0, .ref x0), (1, .int x1), (2, .int x2)] dX7_waitsForNeeds_3 rfl (by decide) rfl ?_
  exact E_lv [1, 2, 3, 0] rfl h
def W_X7_waitsForNeeds_85 (X : Sx) (l : Launch) (D : Nat) (σ : AH) (r : Option Value) (σ' : AH) : Prop := (r = some (.int (1 : Int32)) ∧ σ' = σ)
set_option maxRecDepth 100000 in
theorem w_X7_waitsForNeeds_85 {X : Sx} {l : Launch} {D : Nat} {σ : AH} {r : Option Value} {σ' : AH} (hs : Sh σ) (h : W_X7_waitsForNeeds_85 X l D σ r σ') : E X l m_X7_waitsForNeeds D 85 [] [] σ r σ' := by
  unfold W_X7_waitsForNeeds_85 at h
  refine E_iconst (1 : Int32) dX7_waitsForNeeds_85 (by decide) ?_
  refine E_goto 90 dX7_waitsForNeeds_86 (by decide) ?_
  obtain ⟨rfl, rfl⟩ := h
  exact E_zret dX7_waitsForNeeds_90 rfl (Or.inr rfl)
def W_X7_waitsForNeeds_58 (X : Sx) (l : Launch) (D : Nat) (x0 : Nat) (x2 : Int32) (x3 : Int32) (y0 : Int32) (σ : AH) (r : Option Value) (σ' : AH) : Prop := (if y0 = 0 then (r = some (.int (0 : Int32)) ∧ σ' = σ) else vp_in x3 90 ∧ (if (gI σ (x0 + 8) x3.toNatClampNeg) = (-1 : Int32) then W_X7_waitsForNeeds_85 X l D σ r σ' else vp_in x3 90 ∧ (if (gI σ (x0 + 8) x3.toNatClampNeg) ≤ x2 then (r = some (.int (0 : Int32)) ∧ σ' = σ) else W_X7_waitsForNeeds_85 X l D σ r σ')))
set_option maxRecDepth 100000 in
theorem w_X7_waitsForNeeds_58 {X : Sx} {l : Launch} {D : Nat} {x0 : Nat} {x2 : Int32} {x3 : Int32} {y0 : Int32} {σ : AH} {r : Option Value} {σ' : AH} (hs : Sh σ) (hmx0 : x0 ∈ siteIds) (h : W_X7_waitsForNeeds_58 X l D x0 x2 x3 y0 σ r σ') : E X l m_X7_waitsForNeeds D 58 [(0, .ref x0), (2, .int x2), (3, .int x3)] [.int y0] σ r σ' := by
  unfold W_X7_waitsForNeeds_58 at h
  refine E_istore [(4, .int y0), (0, .ref x0), (2, .int x2), (3, .int x3)] dX7_waitsForNeeds_58 (by decide) rfl ?_
  refine E_iload 0 dX7_waitsForNeeds_60 rfl ?_
  refine E_if_eq 89 dX7_waitsForNeeds_62 (by decide) (fun c => ?_) (fun c => ?_)
  · rw [if_pos c] at h
    refine E_iconst (0 : Int32) dX7_waitsForNeeds_89 (by decide) ?_
    obtain ⟨rfl, rfl⟩ := h
    exact E_zret dX7_waitsForNeeds_90 rfl (Or.inl rfl)
  · rw [if_neg c] at h
    refine E_aload_n 1 dX7_waitsForNeeds_65 rfl rfl ?_
    refine E_getR (x0 + 8) dX7_waitsForNeeds_66 fl_X7_33 rfl (st_k hs hmx0) (st_n hs hmx0 (j := 0) (by decide)) (st_r8 hs hmx0) ?_
    refine E_iload_n 3 dX7_waitsForNeeds_69 rfl rfl ?_
    obtain ⟨g5, h⟩ := h
    refine E_iald2 (x3.toNatClampNeg) dX7_waitsForNeeds_70 (st_ka8 hs hmx0) (st_n hs hmx0 (by decide)) g5 rfl ?_
    refine E_iconst (-1 : Int32) dX7_waitsForNeeds_71 (by decide) ?_
    refine E_icmp_eq 85 dX7_waitsForNeeds_72 (by decide) (fun c => ?_) (fun c => ?_)
    · rw [if_pos c] at h
      exact E_lv [] rfl (w_X7_waitsForNeeds_85 hs h)
    · rw [if_neg c] at h
      refine E_aload_n 1 dX7_waitsForNeeds_75 rfl rfl ?_
      refine E_getR (x0 + 8) dX7_waitsForNeeds_76 fl_X7_33 rfl (st_k hs hmx0) (st_n hs hmx0 (j := 0) (by decide)) (st_r8 hs hmx0) ?_
      refine E_iload_n 3 dX7_waitsForNeeds_79 rfl rfl ?_
      obtain ⟨g6, h⟩ := h
      refine E_iald2 (x3.toNatClampNeg) dX7_waitsForNeeds_80 (st_ka8 hs hmx0) (st_n hs hmx0 (by decide)) g6 rfl ?_
      refine E_iload_n 2 dX7_waitsForNeeds_81 rfl rfl ?_
      refine E_icmp_le 89 dX7_waitsForNeeds_82 (by decide) (fun c => ?_) (fun c => ?_)
      · rw [if_pos c] at h
        refine E_iconst (0 : Int32) dX7_waitsForNeeds_89 (by decide) ?_
        obtain ⟨rfl, rfl⟩ := h
        exact E_zret dX7_waitsForNeeds_90 rfl (Or.inl rfl)
      · rw [if_neg c] at h
        exact E_lv [] rfl (w_X7_waitsForNeeds_85 hs h)
def W_X7_waitsForNeeds_57 (X : Sx) (l : Launch) (D : Nat) (x0 : Nat) (x2 : Int32) (x3 : Int32) (σ : AH) (r : Option Value) (σ' : AH) : Prop := W_X7_waitsForNeeds_58 X l D x0 x2 x3 (0 : Int32) σ r σ'
set_option maxRecDepth 100000 in
theorem w_X7_waitsForNeeds_57 {X : Sx} {l : Launch} {D : Nat} {x0 : Nat} {x2 : Int32} {x3 : Int32} {σ : AH} {r : Option Value} {σ' : AH} (hs : Sh σ) (hmx0 : x0 ∈ siteIds) (h : W_X7_waitsForNeeds_57 X l D x0 x2 x3 σ r σ') : E X l m_X7_waitsForNeeds D 57 [(0, .ref x0), (2, .int x2), (3, .int x3)] [] σ r σ' := by
  unfold W_X7_waitsForNeeds_57 at h
  refine E_iconst (0 : Int32) dX7_waitsForNeeds_57 (by decide) ?_
  exact E_lv [0, 1, 2] rfl (w_X7_waitsForNeeds_58 hs hmx0 h)
def W_X7_waitsForNeeds_33 (X : Sx) (l : Launch) (D : Nat) (x0 : Nat) (x2 : Int32) (x3 : Int32) (σ : AH) (r : Option Value) (σ' : AH) : Prop := vp_in x3 90 ∧ (if (gI σ (x0 + 7) x3.toNatClampNeg) = (-1 : Int32) then W_X7_waitsForNeeds_57 X l D x0 x2 x3 σ r σ' else vp_in x3 90 ∧ (if x2 < (gI σ (x0 + 7) x3.toNatClampNeg) then W_X7_waitsForNeeds_57 X l D x0 x2 x3 σ r σ' else W_X7_waitsForNeeds_58 X l D x0 x2 x3 (1 : Int32) σ r σ'))
set_option maxRecDepth 100000 in
theorem w_X7_waitsForNeeds_33 {X : Sx} {l : Launch} {D : Nat} {x0 : Nat} {x2 : Int32} {x3 : Int32} {σ : AH} {r : Option Value} {σ' : AH} (hs : Sh σ) (hmx0 : x0 ∈ siteIds) (h : W_X7_waitsForNeeds_33 X l D x0 x2 x3 σ r σ') : E X l m_X7_waitsForNeeds D 33 [(0, .ref x0), (2, .int x2), (3, .int x3)] [] σ r σ' := by
  unfold W_X7_waitsForNeeds_33 at h
  refine E_aload_n 0 dX7_waitsForNeeds_33 rfl rfl ?_
  refine E_getR (x0 + 7) dX7_waitsForNeeds_34 fl_X7_30 rfl (st_k hs hmx0) (st_n hs hmx0 (j := 0) (by decide)) (st_r7 hs hmx0) ?_
  refine E_iload_n 2 dX7_waitsForNeeds_37 rfl rfl ?_
  obtain ⟨g3, h⟩ := h
  refine E_iald2 (x3.toNatClampNeg) dX7_waitsForNeeds_38 (st_ka7 hs hmx0) (st_n hs hmx0 (by decide)) g3 rfl ?_
  refine E_iconst (-1 : Int32) dX7_waitsForNeeds_39 (by decide) ?_
  refine E_icmp_eq 57 dX7_waitsForNeeds_40 (by decide) (fun c => ?_) (fun c => ?_)
  · rw [if_pos c] at h
    exact E_lv [0, 1, 2] rfl (w_X7_waitsForNeeds_57 hs hmx0 h)
  · rw [if_neg c] at h
    refine E_aload_n 0 dX7_waitsForNeeds_43 rfl rfl ?_
    refine E_getR (x0 + 7) dX7_waitsForNeeds_44 fl_X7_30 rfl (st_k hs hmx0) (st_n hs hmx0 (j := 0) (by decide)) (st_r7 hs hmx0) ?_
    refine E_iload_n 2 dX7_waitsForNeeds_47 rfl rfl ?_
    obtain ⟨g4, h⟩ := h
    refine E_iald2 (x3.toNatClampNeg) dX7_waitsForNeeds_48 (st_ka7 hs hmx0) (st_n hs hmx0 (by decide)) g4 rfl ?_
    refine E_iload_n 1 dX7_waitsForNeeds_49 rfl rfl ?_
    refine E_icmp_gt 57 dX7_waitsForNeeds_50 (by decide) (fun c => ?_) (fun c => ?_)
    · rw [if_pos c] at h
      exact E_lv [0, 1, 2] rfl (w_X7_waitsForNeeds_57 hs hmx0 h)
    · rw [if_neg c] at h
      refine E_iconst (1 : Int32) dX7_waitsForNeeds_53 (by decide) ?_
      refine E_goto 58 dX7_waitsForNeeds_54 (by decide) ?_
      exact E_lv [0, 1, 2] rfl (w_X7_waitsForNeeds_58 hs hmx0 h)
def W_X7_waitsForNeeds_4 (X : Sx) (l : Launch) (D : Nat) (x0 : Nat) (x1 : Int32) (x2 : Int32) (x3 : Int32) (σ : AH) (r : Option Value) (σ' : AH) : Prop := (if ((x1 + (1 : Int32)) * (3 : Int32)) ≤ x3 then (r = some (.int (0 : Int32)) ∧ σ' = σ) else vp_in x3 90 ∧ (if (gI σ (x0 + 9) x3.toNatClampNeg) = (-1 : Int32) then W_X7_waitsForNeeds_33 X l D x0 x2 x3 σ r σ' else vp_in x3 90 ∧ (if (gI σ (x0 + 9) x3.toNatClampNeg) ≤ x2 then E X l m_X7_waitsForNeeds D 4 [(0, .ref x0), (1, .int x1), (2, .int x2), (3, .int (x3 + 1))] [] σ r σ' else W_X7_waitsForNeeds_33 X l D x0 x2 x3 σ r σ')))
set_option maxRecDepth 100000 in
theorem w_X7_waitsForNeeds_4 {X : Sx} {l : Launch} {D : Nat} {x0 : Nat} {x1 : Int32} {x2 : Int32} {x3 : Int32} {σ : AH} {r : Option Value} {σ' : AH} (hs : Sh σ) (hmx0 : x0 ∈ siteIds) (h : W_X7_waitsForNeeds_4 X l D x0 x1 x2 x3 σ r σ') : E X l m_X7_waitsForNeeds D 4 [(0, .ref x0), (1, .int x1), (2, .int x2), (3, .int x3)] [] σ r σ' := by
  unfold W_X7_waitsForNeeds_4 at h
  refine E_iload_n 3 dX7_waitsForNeeds_4 rfl rfl ?_
  refine E_iload_n 1 dX7_waitsForNeeds_5 rfl rfl ?_
  refine E_iconst (1 : Int32) dX7_waitsForNeeds_6 (by decide) ?_
  refine E_iadd dX7_waitsForNeeds_7 ?_
  refine E_iconst (3 : Int32) dX7_waitsForNeeds_8 (by decide) ?_
  refine E_imul dX7_waitsForNeeds_9 ?_
  refine E_icmp_ge 97 dX7_waitsForNeeds_10 (by decide) (fun c => ?_) (fun c => ?_)
  · rw [if_pos c] at h
    refine E_iconst (0 : Int32) dX7_waitsForNeeds_97 (by decide) ?_
    obtain ⟨rfl, rfl⟩ := h
    exact E_zret dX7_waitsForNeeds_98 rfl (Or.inl rfl)
  · rw [if_neg c] at h
    refine E_aload_n 0 dX7_waitsForNeeds_13 rfl rfl ?_
    refine E_getR (x0 + 9) dX7_waitsForNeeds_14 fl_X7_36 rfl (st_k hs hmx0) (st_n hs hmx0 (j := 0) (by decide)) (st_r9 hs hmx0) ?_
    refine E_iload_n 3 dX7_waitsForNeeds_17 rfl rfl ?_
    obtain ⟨g1, h⟩ := h
    refine E_iald2 (x3.toNatClampNeg) dX7_waitsForNeeds_18 (st_ka9 hs hmx0) (st_n hs hmx0 (by decide)) g1 rfl ?_
    refine E_iconst (-1 : Int32) dX7_waitsForNeeds_19 (by decide) ?_
    refine E_icmp_eq 33 dX7_waitsForNeeds_20 (by decide) (fun c => ?_) (fun c => ?_)
    · rw [if_pos c] at h
      exact E_lv [0, 2, 3] rfl (w_X7_waitsForNeeds_33 hs hmx0 h)
    · rw [if_neg c] at h
      refine E_aload_n 0 dX7_waitsForNeeds_23 rfl rfl ?_
      refine E_getR (x0 + 9) dX7_waitsForNeeds_24 fl_X7_36 rfl (st_k hs hmx0) (st_n hs hmx0 (j := 0) (by decide)) (st_r9 hs hmx0) ?_
      refine E_iload_n 3 dX7_waitsForNeeds_27 rfl rfl ?_
      obtain ⟨g2, h⟩ := h
      refine E_iald2 (x3.toNatClampNeg) dX7_waitsForNeeds_28 (st_ka9 hs hmx0) (st_n hs hmx0 (by decide)) g2 rfl ?_
      refine E_iload_n 2 dX7_waitsForNeeds_29 rfl rfl ?_
      refine E_icmp_le 91 dX7_waitsForNeeds_30 (by decide) (fun c => ?_) (fun c => ?_)
      · rw [if_pos c] at h
        refine E_iinc 3 (x3 + 1) [(3, .int (x3 + 1)), (0, .ref x0), (1, .int x1), (2, .int x2)] dX7_waitsForNeeds_91 rfl (congrArg (x3 + ·) (by decide : Int32.ofInt 1 = 1)) (by decide) rfl ?_
        refine E_goto 4 dX7_waitsForNeeds_94 (by decide) ?_
        exact E_lv [1, 2, 3, 0] rfl h
      · rw [if_neg c] at h
        exact E_lv [0, 2, 3] rfl (w_X7_waitsForNeeds_33 hs hmx0 h)
def W_X7_finishStage_0 (X : Sx) (l : Launch) (D : Nat) (x0 : Nat) (x1 : Int32) (x2 : Int32) (σ : AH) (r : Option Value) (σ' : AH) : Prop := vp_in x1 30 ∧ vp_in ((x1 * (3 : Int32)) + (gI σ (x0 + 5) x1.toNatClampNeg)) 90 ∧ vp_in x1 30 ∧ vp_in x1 30 ∧ (∀ τ5 : AH, τ5 = (sI (sI σ (x0 + 9) (((x1 * (3 : Int32)) + (gI σ (x0 + 5) x1.toNatClampNeg)).toNatClampNeg) x2) (x0 + 5) x1.toNatClampNeg ((gI (sI σ (x0 + 9) (((x1 * (3 : Int32)) + (gI σ (x0 + 5) x1.toNatClampNeg)).toNatClampNeg) x2) (x0 + 5) x1.toNatClampNeg) + (1 : Int32))) → vp_in x1 30 ∧ (r = none ∧ σ' = (sI τ5 (x0 + 6) x1.toNatClampNeg (-1 : Int32))))
set_option maxRecDepth 100000 in
theorem w_X7_finishStage_0 {X : Sx} {l : Launch} {D : Nat} {x0 : Nat} {x1 : Int32} {x2 : Int32} {σ : AH} {r : Option Value} {σ' : AH} (hs : Sh σ) (hmx0 : x0 ∈ siteIds) (h : W_X7_finishStage_0 X l D x0 x1 x2 σ r σ') : E X l m_X7_finishStage D 0 [(0, .ref x0), (1, .int x1), (2, .int x2)] [] σ r σ' := by
  unfold W_X7_finishStage_0 at h
  refine E_aload_n 0 dX7_finishStage_0 rfl rfl ?_
  refine E_getR (x0 + 9) dX7_finishStage_1 fl_X7_36 rfl (st_k hs hmx0) (st_n hs hmx0 (j := 0) (by decide)) (st_r9 hs hmx0) ?_
  refine E_iload_n 1 dX7_finishStage_4 rfl rfl ?_
  refine E_iconst (3 : Int32) dX7_finishStage_5 (by decide) ?_
  refine E_imul dX7_finishStage_6 ?_
  refine E_aload_n 0 dX7_finishStage_7 rfl rfl ?_
  refine E_getR (x0 + 5) dX7_finishStage_8 fl_X7_24 rfl (st_k hs hmx0) (st_n hs hmx0 (j := 0) (by decide)) (st_r5 hs hmx0) ?_
  refine E_iload_n 1 dX7_finishStage_11 rfl rfl ?_
  obtain ⟨g1, h⟩ := h
  refine E_iald2 (x1.toNatClampNeg) dX7_finishStage_12 (st_ka5 hs hmx0) (st_n hs hmx0 (by decide)) g1 rfl ?_
  refine E_iadd dX7_finishStage_13 ?_
  refine E_iload_n 2 dX7_finishStage_14 rfl rfl ?_
  obtain ⟨g2, h⟩ := h
  refine E_iast2 (((x1 * (3 : Int32)) + (gI σ (x0 + 5) x1.toNatClampNeg)).toNatClampNeg) dX7_finishStage_15 (st_ka9 hs hmx0) (st_n hs hmx0 (by decide)) (Or.inl ((by decide : ∀ b ∈ siteIds, m_X7_finishStage.2.2.2.2.1.contains (b + 9) = true) _ hmx0)) g2 rfl ?_
  refine E_aload_n 0 dX7_finishStage_16 rfl rfl ?_
  refine E_getR (x0 + 5) dX7_finishStage_17 fl_X7_24 rfl (st_k hs hmx0) (st_n hs hmx0 (j := 0) (by decide)) (st_r5 hs hmx0) ?_
  refine E_iload_n 1 dX7_finishStage_20 rfl rfl ?_
  refine E_dup2 dX7_finishStage_21 rfl rfl ?_
  obtain ⟨g3, h⟩ := h
  refine E_iald2 (x1.toNatClampNeg) dX7_finishStage_22 (st_ka5 hs hmx0) (st_n hs hmx0 (by decide)) g3 rfl ?_
  refine E_iconst (1 : Int32) dX7_finishStage_23 (by decide) ?_
  refine E_iadd dX7_finishStage_24 ?_
  obtain ⟨g4, h⟩ := h
  refine E_iast2 (x1.toNatClampNeg) dX7_finishStage_25 (st_ka5 hs hmx0) (st_n hs hmx0 (by decide)) (Or.inl ((by decide : ∀ b ∈ siteIds, m_X7_finishStage.2.2.2.2.1.contains (b + 5) = true) _ hmx0)) g4 rfl ?_
  obtain ⟨τ5, e6⟩ : ∃ τ : AH, τ = (sI (sI σ (x0 + 9) (((x1 * (3 : Int32)) + (gI σ (x0 + 5) x1.toNatClampNeg)).toNatClampNeg) x2) (x0 + 5) x1.toNatClampNeg ((gI (sI σ (x0 + 9) (((x1 * (3 : Int32)) + (gI σ (x0 + 5) x1.toNatClampNeg)).toNatClampNeg) x2) (x0 + 5) x1.toNatClampNeg) + (1 : Int32))) := ⟨_, rfl⟩
  replace h := h τ5 e6
  rw [← e6]
  have hs7 : Sh τ5 := by rw [e6]; exact hs
  refine E_aload_n 0 dX7_finishStage_26 rfl rfl ?_
  refine E_getR (x0 + 6) dX7_finishStage_27 fl_X7_27 rfl (st_k hs7 hmx0) (st_n hs7 hmx0 (j := 0) (by decide)) (st_r6 hs7 hmx0) ?_
  refine E_iload_n 1 dX7_finishStage_30 rfl rfl ?_
  refine E_iconst (-1 : Int32) dX7_finishStage_31 (by decide) ?_
  obtain ⟨g8, h⟩ := h
  refine E_iast2 (x1.toNatClampNeg) dX7_finishStage_32 (st_ka6 hs7 hmx0) (st_n hs7 hmx0 (by decide)) (Or.inl ((by decide : ∀ b ∈ siteIds, m_X7_finishStage.2.2.2.2.1.contains (b + 6) = true) _ hmx0)) g8 rfl ?_
  obtain ⟨rfl, rfl⟩ := h
  exact E_vret dX7_finishStage_33 rfl
def W_X8_init_0 (X : Sx) (l : Launch) (D : Nat) (x0 : Nat) (x1 : Int32) (x2 : Int32) (σ : AH) (r : Option Value) (σ' : AH) : Prop := kd σ x0 = (8, NO 8) ∧ x0 < nx σ ∧ 1 ≤ D ∧ al m_X8_init x0 ∧ al m_X8_init x0 ∧ 1 ≤ D ∧ ¬ (x1 * (imin x2 (8 : Int32))) < 0 ∧ (x1 * (imin x2 (8 : Int32))).toNatClampNeg ≤ 2000000 ∧ (∀ τ6 : AH, τ6 = (aw (sI (sI σ x0 0 x1) x0 1 x2) 100 (x1 * (imin x2 (8 : Int32))).toNatClampNeg) → al m_X8_init x0 ∧ (Sh τ6 → Sh (sR τ6 x0 2 (some (nx (sI (sI σ x0 0 x1) x0 1 x2))))) ∧ (∀ τ15 : AH, τ15 = (sR τ6 x0 2 (some (nx (sI (sI σ x0 0 x1) x0 1 x2)))) → (r = none ∧ σ' = τ15)))
set_option maxRecDepth 100000 in
theorem w_X8_init_0 {X : Sx} {l : Launch} {D : Nat} {x0 : Nat} {x1 : Int32} {x2 : Int32} {σ : AH} {r : Option Value} {σ' : AH} (h : W_X8_init_0 X l D x0 x1 x2 σ r σ') : E X l m_X8_init D 0 [(0, .ref x0), (1, .int x1), (2, .int x2)] [] σ r σ' := by
  unfold W_X8_init_0 at h
  obtain ⟨hkx0, hbx0, h⟩ := h
  refine E_aload_n 0 dX8_init_0 rfl rfl ?_
  obtain ⟨g20, h⟩ := h
  refine E_objInit dX8_init_1 mo_X8_3 g20 (Nat.le_of_ble_eq_true rfl) ?_
  refine E_aload_n 0 dX8_init_4 rfl rfl ?_
  refine E_iload_n 1 dX8_init_5 rfl rfl ?_
  obtain ⟨ga1, h⟩ := h
  refine E_putI dX8_init_6 fl_X8_9 rfl (Or.inr ⟨rfl, rfl, rfl⟩) hkx0 hbx0 ga1 rfl rfl ?_
  refine E_aload_n 0 dX8_init_9 rfl rfl ?_
  refine E_iload_n 2 dX8_init_10 rfl rfl ?_
  obtain ⟨ga2, h⟩ := h
  refine E_putI dX8_init_11 fl_X8_15 rfl (Or.inr ⟨rfl, rfl, rfl⟩) hkx0 hbx0 ga2 rfl rfl ?_
  refine E_aload_n 0 dX8_init_14 rfl rfl ?_
  refine E_iload_n 1 dX8_init_15 rfl rfl ?_
  refine E_iload_n 2 dX8_init_16 rfl rfl ?_
  refine E_bipush (8 : Int32) dX8_init_17 (by decide) ?_
  obtain ⟨g3, h⟩ := h
  refine E_mmin dX8_init_19 mm_X8_18 g3 (Nat.le_of_ble_eq_true rfl) ?_
  refine E_imul dX8_init_22 ?_
  obtain ⟨g4, g5, h⟩ := h
  refine E_newaI ((x1 * (imin x2 (8 : Int32))).toNatClampNeg) dX8_init_23 ac_int g4 rfl g5 ?_
  obtain ⟨τ6, e7⟩ : ∃ τ : AH, τ = (aw (sI (sI σ x0 0 x1) x0 1 x2) 100 (x1 * (imin x2 (8 : Int32))).toNatClampNeg) := ⟨_, rfl⟩
  replace h := h τ6 e7
  rw [← e7]
  have hk9 : kd _ x0 = (8, NO 8) := (congrFun (congrArg kd e7) _).trans ((up_ne _ _ _ (Nat.ne_of_lt hbx0)).trans hkx0)
  have hb10 := Nat.lt_of_lt_of_eq (Nat.lt_succ_of_lt hbx0) (congrArg nx e7).symm
  have hk11 : kd _ (nx (sI (sI σ x0 0 x1) x0 1 x2)) = (100, ((x1 * (imin x2 (8 : Int32))).toNatClampNeg)) := (congrFun (congrArg kd e7) _).trans (up_same _ _ _)
  have hb12 := Nat.lt_of_lt_of_eq (Nat.lt_succ_self _) (congrArg nx e7).symm
  obtain ⟨ga13, h⟩ := h
  obtain ⟨g14, h⟩ := h
  refine E_putR dX8_init_25 fl_X8_24 rfl (Or.inl rfl) hk9 hb10 ga13 g14 ?_
  obtain ⟨τ15, e16⟩ : ∃ τ : AH, τ = (sR τ6 x0 2 (some (nx (sI (sI σ x0 0 x1) x0 1 x2)))) := ⟨_, rfl⟩
  replace h := h τ15 e16
  rw [← e16]
  have hk18 : kd _ x0 = (8, NO 8) := (congrFun (congrArg kd e16) _).trans hk9
  have hb19 := Nat.lt_of_lt_of_eq hb10 (congrArg nx e16).symm
  obtain ⟨rfl, rfl⟩ := h
  exact E_vret dX8_init_28 rfl
def W_X8_rows_0 (X : Sx) (l : Launch) (D : Nat) (x0 : Nat) (σ : AH) (r : Option Value) (σ' : AH) : Prop := kd σ x0 = (8, NO 8) ∧ x0 < nx σ ∧ (r = some (.int (gI σ x0 3)) ∧ σ' = σ)
set_option maxRecDepth 100000 in
theorem w_X8_rows_0 {X : Sx} {l : Launch} {D : Nat} {x0 : Nat} {σ : AH} {r : Option Value} {σ' : AH} (h : W_X8_rows_0 X l D x0 σ r σ') : E X l m_X8_rows D 0 [(0, .ref x0)] [] σ r σ' := by
  unfold W_X8_rows_0 at h
  obtain ⟨hkx0, hbx0, h⟩ := h
  refine E_aload_n 0 dX8_rows_0 rfl rfl ?_
  refine E_getI dX8_rows_1 fl_X8_28 rfl hkx0 hbx0 ?_
  obtain ⟨rfl, rfl⟩ := h
  exact E_iret dX8_rows_4 rfl
def W_X8_isFull_0 (X : Sx) (l : Launch) (D : Nat) (x0 : Nat) (σ : AH) (r : Option Value) (σ' : AH) : Prop := kd σ x0 = (8, NO 8) ∧ x0 < nx σ ∧ (if (gI σ x0 3) < (gI σ x0 1) then (r = some (.int (0 : Int32)) ∧ σ' = σ) else (r = some (.int (1 : Int32)) ∧ σ' = σ))
set_option maxRecDepth 100000 in
theorem w_X8_isFull_0 {X : Sx} {l : Launch} {D : Nat} {x0 : Nat} {σ : AH} {r : Option Value} {σ' : AH} (h : W_X8_isFull_0 X l D x0 σ r σ') : E X l m_X8_isFull D 0 [(0, .ref x0)] [] σ r σ' := by
  unfold W_X8_isFull_0 at h
  obtain ⟨hkx0, hbx0, h⟩ := h
  refine E_aload_n 0 dX8_isFull_0 rfl rfl ?_
  refine E_getI dX8_isFull_1 fl_X8_28 rfl hkx0 hbx0 ?_
  refine E_aload_n 0 dX8_isFull_4 rfl rfl ?_
  refine E_getI dX8_isFull_5 fl_X8_15 rfl hkx0 hbx0 ?_
  refine E_icmp_lt 15 dX8_isFull_8 (by decide) (fun c => ?_) (fun c => ?_)
  · rw [if_pos c] at h
    refine E_iconst (0 : Int32) dX8_isFull_15 (by decide) ?_
    obtain ⟨rfl, rfl⟩ := h
    exact E_zret dX8_isFull_16 rfl (Or.inl rfl)
  · rw [if_neg c] at h
    refine E_iconst (1 : Int32) dX8_isFull_11 (by decide) ?_
    refine E_goto 16 dX8_isFull_12 (by decide) ?_
    obtain ⟨rfl, rfl⟩ := h
    exact E_zret dX8_isFull_16 rfl (Or.inr rfl)
def W_X8_at_0 (X : Sx) (l : Launch) (D : Nat) (x0 : Nat) (x1 : Int32) (x2 : Int32) (σ : AH) (r : Option Value) (σ' : AH) : Prop := kd σ x0 = (8, NO 8) ∧ x0 < nx σ ∧ (if ((x1 * (gI σ x0 0)) + x2) < 0 then (r = some (.int (0 : Int32)) ∧ σ' = σ) else ∃ b1 n5 : Nat, gR σ x0 2 = some b1 ∧ kd σ b1 = (100, n5) ∧ b1 < nx σ ∧ (if (Int32.ofNat n5) ≤ ((x1 * (gI σ x0 0)) + x2) then (r = some (.int (0 : Int32)) ∧ σ' = σ) else ∃ b6 n10 : Nat, gR σ x0 2 = some b6 ∧ kd σ b6 = (100, n10) ∧ b6 < nx σ ∧ vp_in ((x1 * (gI σ x0 0)) + x2) n10 ∧ (r = some (.int (gI σ b6 ((x1 * (gI σ x0 0)) + x2).toNatClampNeg)) ∧ σ' = σ)))
set_option maxRecDepth 100000 in
theorem w_X8_at_0 {X : Sx} {l : Launch} {D : Nat} {x0 : Nat} {x1 : Int32} {x2 : Int32} {σ : AH} {r : Option Value} {σ' : AH} (h : W_X8_at_0 X l D x0 x1 x2 σ r σ') : E X l m_X8_at D 0 [(0, .ref x0), (1, .int x1), (2, .int x2)] [] σ r σ' := by
  unfold W_X8_at_0 at h
  obtain ⟨hkx0, hbx0, h⟩ := h
  refine E_iload_n 1 dX8_at_0 rfl rfl ?_
  refine E_aload_n 0 dX8_at_1 rfl rfl ?_
  refine E_getI dX8_at_2 fl_X8_9 rfl hkx0 hbx0 ?_
  refine E_imul dX8_at_5 ?_
  refine E_iload_n 2 dX8_at_6 rfl rfl ?_
  refine E_iadd dX8_at_7 ?_
  refine E_istore_n [(3, .int ((x1 * (gI σ x0 0)) + x2)), (0, .ref x0), (1, .int x1), (2, .int x2)] dX8_at_8 rfl (by decide) rfl ?_
  refine E_iload_n 0 dX8_at_9 rfl rfl ?_
  refine E_if_lt 31 dX8_at_10 (by decide) (fun c => ?_) (fun c => ?_)
  · rw [if_pos c] at h
    refine E_iconst (0 : Int32) dX8_at_31 (by decide) ?_
    obtain ⟨rfl, rfl⟩ := h
    exact E_iret dX8_at_32 rfl
  · rw [if_neg c] at h
    refine E_iload_n 0 dX8_at_13 rfl rfl ?_
    refine E_aload_n 1 dX8_at_14 rfl rfl ?_
    obtain ⟨b1, n5, g2, hk3, hb4, h⟩ := h
    refine E_getR b1 dX8_at_15 fl_X8_24 rfl hkx0 hbx0 g2 ?_
    refine E_alen dX8_at_18 hk3 hb4 (by decide) (by decide) ?_
    refine E_icmp_ge 31 dX8_at_19 (by decide) (fun c => ?_) (fun c => ?_)
    · rw [if_pos c] at h
      refine E_iconst (0 : Int32) dX8_at_31 (by decide) ?_
      obtain ⟨rfl, rfl⟩ := h
      exact E_iret dX8_at_32 rfl
    · rw [if_neg c] at h
      refine E_aload_n 1 dX8_at_22 rfl rfl ?_
      obtain ⟨b6, n10, g7, hk8, hb9, h⟩ := h
      refine E_getR b6 dX8_at_23 fl_X8_24 rfl hkx0 hbx0 g7 ?_
      refine E_iload_n 0 dX8_at_26 rfl rfl ?_
      obtain ⟨g11, h⟩ := h
      refine E_iald2 (((x1 * (gI σ x0 0)) + x2).toNatClampNeg) dX8_at_27 hk8 hb9 g11 rfl ?_
      refine E_goto 32 dX8_at_28 (by decide) ?_
      obtain ⟨rfl, rfl⟩ := h
      exact E_iret dX8_at_32 rfl
def W_X8_put_0 (X : Sx) (l : Launch) (D : Nat) (x0 : Nat) (x1 : Int32) (x2 : Int32) (x3 : Int32) (σ : AH) (r : Option Value) (σ' : AH) : Prop := kd σ x0 = (8, NO 8) ∧ x0 < nx σ ∧ (if ((x1 * (gI σ x0 0)) + x2) < 0 then (r = none ∧ σ' = σ) else ∃ b1 n5 : Nat, gR σ x0 2 = some b1 ∧ kd σ b1 = (100, n5) ∧ b1 < nx σ ∧ (if (Int32.ofNat n5) ≤ ((x1 * (gI σ x0 0)) + x2) then (r = none ∧ σ' = σ) else ∃ b6 n10 : Nat, gR σ x0 2 = some b6 ∧ kd σ b6 = (100, n10) ∧ b6 < nx σ ∧ al m_X8_put b6 ∧ vp_in ((x1 * (gI σ x0 0)) + x2) n10 ∧ (r = none ∧ σ' = (sI σ b6 (((x1 * (gI σ x0 0)) + x2).toNatClampNeg) x3))))
set_option maxRecDepth 100000 in
theorem w_X8_put_0 {X : Sx} {l : Launch} {D : Nat} {x0 : Nat} {x1 : Int32} {x2 : Int32} {x3 : Int32} {σ : AH} {r : Option Value} {σ' : AH} (h : W_X8_put_0 X l D x0 x1 x2 x3 σ r σ') : E X l m_X8_put D 0 [(0, .ref x0), (1, .int x1), (2, .int x2), (3, .int x3)] [] σ r σ' := by
  unfold W_X8_put_0 at h
  obtain ⟨hkx0, hbx0, h⟩ := h
  refine E_iload_n 1 dX8_put_0 rfl rfl ?_
  refine E_aload_n 0 dX8_put_1 rfl rfl ?_
  refine E_getI dX8_put_2 fl_X8_9 rfl hkx0 hbx0 ?_
  refine E_imul dX8_put_5 ?_
  refine E_iload_n 2 dX8_put_6 rfl rfl ?_
  refine E_iadd dX8_put_7 ?_
  refine E_istore [(4, .int ((x1 * (gI σ x0 0)) + x2)), (0, .ref x0), (1, .int x1), (2, .int x2), (3, .int x3)] dX8_put_8 (by decide) rfl ?_
  refine E_iload 0 dX8_put_10 rfl ?_
  refine E_if_lt 33 dX8_put_12 (by decide) (fun c => ?_) (fun c => ?_)
  · rw [if_pos c] at h
    obtain ⟨rfl, rfl⟩ := h
    exact E_vret dX8_put_33 rfl
  · rw [if_neg c] at h
    refine E_iload 0 dX8_put_15 rfl ?_
    refine E_aload_n 1 dX8_put_17 rfl rfl ?_
    obtain ⟨b1, n5, g2, hk3, hb4, h⟩ := h
    refine E_getR b1 dX8_put_18 fl_X8_24 rfl hkx0 hbx0 g2 ?_
    refine E_alen dX8_put_21 hk3 hb4 (by decide) (by decide) ?_
    refine E_icmp_ge 33 dX8_put_22 (by decide) (fun c => ?_) (fun c => ?_)
    · rw [if_pos c] at h
      obtain ⟨rfl, rfl⟩ := h
      exact E_vret dX8_put_33 rfl
    · rw [if_neg c] at h
      refine E_aload_n 1 dX8_put_25 rfl rfl ?_
      obtain ⟨b6, n10, g7, hk8, hb9, h⟩ := h
      refine E_getR b6 dX8_put_26 fl_X8_24 rfl hkx0 hbx0 g7 ?_
      refine E_iload 0 dX8_put_29 rfl ?_
      refine E_iload_n 4 dX8_put_31 rfl rfl ?_
      obtain ⟨ga11, h⟩ := h
      obtain ⟨g12, h⟩ := h
      refine E_iast2 (((x1 * (gI σ x0 0)) + x2).toNatClampNeg) dX8_put_32 hk8 hb9 ga11 g12 rfl ?_
      obtain ⟨rfl, rfl⟩ := h
      exact E_vret dX8_put_33 rfl
def W_X8_add_63 (X : Sx) (l : Launch) (D : Nat) (x0 : Nat) (σ : AH) (r : Option Value) (σ' : AH) : Prop := kd σ x0 = (8, NO 8) ∧ x0 < nx σ ∧ al m_X8_add x0 ∧ (r = some (.int ((gI (sI σ x0 3 ((gI σ x0 3) + (1 : Int32))) x0 3) - (1 : Int32))) ∧ σ' = (sI σ x0 3 ((gI σ x0 3) + (1 : Int32))))
set_option maxRecDepth 100000 in
theorem w_X8_add_63 {X : Sx} {l : Launch} {D : Nat} {x0 : Nat} {σ : AH} {r : Option Value} {σ' : AH} (h : W_X8_add_63 X l D x0 σ r σ') : E X l m_X8_add D 63 [(0, .ref x0)] [] σ r σ' := by
  unfold W_X8_add_63 at h
  obtain ⟨hkx0, hbx0, h⟩ := h
  refine E_aload_n 0 dX8_add_63 rfl rfl ?_
  refine E_dup dX8_add_64 rfl ?_
  refine E_getI dX8_add_65 fl_X8_28 rfl hkx0 hbx0 ?_
  refine E_iconst (1 : Int32) dX8_add_68 (by decide) ?_
  refine E_iadd dX8_add_69 ?_
  obtain ⟨ga30, h⟩ := h
  refine E_putI dX8_add_70 fl_X8_28 rfl (Or.inl rfl) hkx0 hbx0 ga30 rfl rfl ?_
  refine E_aload_n 0 dX8_add_73 rfl rfl ?_
  refine E_getI dX8_add_74 fl_X8_28 rfl hkx0 hbx0 ?_
  refine E_iconst (1 : Int32) dX8_add_77 (by decide) ?_
  refine E_isub dX8_add_78 ?_
  obtain ⟨rfl, rfl⟩ := h
  exact E_iret dX8_add_79 rfl
def W_X8_add_0 (X : Sx) (l : Launch) (D : Nat) (x0 : Nat) (σ : AH) (r : Option Value) (σ' : AH) : Prop := kd σ x0 = (8, NO 8) ∧ x0 < nx σ ∧ (if (gI σ x0 3) < (gI σ x0 1) then ∃ b1 n5 : Nat, gR σ x0 2 = some b1 ∧ kd σ b1 = (100, n5) ∧ b1 < nx σ ∧ (if (((gI σ x0 3) + (1 : Int32)) * (gI σ x0 0)) ≤ (Int32.ofNat n5) then W_X8_add_63 X l D x0 σ r σ' else ∃ b6 n10 : Nat, gR σ x0 2 = some b6 ∧ kd σ b6 = (100, n10) ∧ b6 < nx σ ∧ 1 ≤ D ∧ ∃ d12 : Nat, ∃ b17 : Nat, ∃ n18 : Nat, ∃ σ13 : AH, d12 + 1 ≤ D ∧ Call X l m_J7_copyOf_59c91 d12 [.ref b6, .int ((imin (gI σ x0 1) (((gI σ x0 3) + (1 : Int32)) * (2 : Int32))) * (gI σ x0 0))] σ (some (.ref b17)) σ13 ∧ kd σ13 b17 = (100, n18) ∧ b17 < nx σ13 ∧ al m_X8_add x0 ∧ (Sh σ13 → Sh (sR σ13 x0 2 (some b17))) ∧ (∀ τ25 : AH, τ25 = (sR σ13 x0 2 (some b17)) → W_X8_add_63 X l D x0 τ25 r σ')) else (r = some (.int (-1 : Int32)) ∧ σ' = σ))
set_option maxRecDepth 100000 in
theorem w_X8_add_0 {X : Sx} {l : Launch} {D : Nat} {x0 : Nat} {σ : AH} {r : Option Value} {σ' : AH} (h : W_X8_add_0 X l D x0 σ r σ') : E X l m_X8_add D 0 [(0, .ref x0)] [] σ r σ' := by
  unfold W_X8_add_0 at h
  obtain ⟨hkx0, hbx0, h⟩ := h
  refine E_aload_n 0 dX8_add_0 rfl rfl ?_
  refine E_getI dX8_add_1 fl_X8_28 rfl hkx0 hbx0 ?_
  refine E_aload_n 0 dX8_add_4 rfl rfl ?_
  refine E_getI dX8_add_5 fl_X8_15 rfl hkx0 hbx0 ?_
  refine E_icmp_lt 13 dX8_add_8 (by decide) (fun c => ?_) (fun c => ?_)
  · rw [if_pos c] at h
    refine E_aload_n 0 dX8_add_13 rfl rfl ?_
    refine E_getI dX8_add_14 fl_X8_28 rfl hkx0 hbx0 ?_
    refine E_iconst (1 : Int32) dX8_add_17 (by decide) ?_
    refine E_iadd dX8_add_18 ?_
    refine E_aload_n 0 dX8_add_19 rfl rfl ?_
    refine E_getI dX8_add_20 fl_X8_9 rfl hkx0 hbx0 ?_
    refine E_imul dX8_add_23 ?_
    refine E_aload_n 0 dX8_add_24 rfl rfl ?_
    obtain ⟨b1, n5, g2, hk3, hb4, h⟩ := h
    refine E_getR b1 dX8_add_25 fl_X8_24 rfl hkx0 hbx0 g2 ?_
    refine E_alen dX8_add_28 hk3 hb4 (by decide) (by decide) ?_
    refine E_icmp_le 63 dX8_add_29 (by decide) (fun c => ?_) (fun c => ?_)
    · rw [if_pos c] at h
      exact E_lv [0] rfl (w_X8_add_63 h)
    · rw [if_neg c] at h
      refine E_aload_n 0 dX8_add_32 rfl rfl ?_
      refine E_aload_n 0 dX8_add_33 rfl rfl ?_
      obtain ⟨b6, n10, g7, hk8, hb9, h⟩ := h
      refine E_getR b6 dX8_add_34 fl_X8_24 rfl hkx0 hbx0 g7 ?_
      refine E_aload_n 0 dX8_add_37 rfl rfl ?_
      refine E_getI dX8_add_38 fl_X8_15 rfl hkx0 hbx0 ?_
      refine E_aload_n 0 dX8_add_41 rfl rfl ?_
      refine E_getI dX8_add_42 fl_X8_28 rfl hkx0 hbx0 ?_
      refine E_iconst (1 : Int32) dX8_add_45 (by decide) ?_
      refine E_iadd dX8_add_46 ?_
      refine E_iconst (2 : Int32) dX8_add_47 (by decide) ?_
      refine E_imul dX8_add_48 ?_
      obtain ⟨g11, h⟩ := h
      refine E_mmin dX8_add_49 mm_X8_18 g11 (Nat.le_of_ble_eq_true rfl) ?_
      refine E_aload_n 0 dX8_add_52 rfl rfl ?_
      refine E_getI dX8_add_53 fl_X8_9 rfl hkx0 hbx0 ?_
      refine E_imul dX8_add_56 ?_
      obtain ⟨d12, b17, n18, σ13, hD14, hC15, hk19, hb20, h⟩ := h
      have hk21 := (hC15.1.2.2.1 _ hbx0).trans hkx0
      have hb22 := Nat.lt_of_lt_of_le hbx0 hC15.1.1
      refine E_callS (As := [.ref b6, .int ((imin (gI σ x0 1) (((gI σ x0 3) + (1 : Int32)) * (2 : Int32))) * (gI σ x0 0))]) (rest := [.ref x0]) (r1 := (some (.ref b17))) dX8_add_57 ok_J7_copyOf_59c91 is_J7_copyOf_59c91 ml_X8_31 hD14 rfl rfl (Nat.le_of_ble_eq_true rfl) (by decide +kernel) hC15 ?_
      obtain ⟨ga23, h⟩ := h
      obtain ⟨g24, h⟩ := h
      refine E_putR dX8_add_60 fl_X8_24 rfl (Or.inl rfl) hk21 hb22 ga23 g24 ?_
      obtain ⟨τ25, e26⟩ : ∃ τ : AH, τ = (sR σ13 x0 2 (some b17)) := ⟨_, rfl⟩
      replace h := h τ25 e26
      rw [← e26]
      have hk28 : kd _ x0 = (8, NO 8) := (congrFun (congrArg kd e26) _).trans hk21
      have hb29 := Nat.lt_of_lt_of_eq hb22 (congrArg nx e26).symm
      exact E_lv [0] rfl (w_X8_add_63 h)
  · rw [if_neg c] at h
    refine E_iconst (-1 : Int32) dX8_add_11 (by decide) ?_
    obtain ⟨rfl, rfl⟩ := h
    exact E_iret dX8_add_12 rfl
def W_X8_greatest_0 (X : Sx) (l : Launch) (D : Nat) (x0 : Nat) (x1 : Int32) (x2 : Int32) (σ : AH) (r : Option Value) (σ' : AH) : Prop := kd σ x0 = (8, NO 8) ∧ x0 < nx σ ∧ E X l m_X8_greatest D 5 [(0, .ref x0), (1, .int x1), (2, .int x2), (3, .int (0 : Int32)), (4, .int (0 : Int32))] [] σ r σ'
set_option maxRecDepth 100000 in
theorem w_X8_greatest_0 {X : Sx} {l : Launch} {D : Nat} {x0 : Nat} {x1 : Int32} {x2 : Int32} {σ : AH} {r : Option Value} {σ' : AH} (h : W_X8_greatest_0 X l D x0 x1 x2 σ r σ') : E X l m_X8_greatest D 0 [(0, .ref x0), (1, .int x1), (2, .int x2)] [] σ r σ' := by
  unfold W_X8_greatest_0 at h
  obtain ⟨hkx0, hbx0, h⟩ := h
  refine E_iconst (0 : Int32) dX8_greatest_0 (by decide) ?_
  refine E_istore_n [(3, .int (0 : Int32)), (0, .ref x0), (1, .int x1), (2, .int x2)] dX8_greatest_1 rfl (by decide) rfl ?_
  refine E_iconst (0 : Int32) dX8_greatest_2 (by decide) ?_
  refine E_istore [(4, .int (0 : Int32)), (3, .int (0 : Int32)), (0, .ref x0), (1, .int x1), (2, .int x2)] dX8_greatest_3 (by decide) rfl ?_
  exact E_lv [2, 3, 4, 1, 0] rfl h
def W_X8_greatest_38 (X : Sx) (l : Launch) (D : Nat) (x0 : Nat) (x1 : Int32) (x2 : Int32) (x3 : Int32) (x4 : Int32) (σ : AH) (r : Option Value) (σ' : AH) : Prop := kd σ x0 = (8, NO 8) ∧ x0 < nx σ ∧ E X l m_X8_greatest D 5 [(0, .ref x0), (1, .int x1), (2, .int x2), (3, .int x3), (4, .int (x4 + 1))] [] σ r σ'
set_option maxRecDepth 100000 in
theorem w_X8_greatest_38 {X : Sx} {l : Launch} {D : Nat} {x0 : Nat} {x1 : Int32} {x2 : Int32} {x3 : Int32} {x4 : Int32} {σ : AH} {r : Option Value} {σ' : AH} (h : W_X8_greatest_38 X l D x0 x1 x2 x3 x4 σ r σ') : E X l m_X8_greatest D 38 [(0, .ref x0), (1, .int x1), (2, .int x2), (3, .int x3), (4, .int x4)] [] σ r σ' := by
  unfold W_X8_greatest_38 at h
  obtain ⟨hkx0, hbx0, h⟩ := h
  refine E_iinc 4 (x4 + 1) [(4, .int (x4 + 1)), (0, .ref x0), (1, .int x1), (2, .int x2), (3, .int x3)] dX8_greatest_38 rfl (congrArg (x4 + ·) (by decide : Int32.ofInt 1 = 1)) (by decide) rfl ?_
  refine E_goto 5 dX8_greatest_41 (by decide) ?_
  exact E_lv [1, 2, 3, 4, 0] rfl h
def W_X8_greatest_5 (X : Sx) (l : Launch) (D : Nat) (x0 : Nat) (x1 : Int32) (x2 : Int32) (x3 : Int32) (x4 : Int32) (σ : AH) (r : Option Value) (σ' : AH) : Prop := kd σ x0 = (8, NO 8) ∧ x0 < nx σ ∧ (if (gI σ x0 3) ≤ x4 then (r = some (.int x3) ∧ σ' = σ) else ∃ d1 : Nat, ∃ v6 : Int32, ∃ σ2 : AH, d1 + 1 ≤ D ∧ Call X l m_X8_at d1 [.ref x0, .int x4, .int x1] σ (some (.int v6)) σ2 ∧ (if x2 < v6 then W_X8_greatest_38 X l D x0 x1 x2 x3 x4 σ2 r σ' else (if v6 ≤ x3 then W_X8_greatest_38 X l D x0 x1 x2 x3 x4 σ2 r σ' else W_X8_greatest_38 X l D x0 x1 x2 v6 x4 σ2 r σ')))
set_option maxRecDepth 100000 in
theorem w_X8_greatest_5 {X : Sx} {l : Launch} {D : Nat} {x0 : Nat} {x1 : Int32} {x2 : Int32} {x3 : Int32} {x4 : Int32} {σ : AH} {r : Option Value} {σ' : AH} (h : W_X8_greatest_5 X l D x0 x1 x2 x3 x4 σ r σ') : E X l m_X8_greatest D 5 [(0, .ref x0), (1, .int x1), (2, .int x2), (3, .int x3), (4, .int x4)] [] σ r σ' := by
  unfold W_X8_greatest_5 at h
  obtain ⟨hkx0, hbx0, h⟩ := h
  refine E_iload 4 dX8_greatest_5 rfl ?_
  refine E_aload_n 0 dX8_greatest_7 rfl rfl ?_
  refine E_getI dX8_greatest_8 fl_X8_28 rfl hkx0 hbx0 ?_
  refine E_icmp_ge 44 dX8_greatest_11 (by decide) (fun c => ?_) (fun c => ?_)
  · rw [if_pos c] at h
    refine E_iload_n 3 dX8_greatest_44 rfl rfl ?_
    obtain ⟨rfl, rfl⟩ := h
    exact E_iret dX8_greatest_45 rfl
  · rw [if_neg c] at h
    refine E_aload_n 0 dX8_greatest_14 rfl rfl ?_
    refine E_iload 4 dX8_greatest_15 rfl ?_
    refine E_iload_n 1 dX8_greatest_17 rfl rfl ?_
    obtain ⟨d1, v6, σ2, hD3, hC4, h⟩ := h
    have hk7 := (hC4.1.2.2.1 _ hbx0).trans hkx0
    have hb8 := Nat.lt_of_lt_of_le hbx0 hC4.1.1
    refine E_callV (As := [.int x4, .int x1]) (rest := []) (r1 := (some (.int v6))) (b := x0) dX8_greatest_18 ok_X8_at in_X8_at se_X8_at ml_X8_37 hD3 rfl rfl (Nat.le_of_ble_eq_true rfl) hkx0 hbx0 (by decide) rfl (by decide +kernel) hC4 ?_
    refine E_istore [(5, .int v6), (0, .ref x0), (1, .int x1), (2, .int x2), (3, .int x3), (4, .int x4)] dX8_greatest_21 (by decide) rfl ?_
    refine E_iload 0 dX8_greatest_23 rfl ?_
    refine E_iload_n 3 dX8_greatest_25 rfl rfl ?_
    refine E_icmp_gt 38 dX8_greatest_26 (by decide) (fun c => ?_) (fun c => ?_)
    · rw [if_pos c] at h
      exact E_lv [1, 2, 3, 4, 5] rfl (w_X8_greatest_38 h)
    · rw [if_neg c] at h
      refine E_iload 0 dX8_greatest_29 rfl ?_
      refine E_iload_n 4 dX8_greatest_31 rfl rfl ?_
      refine E_icmp_le 38 dX8_greatest_32 (by decide) (fun c => ?_) (fun c => ?_)
      · rw [if_pos c] at h
        exact E_lv [1, 2, 3, 4, 5] rfl (w_X8_greatest_38 h)
      · rw [if_neg c] at h
        refine E_iload 0 dX8_greatest_35 rfl ?_
        refine E_istore_n [(3, .int v6), (5, .int v6), (0, .ref x0), (1, .int x1), (2, .int x2), (4, .int x4)] dX8_greatest_37 rfl (by decide) rfl ?_
        exact E_lv [2, 3, 4, 0, 5] rfl (w_X8_greatest_38 h)
def W_X8_copyFrom_28 (X : Sx) (l : Launch) (D : Nat) (x0 : Nat) (x1 : Nat) (σ : AH) (r : Option Value) (σ' : AH) : Prop := kd σ x0 = (8, NO 8) ∧ x0 < nx σ ∧ kd σ x1 = (8, NO 8) ∧ x1 < nx σ ∧ ∃ b31 n35 : Nat, gR σ x1 2 = some b31 ∧ kd σ b31 = (100, n35) ∧ b31 < nx σ ∧ ∃ b36 n40 : Nat, gR σ x0 2 = some b36 ∧ kd σ b36 = (100, n40) ∧ b36 < nx σ ∧ ¬ ((gI σ x1 3) * (gI σ x0 0)) < 0 ∧ 0 + ((gI σ x1 3) * (gI σ x0 0)).toNatClampNeg ≤ n35 ∧ 0 + ((gI σ x1 3) * (gI σ x0 0)).toNatClampNeg ≤ n40 ∧ 1 ≤ D ∧ al m_X8_copyFrom b36 ∧ (∀ τ48 : AH, τ48 = (sA σ b36 (va_cpy (gI σ b31) (gI σ b36) 0 0 (((gI σ x1 3) * (gI σ x0 0)).toNatClampNeg))) → al m_X8_copyFrom x0 ∧ (r = none ∧ σ' = (sI τ48 x0 3 (gI τ48 x1 3))))
set_option maxRecDepth 100000 in
theorem w_X8_copyFrom_28 {X : Sx} {l : Launch} {D : Nat} {x0 : Nat} {x1 : Nat} {σ : AH} {r : Option Value} {σ' : AH} (h : W_X8_copyFrom_28 X l D x0 x1 σ r σ') : E X l m_X8_copyFrom D 28 [(0, .ref x0), (1, .ref x1)] [] σ r σ' := by
  unfold W_X8_copyFrom_28 at h
  obtain ⟨hkx0, hbx0, h⟩ := h
  obtain ⟨hkx1, hbx1, h⟩ := h
  refine E_aload_n 1 dX8_copyFrom_28 rfl rfl ?_
  obtain ⟨b31, n35, g32, hk33, hb34, h⟩ := h
  refine E_getR b31 dX8_copyFrom_29 fl_X8_24 rfl hkx1 hbx1 g32 ?_
  refine E_iconst (0 : Int32) dX8_copyFrom_32 (by decide) ?_
  refine E_aload_n 0 dX8_copyFrom_33 rfl rfl ?_
  obtain ⟨b36, n40, g37, hk38, hb39, h⟩ := h
  refine E_getR b36 dX8_copyFrom_34 fl_X8_24 rfl hkx0 hbx0 g37 ?_
  refine E_iconst (0 : Int32) dX8_copyFrom_37 (by decide) ?_
  refine E_aload_n 1 dX8_copyFrom_38 rfl rfl ?_
  refine E_getI dX8_copyFrom_39 fl_X8_28 rfl hkx1 hbx1 ?_
  refine E_aload_n 0 dX8_copyFrom_42 rfl rfl ?_
  refine E_getI dX8_copyFrom_43 fl_X8_9 rfl hkx0 hbx0 ?_
  refine E_imul dX8_copyFrom_46 ?_
  obtain ⟨g43, g44, g45, g46, ga47, h⟩ := h
  refine E_copy2 (0) (0) (((gI σ x1 3) * (gI σ x0 0)).toNatClampNeg) dX8_copyFrom_47 ma_X8_40 hk33 hb34 hk38 hb39 (by decide) (by decide) g43 (by decide) (by decide) rfl g44 g45 g46 (Nat.le_of_ble_eq_true rfl) ga47 ?_
  obtain ⟨τ48, e49⟩ : ∃ τ : AH, τ = (sA σ b36 (va_cpy (gI σ b31) (gI σ b36) 0 0 (((gI σ x1 3) * (gI σ x0 0)).toNatClampNeg))) := ⟨_, rfl⟩
  replace h := h τ48 e49
  rw [← e49]
  have hk51 : kd _ x0 = (8, NO 8) := (congrFun (congrArg kd e49) _).trans hkx0
  have hb52 := Nat.lt_of_lt_of_eq hbx0 (congrArg nx e49).symm
  have hk53 : kd _ x1 = (8, NO 8) := (congrFun (congrArg kd e49) _).trans hkx1
  have hb54 := Nat.lt_of_lt_of_eq hbx1 (congrArg nx e49).symm
  refine E_aload_n 0 dX8_copyFrom_50 rfl rfl ?_
  refine E_aload_n 1 dX8_copyFrom_51 rfl rfl ?_
  refine E_getI dX8_copyFrom_52 fl_X8_28 rfl hk53 hb54 ?_
  obtain ⟨ga55, h⟩ := h
  refine E_putI dX8_copyFrom_55 fl_X8_28 rfl (Or.inl rfl) hk51 hb52 ga55 rfl rfl ?_
  obtain ⟨rfl, rfl⟩ := h
  exact E_vret dX8_copyFrom_58 rfl
def W_X8_copyFrom_0 (X : Sx) (l : Launch) (D : Nat) (x0 : Nat) (x1 : Nat) (σ : AH) (r : Option Value) (σ' : AH) : Prop := kd σ x0 = (8, NO 8) ∧ x0 < nx σ ∧ kd σ x1 = (8, NO 8) ∧ x1 < nx σ ∧ ∃ b1 n5 : Nat, gR σ x0 2 = some b1 ∧ kd σ b1 = (100, n5) ∧ b1 < nx σ ∧ (if ((gI σ x1 3) * (gI σ x0 0)) ≤ (Int32.ofNat n5) then W_X8_copyFrom_28 X l D x0 x1 σ r σ' else ∃ b6 n10 : Nat, gR σ x1 2 = some b6 ∧ kd σ b6 = (100, n10) ∧ b6 < nx σ ∧ ¬ (Int32.ofNat n10) < 0 ∧ (Int32.ofNat n10).toNatClampNeg ≤ 2000000 ∧ (∀ τ13 : AH, τ13 = (aw σ 100 (Int32.ofNat n10).toNatClampNeg) → al m_X8_copyFrom x0 ∧ (Sh τ13 → Sh (sR τ13 x0 2 (some (nx σ)))) ∧ (∀ τ24 : AH, τ24 = (sR τ13 x0 2 (some (nx σ))) → W_X8_copyFrom_28 X l D x0 x1 τ24 r σ')))
set_option maxRecDepth 100000 in
theorem w_X8_copyFrom_0 {X : Sx} {l : Launch} {D : Nat} {x0 : Nat} {x1 : Nat} {σ : AH} {r : Option Value} {σ' : AH} (h : W_X8_copyFrom_0 X l D x0 x1 σ r σ') : E X l m_X8_copyFrom D 0 [(0, .ref x0), (1, .ref x1)] [] σ r σ' := by
  unfold W_X8_copyFrom_0 at h
  obtain ⟨hkx0, hbx0, h⟩ := h
  obtain ⟨hkx1, hbx1, h⟩ := h
  refine E_aload_n 0 dX8_copyFrom_0 rfl rfl ?_
  obtain ⟨b1, n5, g2, hk3, hb4, h⟩ := h
  refine E_getR b1 dX8_copyFrom_1 fl_X8_24 rfl hkx0 hbx0 g2 ?_
  refine E_alen dX8_copyFrom_4 hk3 hb4 (by decide) (by decide) ?_
  refine E_aload_n 1 dX8_copyFrom_5 rfl rfl ?_
  refine E_getI dX8_copyFrom_6 fl_X8_28 rfl hkx1 hbx1 ?_
  refine E_aload_n 0 dX8_copyFrom_9 rfl rfl ?_
  refine E_getI dX8_copyFrom_10 fl_X8_9 rfl hkx0 hbx0 ?_
  refine E_imul dX8_copyFrom_13 ?_
  refine E_icmp_ge 28 dX8_copyFrom_14 (by decide) (fun c => ?_) (fun c => ?_)
  · rw [if_pos c] at h
    exact E_lv [0, 1] rfl (w_X8_copyFrom_28 h)
  · rw [if_neg c] at h
    refine E_aload_n 0 dX8_copyFrom_17 rfl rfl ?_
    refine E_aload_n 1 dX8_copyFrom_18 rfl rfl ?_
    obtain ⟨b6, n10, g7, hk8, hb9, h⟩ := h
    refine E_getR b6 dX8_copyFrom_19 fl_X8_24 rfl hkx1 hbx1 g7 ?_
    refine E_alen dX8_copyFrom_22 hk8 hb9 (by decide) (by decide) ?_
    obtain ⟨g11, g12, h⟩ := h
    refine E_newaI ((Int32.ofNat n10).toNatClampNeg) dX8_copyFrom_23 ac_int g11 rfl g12 ?_
    obtain ⟨τ13, e14⟩ : ∃ τ : AH, τ = (aw σ 100 (Int32.ofNat n10).toNatClampNeg) := ⟨_, rfl⟩
    replace h := h τ13 e14
    rw [← e14]
    have hk16 : kd _ x0 = (8, NO 8) := (congrFun (congrArg kd e14) _).trans ((up_ne _ _ _ (Nat.ne_of_lt hbx0)).trans hkx0)
    have hb17 := Nat.lt_of_lt_of_eq (Nat.lt_succ_of_lt hbx0) (congrArg nx e14).symm
    have hk18 : kd _ x1 = (8, NO 8) := (congrFun (congrArg kd e14) _).trans ((up_ne _ _ _ (Nat.ne_of_lt hbx1)).trans hkx1)
    have hb19 := Nat.lt_of_lt_of_eq (Nat.lt_succ_of_lt hbx1) (congrArg nx e14).symm
    have hk20 : kd _ (nx σ) = (100, ((Int32.ofNat n10).toNatClampNeg)) := (congrFun (congrArg kd e14) _).trans (up_same _ _ _)
    have hb21 := Nat.lt_of_lt_of_eq (Nat.lt_succ_self _) (congrArg nx e14).symm
    obtain ⟨ga22, h⟩ := h
    obtain ⟨g23, h⟩ := h
    refine E_putR dX8_copyFrom_25 fl_X8_24 rfl (Or.inl rfl) hk16 hb17 ga22 g23 ?_
    obtain ⟨τ24, e25⟩ : ∃ τ : AH, τ = (sR τ13 x0 2 (some (nx σ))) := ⟨_, rfl⟩
    replace h := h τ24 e25
    rw [← e25]
    have hk27 : kd _ x0 = (8, NO 8) := (congrFun (congrArg kd e25) _).trans hk16
    have hb28 := Nat.lt_of_lt_of_eq hb17 (congrArg nx e25).symm
    have hk29 : kd _ x1 = (8, NO 8) := (congrFun (congrArg kd e25) _).trans hk18
    have hb30 := Nat.lt_of_lt_of_eq hb19 (congrArg nx e25).symm
    exact E_lv [0, 1] rfl (w_X8_copyFrom_28 h)
def W_X9_init_0 (X : Sx) (l : Launch) (D : Nat) (x0 : Nat) (σ : AH) (r : Option Value) (σ' : AH) : Prop := kd σ x0 = (9, NO 9) ∧ x0 < nx σ ∧ 1 ≤ D ∧ (∀ τ1 : AH, τ1 = (aw σ 103 24) → al m_X9_init x0 ∧ (Sh τ1 → Sh (sR τ1 x0 0 (some (nx σ)))) ∧ (∀ τ10 : AH, τ10 = (sR τ1 x0 0 (some (nx σ))) → (∀ τ15 : AH, τ15 = (aw τ10 8 (NO 8)) → ∃ d22 : Nat, ∃ σ23 : AH, d22 + 1 ≤ D ∧ Call X l m_X8_init d22 [.ref (nx τ10), .int (4 : Int32), .int (120 : Int32)] τ15 none σ23 ∧ al m_X9_init x0 ∧ (Sh σ23 → Sh (sR σ23 x0 2 (some (nx τ10)))) ∧ (∀ τ33 : AH, τ33 = (sR σ23 x0 2 (some (nx τ10))) → (∀ τ38 : AH, τ38 = (aw τ33 8 (NO 8)) → ∃ d45 : Nat, ∃ σ46 : AH, d45 + 1 ≤ D ∧ Call X l m_X8_init d45 [.ref (nx τ33), .int (8 : Int32), .int (8 : Int32)] τ38 none σ46 ∧ al m_X9_init x0 ∧ (Sh σ46 → Sh (sR σ46 x0 3 (some (nx τ33)))) ∧ (∀ τ56 : AH, τ56 = (sR σ46 x0 3 (some (nx τ33))) → (∀ τ61 : AH, τ61 = (aw τ56 8 (NO 8)) → ∃ d68 : Nat, ∃ σ69 : AH, d68 + 1 ≤ D ∧ Call X l m_X8_init d68 [.ref (nx τ56), .int (4 : Int32), .int (60 : Int32)] τ61 none σ69 ∧ al m_X9_init x0 ∧ (Sh σ69 → Sh (sR σ69 x0 4 (some (nx τ56)))) ∧ (∀ τ79 : AH, τ79 = (sR σ69 x0 4 (some (nx τ56))) → (∀ τ84 : AH, τ84 = (aw τ79 8 (NO 8)) → ∃ d91 : Nat, ∃ σ92 : AH, d91 + 1 ≤ D ∧ Call X l m_X8_init d91 [.ref (nx τ79), .int (4 : Int32), .int (30 : Int32)] τ84 none σ92 ∧ al m_X9_init x0 ∧ (Sh σ92 → Sh (sR σ92 x0 5 (some (nx τ79)))) ∧ (∀ τ102 : AH, τ102 = (sR σ92 x0 5 (some (nx τ79))) → (∀ τ107 : AH, τ107 = (aw τ102 8 (NO 8)) → ∃ d114 : Nat, ∃ σ115 : AH, d114 + 1 ≤ D ∧ Call X l m_X8_init d114 [.ref (nx τ102), .int (3 : Int32), .int (60 : Int32)] τ107 none σ115 ∧ al m_X9_init x0 ∧ (Sh σ115 → Sh (sR σ115 x0 6 (some (nx τ102)))) ∧ (∀ τ125 : AH, τ125 = (sR σ115 x0 6 (some (nx τ102))) → (∀ τ130 : AH, τ130 = (aw τ125 8 (NO 8)) → ∃ d137 : Nat, ∃ σ138 : AH, d137 + 1 ≤ D ∧ Call X l m_X8_init d137 [.ref (nx τ125), .int (10 : Int32), .int (60 : Int32)] τ130 none σ138 ∧ al m_X9_init x0 ∧ (Sh σ138 → Sh (sR σ138 x0 7 (some (nx τ125)))) ∧ (∀ τ148 : AH, τ148 = (sR σ138 x0 7 (some (nx τ125))) → (∀ τ153 : AH, τ153 = (aw τ148 8 (NO 8)) → ∃ d160 : Nat, ∃ σ161 : AH, d160 + 1 ≤ D ∧ Call X l m_X8_init d160 [.ref (nx τ148), .int (4 : Int32), .int (40 : Int32)] τ153 none σ161 ∧ al m_X9_init x0 ∧ (Sh σ161 → Sh (sR σ161 x0 8 (some (nx τ148)))) ∧ (∀ τ171 : AH, τ171 = (sR σ161 x0 8 (some (nx τ148))) → (∀ τ176 : AH, τ176 = (aw τ171 8 (NO 8)) → ∃ d183 : Nat, ∃ σ184 : AH, d183 + 1 ≤ D ∧ Call X l m_X8_init d183 [.ref (nx τ171), .int (7 : Int32), .int (7830 : Int32)] τ176 none σ184 ∧ al m_X9_init x0 ∧ (Sh σ184 → Sh (sR σ184 x0 9 (some (nx τ171)))) ∧ (∀ τ194 : AH, τ194 = (sR σ184 x0 9 (some (nx τ171))) → (∀ τ199 : AH, τ199 = (aw τ194 100 120) → al m_X9_init x0 ∧ (Sh τ199 → Sh (sR τ199 x0 10 (some (nx τ194)))) ∧ (∀ τ208 : AH, τ208 = (sR τ199 x0 10 (some (nx τ194))) → (∀ τ213 : AH, τ213 = (aw τ208 100 2400) → al m_X9_init x0 ∧ (Sh τ213 → Sh (sR τ213 x0 11 (some (nx τ208)))) ∧ (∀ τ222 : AH, τ222 = (sR τ213 x0 11 (some (nx τ208))) → (r = none ∧ σ' = τ222)))))))))))))))))))))))
set_option maxRecDepth 100000 in
theorem w_X9_init_0 {X : Sx} {l : Launch} {D : Nat} {x0 : Nat} {σ : AH} {r : Option Value} {σ' : AH} (h : W_X9_init_0 X l D x0 σ r σ') : E X l m_X9_init D 0 [(0, .ref x0)] [] σ r σ' := by
  unfold W_X9_init_0 at h
  obtain ⟨hkx0, hbx0, h⟩ := h
  refine E_aload_n 0 dX9_init_0 rfl rfl ?_
  obtain ⟨g227, h⟩ := h
  refine E_objInit dX9_init_1 mo_X9_5 g227 (Nat.le_of_ble_eq_true rfl) ?_
  refine E_aload_n 0 dX9_init_4 rfl rfl ?_
  refine E_bipush (24 : Int32) dX9_init_5 (by decide) ?_
  refine E_newq 24 103 dX9_init_7 (Or.inl rfl) ck_X9_11 (by decide) (by decide) (by decide) ?_
  obtain ⟨τ1, e2⟩ : ∃ τ : AH, τ = (aw σ 103 24) := ⟨_, rfl⟩
  replace h := h τ1 e2
  rw [← e2]
  have hk4 : kd _ x0 = (9, NO 9) := (congrFun (congrArg kd e2) _).trans ((up_ne _ _ _ (Nat.ne_of_lt hbx0)).trans hkx0)
  have hb5 := Nat.lt_of_lt_of_eq (Nat.lt_succ_of_lt hbx0) (congrArg nx e2).symm
  have hk6 : kd _ (nx σ) = (103, 24) := (congrFun (congrArg kd e2) _).trans (up_same _ _ _)
  have hb7 := Nat.lt_of_lt_of_eq (Nat.lt_succ_self _) (congrArg nx e2).symm
  obtain ⟨ga8, h⟩ := h
  obtain ⟨g9, h⟩ := h
  refine E_putR dX9_init_10 fl_X9_13 rfl (Or.inr ⟨rfl, rfl, rfl⟩) hk4 hb5 ga8 g9 ?_
  obtain ⟨τ10, e11⟩ : ∃ τ : AH, τ = (sR τ1 x0 0 (some (nx σ))) := ⟨_, rfl⟩
  replace h := h τ10 e11
  rw [← e11]
  have hk13 : kd _ x0 = (9, NO 9) := (congrFun (congrArg kd e11) _).trans hk4
  have hb14 := Nat.lt_of_lt_of_eq hb5 (congrArg nx e11).symm
  refine E_aload_n 0 dX9_init_13 rfl rfl ?_
  refine E_new 8 dX9_init_14 (by decide) ck_X9_17 ?_
  obtain ⟨τ15, e16⟩ : ∃ τ : AH, τ = (aw τ10 8 (NO 8)) := ⟨_, rfl⟩
  replace h := h τ15 e16
  rw [← e16]
  have hk18 : kd _ x0 = (9, NO 9) := (congrFun (congrArg kd e16) _).trans ((up_ne _ _ _ (Nat.ne_of_lt hb14)).trans hk13)
  have hb19 := Nat.lt_of_lt_of_eq (Nat.lt_succ_of_lt hb14) (congrArg nx e16).symm
  have hk20 : kd _ (nx τ10) = (8, NO 8) := (congrFun (congrArg kd e16) _).trans (up_same _ _ _)
  have hb21 := Nat.lt_of_lt_of_eq (Nat.lt_succ_self _) (congrArg nx e16).symm
  refine E_dup dX9_init_17 rfl ?_
  refine E_iconst (4 : Int32) dX9_init_18 (by decide) ?_
  refine E_bipush (120 : Int32) dX9_init_19 (by decide) ?_
  obtain ⟨d22, σ23, hD24, hC25, h⟩ := h
  have hk27 := (hC25.1.2.2.1 _ hb19).trans hk18
  have hb28 := Nat.lt_of_lt_of_le hb19 hC25.1.1
  have hk29 := (hC25.1.2.2.1 _ hb21).trans hk20
  have hb30 := Nat.lt_of_lt_of_le hb21 hC25.1.1
  refine E_callI (As := [.int (4 : Int32), .int (120 : Int32)]) (rest := [.ref (nx τ10), .ref x0]) (r1 := none) (b := (nx τ10)) dX9_init_21 ok_X8_init in_X8_init rfl rfl ml_X9_19 hD24 rfl rfl (Nat.le_of_ble_eq_true rfl) (by decide +kernel) hC25 ?_
  obtain ⟨ga31, h⟩ := h
  obtain ⟨g32, h⟩ := h
  refine E_putR dX9_init_24 fl_X9_22 rfl (Or.inr ⟨rfl, rfl, rfl⟩) hk27 hb28 ga31 g32 ?_
  obtain ⟨τ33, e34⟩ : ∃ τ : AH, τ = (sR σ23 x0 2 (some (nx τ10))) := ⟨_, rfl⟩
  replace h := h τ33 e34
  rw [← e34]
  have hk36 : kd _ x0 = (9, NO 9) := (congrFun (congrArg kd e34) _).trans hk27
  have hb37 := Nat.lt_of_lt_of_eq hb28 (congrArg nx e34).symm
  refine E_aload_n 0 dX9_init_27 rfl rfl ?_
  refine E_new 8 dX9_init_28 (by decide) ck_X9_17 ?_
  obtain ⟨τ38, e39⟩ : ∃ τ : AH, τ = (aw τ33 8 (NO 8)) := ⟨_, rfl⟩
  replace h := h τ38 e39
  rw [← e39]
  have hk41 : kd _ x0 = (9, NO 9) := (congrFun (congrArg kd e39) _).trans ((up_ne _ _ _ (Nat.ne_of_lt hb37)).trans hk36)
  have hb42 := Nat.lt_of_lt_of_eq (Nat.lt_succ_of_lt hb37) (congrArg nx e39).symm
  have hk43 : kd _ (nx τ33) = (8, NO 8) := (congrFun (congrArg kd e39) _).trans (up_same _ _ _)
  have hb44 := Nat.lt_of_lt_of_eq (Nat.lt_succ_self _) (congrArg nx e39).symm
  refine E_dup dX9_init_31 rfl ?_
  refine E_bipush (8 : Int32) dX9_init_32 (by decide) ?_
  refine E_bipush (8 : Int32) dX9_init_34 (by decide) ?_
  obtain ⟨d45, σ46, hD47, hC48, h⟩ := h
  have hk50 := (hC48.1.2.2.1 _ hb42).trans hk41
  have hb51 := Nat.lt_of_lt_of_le hb42 hC48.1.1
  have hk52 := (hC48.1.2.2.1 _ hb44).trans hk43
  have hb53 := Nat.lt_of_lt_of_le hb44 hC48.1.1
  refine E_callI (As := [.int (8 : Int32), .int (8 : Int32)]) (rest := [.ref (nx τ33), .ref x0]) (r1 := none) (b := (nx τ33)) dX9_init_36 ok_X8_init in_X8_init rfl rfl ml_X9_19 hD47 rfl rfl (Nat.le_of_ble_eq_true rfl) (by decide +kernel) hC48 ?_
  obtain ⟨ga54, h⟩ := h
  obtain ⟨g55, h⟩ := h
  refine E_putR dX9_init_39 fl_X9_26 rfl (Or.inr ⟨rfl, rfl, rfl⟩) hk50 hb51 ga54 g55 ?_
  obtain ⟨τ56, e57⟩ : ∃ τ : AH, τ = (sR σ46 x0 3 (some (nx τ33))) := ⟨_, rfl⟩
  replace h := h τ56 e57
  rw [← e57]
  have hk59 : kd _ x0 = (9, NO 9) := (congrFun (congrArg kd e57) _).trans hk50
  have hb60 := Nat.lt_of_lt_of_eq hb51 (congrArg nx e57).symm
  refine E_aload_n 0 dX9_init_42 rfl rfl ?_
  refine E_new 8 dX9_init_43 (by decide) ck_X9_17 ?_
  obtain ⟨τ61, e62⟩ : ∃ τ : AH, τ = (aw τ56 8 (NO 8)) := ⟨_, rfl⟩
  replace h := h τ61 e62
  rw [← e62]
  have hk64 : kd _ x0 = (9, NO 9) := (congrFun (congrArg kd e62) _).trans ((up_ne _ _ _ (Nat.ne_of_lt hb60)).trans hk59)
  have hb65 := Nat.lt_of_lt_of_eq (Nat.lt_succ_of_lt hb60) (congrArg nx e62).symm
  have hk66 : kd _ (nx τ56) = (8, NO 8) := (congrFun (congrArg kd e62) _).trans (up_same _ _ _)
  have hb67 := Nat.lt_of_lt_of_eq (Nat.lt_succ_self _) (congrArg nx e62).symm
  refine E_dup dX9_init_46 rfl ?_
  refine E_iconst (4 : Int32) dX9_init_47 (by decide) ?_
  refine E_bipush (60 : Int32) dX9_init_48 (by decide) ?_
  obtain ⟨d68, σ69, hD70, hC71, h⟩ := h
  have hk73 := (hC71.1.2.2.1 _ hb65).trans hk64
  have hb74 := Nat.lt_of_lt_of_le hb65 hC71.1.1
  have hk75 := (hC71.1.2.2.1 _ hb67).trans hk66
  have hb76 := Nat.lt_of_lt_of_le hb67 hC71.1.1
  refine E_callI (As := [.int (4 : Int32), .int (60 : Int32)]) (rest := [.ref (nx τ56), .ref x0]) (r1 := none) (b := (nx τ56)) dX9_init_50 ok_X8_init in_X8_init rfl rfl ml_X9_19 hD70 rfl rfl (Nat.le_of_ble_eq_true rfl) (by decide +kernel) hC71 ?_
  obtain ⟨ga77, h⟩ := h
  obtain ⟨g78, h⟩ := h
  refine E_putR dX9_init_53 fl_X9_29 rfl (Or.inr ⟨rfl, rfl, rfl⟩) hk73 hb74 ga77 g78 ?_
  obtain ⟨τ79, e80⟩ : ∃ τ : AH, τ = (sR σ69 x0 4 (some (nx τ56))) := ⟨_, rfl⟩
  replace h := h τ79 e80
  rw [← e80]
  have hk82 : kd _ x0 = (9, NO 9) := (congrFun (congrArg kd e80) _).trans hk73
  have hb83 := Nat.lt_of_lt_of_eq hb74 (congrArg nx e80).symm
  refine E_aload_n 0 dX9_init_56 rfl rfl ?_
  refine E_new 8 dX9_init_57 (by decide) ck_X9_17 ?_
  obtain ⟨τ84, e85⟩ : ∃ τ : AH, τ = (aw τ79 8 (NO 8)) := ⟨_, rfl⟩
  replace h := h τ84 e85
  rw [← e85]
  have hk87 : kd _ x0 = (9, NO 9) := (congrFun (congrArg kd e85) _).trans ((up_ne _ _ _ (Nat.ne_of_lt hb83)).trans hk82)
  have hb88 := Nat.lt_of_lt_of_eq (Nat.lt_succ_of_lt hb83) (congrArg nx e85).symm
  have hk89 : kd _ (nx τ79) = (8, NO 8) := (congrFun (congrArg kd e85) _).trans (up_same _ _ _)
  have hb90 := Nat.lt_of_lt_of_eq (Nat.lt_succ_self _) (congrArg nx e85).symm
  refine E_dup dX9_init_60 rfl ?_
  refine E_iconst (4 : Int32) dX9_init_61 (by decide) ?_
  refine E_bipush (30 : Int32) dX9_init_62 (by decide) ?_
  obtain ⟨d91, σ92, hD93, hC94, h⟩ := h
  have hk96 := (hC94.1.2.2.1 _ hb88).trans hk87
  have hb97 := Nat.lt_of_lt_of_le hb88 hC94.1.1
  have hk98 := (hC94.1.2.2.1 _ hb90).trans hk89
  have hb99 := Nat.lt_of_lt_of_le hb90 hC94.1.1
  refine E_callI (As := [.int (4 : Int32), .int (30 : Int32)]) (rest := [.ref (nx τ79), .ref x0]) (r1 := none) (b := (nx τ79)) dX9_init_64 ok_X8_init in_X8_init rfl rfl ml_X9_19 hD93 rfl rfl (Nat.le_of_ble_eq_true rfl) (by decide +kernel) hC94 ?_
  obtain ⟨ga100, h⟩ := h
  obtain ⟨g101, h⟩ := h
  refine E_putR dX9_init_67 fl_X9_32 rfl (Or.inr ⟨rfl, rfl, rfl⟩) hk96 hb97 ga100 g101 ?_
  obtain ⟨τ102, e103⟩ : ∃ τ : AH, τ = (sR σ92 x0 5 (some (nx τ79))) := ⟨_, rfl⟩
  replace h := h τ102 e103
  rw [← e103]
  have hk105 : kd _ x0 = (9, NO 9) := (congrFun (congrArg kd e103) _).trans hk96
  have hb106 := Nat.lt_of_lt_of_eq hb97 (congrArg nx e103).symm
  refine E_aload_n 0 dX9_init_70 rfl rfl ?_
  refine E_new 8 dX9_init_71 (by decide) ck_X9_17 ?_
  obtain ⟨τ107, e108⟩ : ∃ τ : AH, τ = (aw τ102 8 (NO 8)) := ⟨_, rfl⟩
  replace h := h τ107 e108
  rw [← e108]
  have hk110 : kd _ x0 = (9, NO 9) := (congrFun (congrArg kd e108) _).trans ((up_ne _ _ _ (Nat.ne_of_lt hb106)).trans hk105)
  have hb111 := Nat.lt_of_lt_of_eq (Nat.lt_succ_of_lt hb106) (congrArg nx e108).symm
  have hk112 : kd _ (nx τ102) = (8, NO 8) := (congrFun (congrArg kd e108) _).trans (up_same _ _ _)
  have hb113 := Nat.lt_of_lt_of_eq (Nat.lt_succ_self _) (congrArg nx e108).symm
  refine E_dup dX9_init_74 rfl ?_
  refine E_iconst (3 : Int32) dX9_init_75 (by decide) ?_
  refine E_bipush (60 : Int32) dX9_init_76 (by decide) ?_
  obtain ⟨d114, σ115, hD116, hC117, h⟩ := h
  have hk119 := (hC117.1.2.2.1 _ hb111).trans hk110
  have hb120 := Nat.lt_of_lt_of_le hb111 hC117.1.1
  have hk121 := (hC117.1.2.2.1 _ hb113).trans hk112
  have hb122 := Nat.lt_of_lt_of_le hb113 hC117.1.1
  refine E_callI (As := [.int (3 : Int32), .int (60 : Int32)]) (rest := [.ref (nx τ102), .ref x0]) (r1 := none) (b := (nx τ102)) dX9_init_78 ok_X8_init in_X8_init rfl rfl ml_X9_19 hD116 rfl rfl (Nat.le_of_ble_eq_true rfl) (by decide +kernel) hC117 ?_
  obtain ⟨ga123, h⟩ := h
  obtain ⟨g124, h⟩ := h
  refine E_putR dX9_init_81 fl_X9_35 rfl (Or.inr ⟨rfl, rfl, rfl⟩) hk119 hb120 ga123 g124 ?_
  obtain ⟨τ125, e126⟩ : ∃ τ : AH, τ = (sR σ115 x0 6 (some (nx τ102))) := ⟨_, rfl⟩
  replace h := h τ125 e126
  rw [← e126]
  have hk128 : kd _ x0 = (9, NO 9) := (congrFun (congrArg kd e126) _).trans hk119
  have hb129 := Nat.lt_of_lt_of_eq hb120 (congrArg nx e126).symm
  refine E_aload_n 0 dX9_init_84 rfl rfl ?_
  refine E_new 8 dX9_init_85 (by decide) ck_X9_17 ?_
  obtain ⟨τ130, e131⟩ : ∃ τ : AH, τ = (aw τ125 8 (NO 8)) := ⟨_, rfl⟩
  replace h := h τ130 e131
  rw [← e131]
  have hk133 : kd _ x0 = (9, NO 9) := (congrFun (congrArg kd e131) _).trans ((up_ne _ _ _ (Nat.ne_of_lt hb129)).trans hk128)
  have hb134 := Nat.lt_of_lt_of_eq (Nat.lt_succ_of_lt hb129) (congrArg nx e131).symm
  have hk135 : kd _ (nx τ125) = (8, NO 8) := (congrFun (congrArg kd e131) _).trans (up_same _ _ _)
  have hb136 := Nat.lt_of_lt_of_eq (Nat.lt_succ_self _) (congrArg nx e131).symm
  refine E_dup dX9_init_88 rfl ?_
  refine E_bipush (10 : Int32) dX9_init_89 (by decide) ?_
  refine E_bipush (60 : Int32) dX9_init_91 (by decide) ?_
  obtain ⟨d137, σ138, hD139, hC140, h⟩ := h
  have hk142 := (hC140.1.2.2.1 _ hb134).trans hk133
  have hb143 := Nat.lt_of_lt_of_le hb134 hC140.1.1
  have hk144 := (hC140.1.2.2.1 _ hb136).trans hk135
  have hb145 := Nat.lt_of_lt_of_le hb136 hC140.1.1
  refine E_callI (As := [.int (10 : Int32), .int (60 : Int32)]) (rest := [.ref (nx τ125), .ref x0]) (r1 := none) (b := (nx τ125)) dX9_init_93 ok_X8_init in_X8_init rfl rfl ml_X9_19 hD139 rfl rfl (Nat.le_of_ble_eq_true rfl) (by decide +kernel) hC140 ?_
  obtain ⟨ga146, h⟩ := h
  obtain ⟨g147, h⟩ := h
  refine E_putR dX9_init_96 fl_X9_38 rfl (Or.inr ⟨rfl, rfl, rfl⟩) hk142 hb143 ga146 g147 ?_
  obtain ⟨τ148, e149⟩ : ∃ τ : AH, τ = (sR σ138 x0 7 (some (nx τ125))) := ⟨_, rfl⟩
  replace h := h τ148 e149
  rw [← e149]
  have hk151 : kd _ x0 = (9, NO 9) := (congrFun (congrArg kd e149) _).trans hk142
  have hb152 := Nat.lt_of_lt_of_eq hb143 (congrArg nx e149).symm
  refine E_aload_n 0 dX9_init_99 rfl rfl ?_
  refine E_new 8 dX9_init_100 (by decide) ck_X9_17 ?_
  obtain ⟨τ153, e154⟩ : ∃ τ : AH, τ = (aw τ148 8 (NO 8)) := ⟨_, rfl⟩
  replace h := h τ153 e154
  rw [← e154]
  have hk156 : kd _ x0 = (9, NO 9) := (congrFun (congrArg kd e154) _).trans ((up_ne _ _ _ (Nat.ne_of_lt hb152)).trans hk151)
  have hb157 := Nat.lt_of_lt_of_eq (Nat.lt_succ_of_lt hb152) (congrArg nx e154).symm
  have hk158 : kd _ (nx τ148) = (8, NO 8) := (congrFun (congrArg kd e154) _).trans (up_same _ _ _)
  have hb159 := Nat.lt_of_lt_of_eq (Nat.lt_succ_self _) (congrArg nx e154).symm
  refine E_dup dX9_init_103 rfl ?_
  refine E_iconst (4 : Int32) dX9_init_104 (by decide) ?_
  refine E_bipush (40 : Int32) dX9_init_105 (by decide) ?_
  obtain ⟨d160, σ161, hD162, hC163, h⟩ := h
  have hk165 := (hC163.1.2.2.1 _ hb157).trans hk156
  have hb166 := Nat.lt_of_lt_of_le hb157 hC163.1.1
  have hk167 := (hC163.1.2.2.1 _ hb159).trans hk158
  have hb168 := Nat.lt_of_lt_of_le hb159 hC163.1.1
  refine E_callI (As := [.int (4 : Int32), .int (40 : Int32)]) (rest := [.ref (nx τ148), .ref x0]) (r1 := none) (b := (nx τ148)) dX9_init_107 ok_X8_init in_X8_init rfl rfl ml_X9_19 hD162 rfl rfl (Nat.le_of_ble_eq_true rfl) (by decide +kernel) hC163 ?_
  obtain ⟨ga169, h⟩ := h
  obtain ⟨g170, h⟩ := h
  refine E_putR dX9_init_110 fl_X9_41 rfl (Or.inr ⟨rfl, rfl, rfl⟩) hk165 hb166 ga169 g170 ?_
  obtain ⟨τ171, e172⟩ : ∃ τ : AH, τ = (sR σ161 x0 8 (some (nx τ148))) := ⟨_, rfl⟩
  replace h := h τ171 e172
  rw [← e172]
  have hk174 : kd _ x0 = (9, NO 9) := (congrFun (congrArg kd e172) _).trans hk165
  have hb175 := Nat.lt_of_lt_of_eq hb166 (congrArg nx e172).symm
  refine E_aload_n 0 dX9_init_113 rfl rfl ?_
  refine E_new 8 dX9_init_114 (by decide) ck_X9_17 ?_
  obtain ⟨τ176, e177⟩ : ∃ τ : AH, τ = (aw τ171 8 (NO 8)) := ⟨_, rfl⟩
  replace h := h τ176 e177
  rw [← e177]
  have hk179 : kd _ x0 = (9, NO 9) := (congrFun (congrArg kd e177) _).trans ((up_ne _ _ _ (Nat.ne_of_lt hb175)).trans hk174)
  have hb180 := Nat.lt_of_lt_of_eq (Nat.lt_succ_of_lt hb175) (congrArg nx e177).symm
  have hk181 : kd _ (nx τ171) = (8, NO 8) := (congrFun (congrArg kd e177) _).trans (up_same _ _ _)
  have hb182 := Nat.lt_of_lt_of_eq (Nat.lt_succ_self _) (congrArg nx e177).symm
  refine E_dup dX9_init_117 rfl ?_
  refine E_bipush (7 : Int32) dX9_init_118 (by decide) ?_
  refine E_sipush (7830 : Int32) dX9_init_120 (by decide) ?_
  obtain ⟨d183, σ184, hD185, hC186, h⟩ := h
  have hk188 := (hC186.1.2.2.1 _ hb180).trans hk179
  have hb189 := Nat.lt_of_lt_of_le hb180 hC186.1.1
  have hk190 := (hC186.1.2.2.1 _ hb182).trans hk181
  have hb191 := Nat.lt_of_lt_of_le hb182 hC186.1.1
  refine E_callI (As := [.int (7 : Int32), .int (7830 : Int32)]) (rest := [.ref (nx τ171), .ref x0]) (r1 := none) (b := (nx τ171)) dX9_init_123 ok_X8_init in_X8_init rfl rfl ml_X9_19 hD185 rfl rfl (Nat.le_of_ble_eq_true rfl) (by decide +kernel) hC186 ?_
  obtain ⟨ga192, h⟩ := h
  obtain ⟨g193, h⟩ := h
  refine E_putR dX9_init_126 fl_X9_44 rfl (Or.inr ⟨rfl, rfl, rfl⟩) hk188 hb189 ga192 g193 ?_
  obtain ⟨τ194, e195⟩ : ∃ τ : AH, τ = (sR σ184 x0 9 (some (nx τ171))) := ⟨_, rfl⟩
  replace h := h τ194 e195
  rw [← e195]
  have hk197 : kd _ x0 = (9, NO 9) := (congrFun (congrArg kd e195) _).trans hk188
  have hb198 := Nat.lt_of_lt_of_eq hb189 (congrArg nx e195).symm
  refine E_aload_n 0 dX9_init_129 rfl rfl ?_
  refine E_bipush (120 : Int32) dX9_init_130 (by decide) ?_
  refine E_newaI 120 dX9_init_132 ac_int (by decide) (by decide) (by decide) ?_
  obtain ⟨τ199, e200⟩ : ∃ τ : AH, τ = (aw τ194 100 120) := ⟨_, rfl⟩
  replace h := h τ199 e200
  rw [← e200]
  have hk202 : kd _ x0 = (9, NO 9) := (congrFun (congrArg kd e200) _).trans ((up_ne _ _ _ (Nat.ne_of_lt hb198)).trans hk197)
  have hb203 := Nat.lt_of_lt_of_eq (Nat.lt_succ_of_lt hb198) (congrArg nx e200).symm
  have hk204 : kd _ (nx τ194) = (100, 120) := (congrFun (congrArg kd e200) _).trans (up_same _ _ _)
  have hb205 := Nat.lt_of_lt_of_eq (Nat.lt_succ_self _) (congrArg nx e200).symm
  obtain ⟨ga206, h⟩ := h
  obtain ⟨g207, h⟩ := h
  refine E_putR dX9_init_134 fl_X9_47 rfl (Or.inr ⟨rfl, rfl, rfl⟩) hk202 hb203 ga206 g207 ?_
  obtain ⟨τ208, e209⟩ : ∃ τ : AH, τ = (sR τ199 x0 10 (some (nx τ194))) := ⟨_, rfl⟩
  replace h := h τ208 e209
  rw [← e209]
  have hk211 : kd _ x0 = (9, NO 9) := (congrFun (congrArg kd e209) _).trans hk202
  have hb212 := Nat.lt_of_lt_of_eq hb203 (congrArg nx e209).symm
  refine E_aload_n 0 dX9_init_137 rfl rfl ?_
  refine E_sipush (2400 : Int32) dX9_init_138 (by decide) ?_
  refine E_newaI 2400 dX9_init_141 ac_int (by decide) (by decide) (by decide) ?_
  obtain ⟨τ213, e214⟩ : ∃ τ : AH, τ = (aw τ208 100 2400) := ⟨_, rfl⟩
  replace h := h τ213 e214
  rw [← e214]
  have hk216 : kd _ x0 = (9, NO 9) := (congrFun (congrArg kd e214) _).trans ((up_ne _ _ _ (Nat.ne_of_lt hb212)).trans hk211)
  have hb217 := Nat.lt_of_lt_of_eq (Nat.lt_succ_of_lt hb212) (congrArg nx e214).symm
  have hk218 : kd _ (nx τ208) = (100, 2400) := (congrFun (congrArg kd e214) _).trans (up_same _ _ _)
  have hb219 := Nat.lt_of_lt_of_eq (Nat.lt_succ_self _) (congrArg nx e214).symm
  obtain ⟨ga220, h⟩ := h
  obtain ⟨g221, h⟩ := h
  refine E_putR dX9_init_143 fl_X9_51 rfl (Or.inr ⟨rfl, rfl, rfl⟩) hk216 hb217 ga220 g221 ?_
  obtain ⟨τ222, e223⟩ : ∃ τ : AH, τ = (sR τ213 x0 11 (some (nx τ208))) := ⟨_, rfl⟩
  replace h := h τ222 e223
  rw [← e223]
  have hk225 : kd _ x0 = (9, NO 9) := (congrFun (congrArg kd e223) _).trans hk216
  have hb226 := Nat.lt_of_lt_of_eq hb217 (congrArg nx e223).symm
  obtain ⟨rfl, rfl⟩ := h
  exact E_vret dX9_init_146 rfl
def W_X9_tellClaimed_0 (X : Sx) (l : Launch) (D : Nat) (x0 : Nat) (x1 : Int32) (x2 : Int32) (σ : AH) (r : Option Value) (σ' : AH) : Prop := kd σ x0 = (9, NO 9) ∧ x0 < nx σ ∧ ∃ b1 n5 : Nat, gR σ x0 11 = some b1 ∧ kd σ b1 = (100, n5) ∧ b1 < nx σ ∧ ∃ b6 n10 : Nat, gR σ x0 11 = some b6 ∧ kd σ b6 = (100, n10) ∧ b6 < nx σ ∧ vp_in x1 n10 ∧ al m_X9_tellClaimed b1 ∧ vp_in x1 n5 ∧ (r = none ∧ σ' = (sI σ b1 x1.toNatClampNeg (((gI σ b6 x1.toNatClampNeg) &&& (-65536 : Int32)) ||| x2)))
set_option maxRecDepth 100000 in
theorem w_X9_tellClaimed_0 {X : Sx} {l : Launch} {D : Nat} {x0 : Nat} {x1 : Int32} {x2 : Int32} {σ : AH} {r : Option Value} {σ' : AH} (h : W_X9_tellClaimed_0 X l D x0 x1 x2 σ r σ') : E X l m_X9_tellClaimed D 0 [(0, .ref x0), (1, .int x1), (2, .int x2)] [] σ r σ' := by
  unfold W_X9_tellClaimed_0 at h
  obtain ⟨hkx0, hbx0, h⟩ := h
  refine E_aload_n 0 dX9_tellClaimed_0 rfl rfl ?_
  obtain ⟨b1, n5, g2, hk3, hb4, h⟩ := h
  refine E_getR b1 dX9_tellClaimed_1 fl_X9_51 rfl hkx0 hbx0 g2 ?_
  refine E_iload_n 1 dX9_tellClaimed_4 rfl rfl ?_
  refine E_aload_n 0 dX9_tellClaimed_5 rfl rfl ?_
  obtain ⟨b6, n10, g7, hk8, hb9, h⟩ := h
  refine E_getR b6 dX9_tellClaimed_6 fl_X9_51 rfl hkx0 hbx0 g7 ?_
  refine E_iload_n 1 dX9_tellClaimed_9 rfl rfl ?_
  obtain ⟨g11, h⟩ := h
  refine E_iald2 (x1.toNatClampNeg) dX9_tellClaimed_10 hk8 hb9 g11 rfl ?_
  refine E_ldc (-65536 : Int32) dX9_tellClaimed_11 ct_X9_54 ?_
  refine E_iand dX9_tellClaimed_13 ?_
  refine E_iload_n 2 dX9_tellClaimed_14 rfl rfl ?_
  refine E_ior dX9_tellClaimed_15 ?_
  obtain ⟨ga12, h⟩ := h
  obtain ⟨g13, h⟩ := h
  refine E_iast2 (x1.toNatClampNeg) dX9_tellClaimed_16 hk3 hb4 ga12 g13 rfl ?_
  obtain ⟨rfl, rfl⟩ := h
  exact E_vret dX9_tellClaimed_17 rfl
def W_X9_tellSeen_0 (X : Sx) (l : Launch) (D : Nat) (x0 : Nat) (x1 : Int32) (x2 : Int32) (σ : AH) (r : Option Value) (σ' : AH) : Prop := kd σ x0 = (9, NO 9) ∧ x0 < nx σ ∧ ∃ b1 n5 : Nat, gR σ x0 11 = some b1 ∧ kd σ b1 = (100, n5) ∧ b1 < nx σ ∧ ∃ b6 n10 : Nat, gR σ x0 11 = some b6 ∧ kd σ b6 = (100, n10) ∧ b6 < nx σ ∧ vp_in x1 n10 ∧ al m_X9_tellSeen b1 ∧ vp_in x1 n5 ∧ (r = none ∧ σ' = (sI σ b1 x1.toNatClampNeg (((gI σ b6 x1.toNatClampNeg) &&& (65535 : Int32)) ||| ((x2 + (1 : Int32)) <<< ((16 : Int32) &&& 31)))))
set_option maxRecDepth 100000 in
theorem w_X9_tellSeen_0 {X : Sx} {l : Launch} {D : Nat} {x0 : Nat} {x1 : Int32} {x2 : Int32} {σ : AH} {r : Option Value} {σ' : AH} (h : W_X9_tellSeen_0 X l D x0 x1 x2 σ r σ') : E X l m_X9_tellSeen D 0 [(0, .ref x0), (1, .int x1), (2, .int x2)] [] σ r σ' := by
  unfold W_X9_tellSeen_0 at h
  obtain ⟨hkx0, hbx0, h⟩ := h
  refine E_aload_n 0 dX9_tellSeen_0 rfl rfl ?_
  obtain ⟨b1, n5, g2, hk3, hb4, h⟩ := h
  refine E_getR b1 dX9_tellSeen_1 fl_X9_51 rfl hkx0 hbx0 g2 ?_
  refine E_iload_n 1 dX9_tellSeen_4 rfl rfl ?_
  refine E_aload_n 0 dX9_tellSeen_5 rfl rfl ?_
  obtain ⟨b6, n10, g7, hk8, hb9, h⟩ := h
  refine E_getR b6 dX9_tellSeen_6 fl_X9_51 rfl hkx0 hbx0 g7 ?_
  refine E_iload_n 1 dX9_tellSeen_9 rfl rfl ?_
  obtain ⟨g11, h⟩ := h
  refine E_iald2 (x1.toNatClampNeg) dX9_tellSeen_10 hk8 hb9 g11 rfl ?_
  refine E_ldc (65535 : Int32) dX9_tellSeen_11 ct_X9_55 ?_
  refine E_iand dX9_tellSeen_13 ?_
  refine E_iload_n 2 dX9_tellSeen_14 rfl rfl ?_
  refine E_iconst (1 : Int32) dX9_tellSeen_15 (by decide) ?_
  refine E_iadd dX9_tellSeen_16 ?_
  refine E_bipush (16 : Int32) dX9_tellSeen_17 (by decide) ?_
  refine E_ishl dX9_tellSeen_19 ?_
  refine E_ior dX9_tellSeen_20 ?_
  obtain ⟨ga12, h⟩ := h
  obtain ⟨g13, h⟩ := h
  refine E_iast2 (x1.toNatClampNeg) dX9_tellSeen_21 hk3 hb4 ga12 g13 rfl ?_
  obtain ⟨rfl, rfl⟩ := h
  exact E_vret dX9_tellSeen_22 rfl
def W_X9_claimedIn_0 (X : Sx) (l : Launch) (D : Nat) (x0 : Nat) (x1 : Int32) (σ : AH) (r : Option Value) (σ' : AH) : Prop := kd σ x0 = (9, NO 9) ∧ x0 < nx σ ∧ ∃ b1 n5 : Nat, gR σ x0 11 = some b1 ∧ kd σ b1 = (100, n5) ∧ b1 < nx σ ∧ vp_in x1 n5 ∧ (r = some (.int ((gI σ b1 x1.toNatClampNeg) &&& (65535 : Int32))) ∧ σ' = σ)
set_option maxRecDepth 100000 in
theorem w_X9_claimedIn_0 {X : Sx} {l : Launch} {D : Nat} {x0 : Nat} {x1 : Int32} {σ : AH} {r : Option Value} {σ' : AH} (h : W_X9_claimedIn_0 X l D x0 x1 σ r σ') : E X l m_X9_claimedIn D 0 [(0, .ref x0), (1, .int x1)] [] σ r σ' := by
  unfold W_X9_claimedIn_0 at h
  obtain ⟨hkx0, hbx0, h⟩ := h
  refine E_aload_n 0 dX9_claimedIn_0 rfl rfl ?_
  obtain ⟨b1, n5, g2, hk3, hb4, h⟩ := h
  refine E_getR b1 dX9_claimedIn_1 fl_X9_51 rfl hkx0 hbx0 g2 ?_
  refine E_iload_n 1 dX9_claimedIn_4 rfl rfl ?_
  obtain ⟨g6, h⟩ := h
  refine E_iald2 (x1.toNatClampNeg) dX9_claimedIn_5 hk3 hb4 g6 rfl ?_
  refine E_ldc (65535 : Int32) dX9_claimedIn_6 ct_X9_55 ?_
  refine E_iand dX9_claimedIn_8 ?_
  obtain ⟨rfl, rfl⟩ := h
  exact E_iret dX9_claimedIn_9 rfl
def W_X9_seenIn_0 (X : Sx) (l : Launch) (D : Nat) (x0 : Nat) (x1 : Int32) (σ : AH) (r : Option Value) (σ' : AH) : Prop := kd σ x0 = (9, NO 9) ∧ x0 < nx σ ∧ ∃ b1 n5 : Nat, gR σ x0 11 = some b1 ∧ kd σ b1 = (100, n5) ∧ b1 < nx σ ∧ vp_in x1 n5 ∧ (r = some (.int (((gI σ b1 x1.toNatClampNeg) >>> ((16 : Int32) &&& 31)) - (1 : Int32))) ∧ σ' = σ)
set_option maxRecDepth 100000 in
theorem w_X9_seenIn_0 {X : Sx} {l : Launch} {D : Nat} {x0 : Nat} {x1 : Int32} {σ : AH} {r : Option Value} {σ' : AH} (h : W_X9_seenIn_0 X l D x0 x1 σ r σ') : E X l m_X9_seenIn D 0 [(0, .ref x0), (1, .int x1)] [] σ r σ' := by
  unfold W_X9_seenIn_0 at h
  obtain ⟨hkx0, hbx0, h⟩ := h
  refine E_aload_n 0 dX9_seenIn_0 rfl rfl ?_
  obtain ⟨b1, n5, g2, hk3, hb4, h⟩ := h
  refine E_getR b1 dX9_seenIn_1 fl_X9_51 rfl hkx0 hbx0 g2 ?_
  refine E_iload_n 1 dX9_seenIn_4 rfl rfl ?_
  obtain ⟨g6, h⟩ := h
  refine E_iald2 (x1.toNatClampNeg) dX9_seenIn_5 hk3 hb4 g6 rfl ?_
  refine E_bipush (16 : Int32) dX9_seenIn_6 (by decide) ?_
  refine E_ishr dX9_seenIn_8 ?_
  refine E_iconst (1 : Int32) dX9_seenIn_9 (by decide) ?_
  refine E_isub dX9_seenIn_10 ?_
  obtain ⟨rfl, rfl⟩ := h
  exact E_iret dX9_seenIn_11 rfl
