theorem dX12_readPart_0 : decode cX12_readPart 0 = .ok (.aload_n 0, 1) := by decide +kernel
theorem dX12_readPart_1 : decode cX12_readPart 1 = .ok (.bipush 91, 2) := by decide +kernel
theorem dX12_readPart_3 : decode cX12_readPart 3 = .ok (.invokevirtual 265, 3) := by decide +kernel
theorem dX12_readPart_6 : decode cX12_readPart 6 = .ok (.ifCond .eq 11, 3) := by decide +kernel
theorem dX12_readPart_9 : decode cX12_readPart 9 = .ok (.aload_n 0, 1) := by decide +kernel
theorem dX12_readPart_10 : decode cX12_readPart 10 = .ok (.bipush 31, 2) := by decide +kernel
theorem dX12_readPart_12 : decode cX12_readPart 12 = .ok (.invokevirtual 268, 3) := by decide +kernel
theorem dX12_readPart_15 : decode cX12_readPart 15 = .ok (.iconst 1, 1) := by decide +kernel
theorem dX12_readPart_16 : decode cX12_readPart 16 = .ok (.ireturn, 1) := by decide +kernel
theorem dX12_readPart_17 : decode cX12_readPart 17 = .ok (.aload_n 0, 1) := by decide +kernel
theorem dX12_readPart_18 : decode cX12_readPart 18 = .ok (.ldc2_w 271, 3) := by decide +kernel
theorem dX12_readPart_21 : decode cX12_readPart 21 = .ok (.invokevirtual 243, 3) := by decide +kernel
theorem dX12_readPart_24 : decode cX12_readPart 24 = .ok (.ifCond .ne 13, 3) := by decide +kernel
theorem dX12_readPart_27 : decode cX12_readPart 27 = .ok (.aload_n 0, 1) := by decide +kernel
theorem dX12_readPart_28 : decode cX12_readPart 28 = .ok (.ldc2_w 273, 3) := by decide +kernel
theorem dX12_readPart_31 : decode cX12_readPart 31 = .ok (.invokevirtual 243, 3) := by decide +kernel
theorem dX12_readPart_34 : decode cX12_readPart 34 = .ok (.ifCond .eq 36, 3) := by decide +kernel
theorem dX12_readPart_37 : decode cX12_readPart 37 = .ok (.aload_n 0, 1) := by decide +kernel
theorem dX12_readPart_38 : decode cX12_readPart 38 = .ok (.aload_n 0, 1) := by decide +kernel
theorem dX12_readPart_39 : decode cX12_readPart 39 = .ok (.ldc2_w 271, 3) := by decide +kernel
theorem dX12_readPart_42 : decode cX12_readPart 42 = .ok (.invokevirtual 243, 3) := by decide +kernel
theorem dX12_readPart_45 : decode cX12_readPart 45 = .ok (.ifCond .eq 8, 3) := by decide +kernel
theorem dX12_readPart_48 : decode cX12_readPart 48 = .ok (.bipush 32, 2) := by decide +kernel
theorem dX12_readPart_50 : decode cX12_readPart 50 = .ok (.goto 5, 3) := by decide +kernel
theorem dX12_readPart_53 : decode cX12_readPart 53 = .ok (.bipush 33, 2) := by decide +kernel
theorem dX12_readPart_55 : decode cX12_readPart 55 = .ok (.invokevirtual 268, 3) := by decide +kernel
theorem dX12_readPart_58 : decode cX12_readPart 58 = .ok (.aload_n 0, 1) := by decide +kernel
theorem dX12_readPart_59 : decode cX12_readPart 59 = .ok (.aload_n 0, 1) := by decide +kernel
theorem dX12_readPart_60 : decode cX12_readPart 60 = .ok (.bipush 91, 2) := by decide +kernel
theorem dX12_readPart_62 : decode cX12_readPart 62 = .ok (.invokevirtual 265, 3) := by decide +kernel
theorem dX12_readPart_65 : decode cX12_readPart 65 = .ok (.invokevirtual 216, 3) := by decide +kernel
theorem dX12_readPart_68 : decode cX12_readPart 68 = .ok (.iconst 1, 1) := by decide +kernel
theorem dX12_readPart_69 : decode cX12_readPart 69 = .ok (.ireturn, 1) := by decide +kernel
theorem dX12_readPart_70 : decode cX12_readPart 70 = .ok (.aload_n 0, 1) := by decide +kernel
theorem dX12_readPart_71 : decode cX12_readPart 71 = .ok (.invokevirtual 275, 3) := by decide +kernel
theorem dX12_readPart_74 : decode cX12_readPart 74 = .ok (.istore_n 1, 1) := by decide +kernel
theorem dX12_readPart_75 : decode cX12_readPart 75 = .ok (.aload_n 0, 1) := by decide +kernel
theorem dX12_readPart_76 : decode cX12_readPart 76 = .ok (.getfield 201, 3) := by decide +kernel
theorem dX12_readPart_79 : decode cX12_readPart 79 = .ok (.iconst 2, 1) := by decide +kernel
theorem dX12_readPart_80 : decode cX12_readPart 80 = .ok (.if_icmp .ne 18, 3) := by decide +kernel
theorem dX12_readPart_83 : decode cX12_readPart 83 = .ok (.aload_n 0, 1) := by decide +kernel
theorem dX12_readPart_84 : decode cX12_readPart 84 = .ok (.getfield 190, 3) := by decide +kernel
theorem dX12_readPart_87 : decode cX12_readPart 87 = .ok (.ldc2_w 279, 3) := by decide +kernel
theorem dX12_readPart_90 : decode cX12_readPart 90 = .ok (.lcmp, 1) := by decide +kernel
theorem dX12_readPart_91 : decode cX12_readPart 91 = .ok (.ifCond .gt 7, 3) := by decide +kernel
theorem dX12_readPart_94 : decode cX12_readPart 94 = .ok (.iconst 1, 1) := by decide +kernel
theorem dX12_readPart_95 : decode cX12_readPart 95 = .ok (.goto 4, 3) := by decide +kernel
theorem dX12_readPart_98 : decode cX12_readPart 98 = .ok (.iconst 0, 1) := by decide +kernel
theorem dX12_readPart_99 : decode cX12_readPart 99 = .ok (.istore_n 2, 1) := by decide +kernel
theorem dX12_readPart_100 : decode cX12_readPart 100 = .ok (.iload_n 2, 1) := by decide +kernel
theorem dX12_readPart_101 : decode cX12_readPart 101 = .ok (.ifCond .eq 11, 3) := by decide +kernel
theorem dX12_readPart_104 : decode cX12_readPart 104 = .ok (.aload_n 0, 1) := by decide +kernel
theorem dX12_readPart_105 : decode cX12_readPart 105 = .ok (.getfield 190, 3) := by decide +kernel
theorem dX12_readPart_108 : decode cX12_readPart 108 = .ok (.l2i, 1) := by decide +kernel
theorem dX12_readPart_109 : decode cX12_readPart 109 = .ok (.goto 4, 3) := by decide +kernel
theorem dX12_readPart_112 : decode cX12_readPart 112 = .ok (.iconst 0, 1) := by decide +kernel
theorem dX12_readPart_113 : decode cX12_readPart 113 = .ok (.istore_n 3, 1) := by decide +kernel
theorem dX12_readPart_114 : decode cX12_readPart 114 = .ok (.aload_n 0, 1) := by decide +kernel
theorem dX12_readPart_115 : decode cX12_readPart 115 = .ok (.iload_n 1, 1) := by decide +kernel
theorem dX12_readPart_116 : decode cX12_readPart 116 = .ok (.iconst (-1), 1) := by decide +kernel
theorem dX12_readPart_117 : decode cX12_readPart 117 = .ok (.if_icmp .ne 7, 3) := by decide +kernel
theorem dX12_readPart_120 : decode cX12_readPart 120 = .ok (.iload_n 2, 1) := by decide +kernel
theorem dX12_readPart_121 : decode cX12_readPart 121 = .ok (.ifCond .eq 16, 3) := by decide +kernel
theorem dX12_readPart_124 : decode cX12_readPart 124 = .ok (.aload_n 0, 1) := by decide +kernel
theorem dX12_readPart_125 : decode cX12_readPart 125 = .ok (.getfield 281, 3) := by decide +kernel
theorem dX12_readPart_128 : decode cX12_readPart 128 = .ok (.bipush 60, 2) := by decide +kernel
theorem dX12_readPart_130 : decode cX12_readPart 130 = .ok (.if_icmp .ge 7, 3) := by decide +kernel
theorem dX12_readPart_133 : decode cX12_readPart 133 = .ok (.iconst 1, 1) := by decide +kernel
theorem dX12_readPart_134 : decode cX12_readPart 134 = .ok (.goto 4, 3) := by decide +kernel
theorem dX12_readPart_137 : decode cX12_readPart 137 = .ok (.iconst 0, 1) := by decide +kernel
theorem dX12_readPart_138 : decode cX12_readPart 138 = .ok (.invokevirtual 216, 3) := by decide +kernel
theorem dX12_readPart_141 : decode cX12_readPart 141 = .ok (.aload_n 0, 1) := by decide +kernel
theorem dX12_readPart_142 : decode cX12_readPart 142 = .ok (.getfield 180, 3) := by decide +kernel
theorem dX12_readPart_145 : decode cX12_readPart 145 = .ok (.ifCond .ne 28, 3) := by decide +kernel
theorem dX12_readPart_148 : decode cX12_readPart 148 = .ok (.aload_n 0, 1) := by decide +kernel
theorem dX12_readPart_149 : decode cX12_readPart 149 = .ok (.iload_n 1, 1) := by decide +kernel
theorem dX12_readPart_150 : decode cX12_readPart 150 = .ok (.iconst (-1), 1) := by decide +kernel
theorem dX12_readPart_151 : decode cX12_readPart 151 = .ok (.if_icmp .ne 7, 3) := by decide +kernel
theorem dX12_readPart_154 : decode cX12_readPart 154 = .ok (.iconst 0, 1) := by decide +kernel
theorem dX12_readPart_155 : decode cX12_readPart 155 = .ok (.goto 4, 3) := by decide +kernel
theorem dX12_readPart_158 : decode cX12_readPart 158 = .ok (.iload_n 1, 1) := by decide +kernel
theorem dX12_readPart_159 : decode cX12_readPart 159 = .ok (.iload_n 3, 1) := by decide +kernel
theorem dX12_readPart_160 : decode cX12_readPart 160 = .ok (.invokevirtual 229, 3) := by decide +kernel
theorem dX12_readPart_163 : decode cX12_readPart 163 = .ok (.aload_n 0, 1) := by decide +kernel
theorem dX12_readPart_164 : decode cX12_readPart 164 = .ok (.dup, 1) := by decide +kernel
theorem dX12_readPart_165 : decode cX12_readPart 165 = .ok (.getfield 281, 3) := by decide +kernel
theorem dX12_readPart_168 : decode cX12_readPart 168 = .ok (.iconst 1, 1) := by decide +kernel
theorem dX12_readPart_169 : decode cX12_readPart 169 = .ok (.iadd, 1) := by decide +kernel
theorem dX12_readPart_170 : decode cX12_readPart 170 = .ok (.putfield 281, 3) := by decide +kernel
theorem dX12_readPart_173 : decode cX12_readPart 173 = .ok (.iconst 3, 1) := by decide +kernel
theorem dX12_readPart_174 : decode cX12_readPart 174 = .ok (.ireturn, 1) := by decide +kernel
theorem dX12_readPlain_0 : decode cX12_readPlain 0 = .ok (.aload_n 0, 1) := by decide +kernel
theorem dX12_readPlain_1 : decode cX12_readPlain 1 = .ok (.ldc2_w 284, 3) := by decide +kernel
theorem dX12_readPlain_4 : decode cX12_readPlain 4 = .ok (.invokevirtual 243, 3) := by decide +kernel
theorem dX12_readPlain_7 : decode cX12_readPlain 7 = .ok (.ifCond .eq 16, 3) := by decide +kernel
theorem dX12_readPlain_10 : decode cX12_readPlain 10 = .ok (.aload_n 0, 1) := by decide +kernel
theorem dX12_readPlain_11 : decode cX12_readPlain 11 = .ok (.bipush 17, 2) := by decide +kernel
theorem dX12_readPlain_13 : decode cX12_readPlain 13 = .ok (.iconst 0, 1) := by decide +kernel
theorem dX12_readPlain_14 : decode cX12_readPlain 14 = .ok (.invokevirtual 262, 3) := by decide +kernel
theorem dX12_readPlain_17 : decode cX12_readPlain 17 = .ok (.aload_n 0, 1) := by decide +kernel
theorem dX12_readPlain_18 : decode cX12_readPlain 18 = .ok (.invokevirtual 184, 3) := by decide +kernel
theorem dX12_readPlain_21 : decode cX12_readPlain 21 = .ok (.iconst 0, 1) := by decide +kernel
theorem dX12_readPlain_22 : decode cX12_readPlain 22 = .ok (.ireturn, 1) := by decide +kernel
theorem dX12_readPlain_23 : decode cX12_readPlain 23 = .ok (.aload_n 0, 1) := by decide +kernel
theorem dX12_readPlain_24 : decode cX12_readPlain 24 = .ok (.bipush 40, 2) := by decide +kernel
theorem dX12_readPlain_26 : decode cX12_readPlain 26 = .ok (.invokevirtual 265, 3) := by decide +kernel
theorem dX12_readPlain_29 : decode cX12_readPlain 29 = .ok (.ifCond .eq 11, 3) := by decide +kernel
theorem dX12_readPlain_32 : decode cX12_readPlain 32 = .ok (.aload_n 0, 1) := by decide +kernel
theorem dX12_readPlain_33 : decode cX12_readPlain 33 = .ok (.bipush 30, 2) := by decide +kernel
theorem dX12_readPlain_35 : decode cX12_readPlain 35 = .ok (.invokevirtual 268, 3) := by decide +kernel
theorem dX12_readPlain_38 : decode cX12_readPlain 38 = .ok (.iconst 0, 1) := by decide +kernel
theorem dX12_readPlain_39 : decode cX12_readPlain 39 = .ok (.ireturn, 1) := by decide +kernel
theorem dX12_readPlain_40 : decode cX12_readPlain 40 = .ok (.aload_n 0, 1) := by decide +kernel
theorem dX12_readPlain_41 : decode cX12_readPlain 41 = .ok (.invokevirtual 286, 3) := by decide +kernel
theorem dX12_readPlain_44 : decode cX12_readPlain 44 = .ok (.ireturn, 1) := by decide +kernel
theorem dX12_behindBracket_0 : decode cX12_behindBracket 0 = .ok (.iload_n 1, 1) := by decide +kernel
theorem dX12_behindBracket_1 : decode cX12_behindBracket 1 = .ok (.bipush 32, 2) := by decide +kernel
theorem dX12_behindBracket_3 : decode cX12_behindBracket 3 = .ok (.if_icmp .eq 9, 3) := by decide +kernel
theorem dX12_behindBracket_6 : decode cX12_behindBracket 6 = .ok (.iload_n 1, 1) := by decide +kernel
theorem dX12_behindBracket_7 : decode cX12_behindBracket 7 = .ok (.bipush 33, 2) := by decide +kernel
theorem dX12_behindBracket_9 : decode cX12_behindBracket 9 = .ok (.if_icmp .ne 7, 3) := by decide +kernel
theorem dX12_behindBracket_12 : decode cX12_behindBracket 12 = .ok (.iconst 1, 1) := by decide +kernel
theorem dX12_behindBracket_13 : decode cX12_behindBracket 13 = .ok (.goto 4, 3) := by decide +kernel
theorem dX12_behindBracket_16 : decode cX12_behindBracket 16 = .ok (.iconst 0, 1) := by decide +kernel
theorem dX12_behindBracket_17 : decode cX12_behindBracket 17 = .ok (.istore_n 2, 1) := by decide +kernel
theorem dX12_behindBracket_18 : decode cX12_behindBracket 18 = .ok (.aload_n 0, 1) := by decide +kernel
theorem dX12_behindBracket_19 : decode cX12_behindBracket 19 = .ok (.aload_n 0, 1) := by decide +kernel
theorem dX12_behindBracket_20 : decode cX12_behindBracket 20 = .ok (.iload_n 2, 1) := by decide +kernel
theorem dX12_behindBracket_21 : decode cX12_behindBracket 21 = .ok (.ifCond .eq 8, 3) := by decide +kernel
theorem dX12_behindBracket_24 : decode cX12_behindBracket 24 = .ok (.bipush 44, 2) := by decide +kernel
theorem dX12_behindBracket_26 : decode cX12_behindBracket 26 = .ok (.goto 5, 3) := by decide +kernel
theorem dX12_behindBracket_29 : decode cX12_behindBracket 29 = .ok (.bipush 93, 2) := by decide +kernel
theorem dX12_behindBracket_31 : decode cX12_behindBracket 31 = .ok (.invokevirtual 265, 3) := by decide +kernel
theorem dX12_behindBracket_34 : decode cX12_behindBracket 34 = .ok (.invokevirtual 216, 3) := by decide +kernel
theorem dX12_behindBracket_37 : decode cX12_behindBracket 37 = .ok (.aload_n 0, 1) := by decide +kernel
theorem dX12_behindBracket_38 : decode cX12_behindBracket 38 = .ok (.getfield 180, 3) := by decide +kernel
theorem dX12_behindBracket_41 : decode cX12_behindBracket 41 = .ok (.ifCond .eq 5, 3) := by decide +kernel
theorem dX12_behindBracket_44 : decode cX12_behindBracket 44 = .ok (.iconst 4, 1) := by decide +kernel
theorem dX12_behindBracket_45 : decode cX12_behindBracket 45 = .ok (.ireturn, 1) := by decide +kernel
theorem dX12_behindBracket_46 : decode cX12_behindBracket 46 = .ok (.aload_n 0, 1) := by decide +kernel
theorem dX12_behindBracket_47 : decode cX12_behindBracket 47 = .ok (.iconst 5, 1) := by decide +kernel
theorem dX12_behindBracket_48 : decode cX12_behindBracket 48 = .ok (.invokevirtual 289, 3) := by decide +kernel
theorem dX12_behindBracket_51 : decode cX12_behindBracket 51 = .ok (.aload_n 0, 1) := by decide +kernel
theorem dX12_behindBracket_52 : decode cX12_behindBracket 52 = .ok (.dup, 1) := by decide +kernel
theorem dX12_behindBracket_53 : decode cX12_behindBracket 53 = .ok (.getfield 223, 3) := by decide +kernel
theorem dX12_behindBracket_56 : decode cX12_behindBracket 56 = .ok (.iconst 1, 1) := by decide +kernel
theorem dX12_behindBracket_57 : decode cX12_behindBracket 57 = .ok (.isub, 1) := by decide +kernel
theorem dX12_behindBracket_58 : decode cX12_behindBracket 58 = .ok (.putfield 223, 3) := by decide +kernel
theorem dX12_behindBracket_61 : decode cX12_behindBracket 61 = .ok (.iload_n 2, 1) := by decide +kernel
theorem dX12_behindBracket_62 : decode cX12_behindBracket 62 = .ok (.ifCond .eq 13, 3) := by decide +kernel
theorem dX12_behindBracket_65 : decode cX12_behindBracket 65 = .ok (.aload_n 0, 1) := by decide +kernel
theorem dX12_behindBracket_66 : decode cX12_behindBracket 66 = .ok (.iload_n 1, 1) := by decide +kernel
theorem dX12_behindBracket_67 : decode cX12_behindBracket 67 = .ok (.iconst 2, 1) := by decide +kernel
theorem dX12_behindBracket_68 : decode cX12_behindBracket 68 = .ok (.iadd, 1) := by decide +kernel
theorem dX12_behindBracket_69 : decode cX12_behindBracket 69 = .ok (.iconst 0, 1) := by decide +kernel
theorem dX12_behindBracket_70 : decode cX12_behindBracket 70 = .ok (.invokevirtual 262, 3) := by decide +kernel
theorem dX12_behindBracket_73 : decode cX12_behindBracket 73 = .ok (.iconst 1, 1) := by decide +kernel
theorem dX12_behindBracket_74 : decode cX12_behindBracket 74 = .ok (.ireturn, 1) := by decide +kernel
theorem dX12_behindBracket_75 : decode cX12_behindBracket 75 = .ok (.aload_n 0, 1) := by decide +kernel
theorem dX12_behindBracket_76 : decode cX12_behindBracket 76 = .ok (.dup, 1) := by decide +kernel
theorem dX12_behindBracket_77 : decode cX12_behindBracket 77 = .ok (.getfield 259, 3) := by decide +kernel
theorem dX12_behindBracket_80 : decode cX12_behindBracket 80 = .ok (.iconst 1, 1) := by decide +kernel
theorem dX12_behindBracket_81 : decode cX12_behindBracket 81 = .ok (.isub, 1) := by decide +kernel
theorem dX12_behindBracket_82 : decode cX12_behindBracket 82 = .ok (.putfield 259, 3) := by decide +kernel
theorem dX12_behindBracket_85 : decode cX12_behindBracket 85 = .ok (.iload_n 1, 1) := by decide +kernel
theorem dX12_behindBracket_86 : decode cX12_behindBracket 86 = .ok (.bipush 31, 2) := by decide +kernel
theorem dX12_behindBracket_88 : decode cX12_behindBracket 88 = .ok (.if_icmp .eq 21, 3) := by decide +kernel
theorem dX12_behindBracket_91 : decode cX12_behindBracket 91 = .ok (.aload_n 0, 1) := by decide +kernel
theorem dX12_behindBracket_92 : decode cX12_behindBracket 92 = .ok (.iload_n 1, 1) := by decide +kernel
theorem dX12_behindBracket_93 : decode cX12_behindBracket 93 = .ok (.bipush 34, 2) := by decide +kernel
theorem dX12_behindBracket_95 : decode cX12_behindBracket 95 = .ok (.if_icmp .ne 8, 3) := by decide +kernel
theorem dX12_behindBracket_98 : decode cX12_behindBracket 98 = .ok (.bipush 15, 2) := by decide +kernel
theorem dX12_behindBracket_100 : decode cX12_behindBracket 100 = .ok (.goto 5, 3) := by decide +kernel
theorem dX12_behindBracket_103 : decode cX12_behindBracket 103 = .ok (.bipush 16, 2) := by decide +kernel
theorem dX12_behindBracket_105 : decode cX12_behindBracket 105 = .ok (.iconst 0, 1) := by decide +kernel
theorem dX12_behindBracket_106 : decode cX12_behindBracket 106 = .ok (.invokevirtual 229, 3) := by decide +kernel
theorem dX12_behindBracket_109 : decode cX12_behindBracket 109 = .ok (.iconst 3, 1) := by decide +kernel
theorem dX12_behindBracket_110 : decode cX12_behindBracket 110 = .ok (.ireturn, 1) := by decide +kernel
theorem dX12_behindSum_0 : decode cX12_behindSum 0 = .ok (.aload_n 0, 1) := by decide +kernel
theorem dX12_behindSum_1 : decode cX12_behindSum 1 = .ok (.bipush 43, 2) := by decide +kernel
theorem dX12_behindSum_3 : decode cX12_behindSum 3 = .ok (.invokevirtual 265, 3) := by decide +kernel
theorem dX12_behindSum_6 : decode cX12_behindSum 6 = .ok (.ifCond .eq 8, 3) := by decide +kernel
theorem dX12_behindSum_9 : decode cX12_behindSum 9 = .ok (.bipush 8, 2) := by decide +kernel
theorem dX12_behindSum_11 : decode cX12_behindSum 11 = .ok (.goto 46, 3) := by decide +kernel
theorem dX12_behindSum_14 : decode cX12_behindSum 14 = .ok (.aload_n 0, 1) := by decide +kernel
theorem dX12_behindSum_15 : decode cX12_behindSum 15 = .ok (.bipush 45, 2) := by decide +kernel
theorem dX12_behindSum_17 : decode cX12_behindSum 17 = .ok (.invokevirtual 265, 3) := by decide +kernel
theorem dX12_behindSum_20 : decode cX12_behindSum 20 = .ok (.ifCond .eq 8, 3) := by decide +kernel
theorem dX12_behindSum_23 : decode cX12_behindSum 23 = .ok (.bipush 9, 2) := by decide +kernel
theorem dX12_behindSum_25 : decode cX12_behindSum 25 = .ok (.goto 32, 3) := by decide +kernel
theorem dX12_behindSum_28 : decode cX12_behindSum 28 = .ok (.aload_n 0, 1) := by decide +kernel
theorem dX12_behindSum_29 : decode cX12_behindSum 29 = .ok (.bipush 42, 2) := by decide +kernel
theorem dX12_behindSum_31 : decode cX12_behindSum 31 = .ok (.invokevirtual 265, 3) := by decide +kernel
theorem dX12_behindSum_34 : decode cX12_behindSum 34 = .ok (.ifCond .eq 8, 3) := by decide +kernel
theorem dX12_behindSum_37 : decode cX12_behindSum 37 = .ok (.bipush 10, 2) := by decide +kernel
theorem dX12_behindSum_39 : decode cX12_behindSum 39 = .ok (.goto 18, 3) := by decide +kernel
theorem dX12_behindSum_42 : decode cX12_behindSum 42 = .ok (.aload_n 0, 1) := by decide +kernel
theorem dX12_behindSum_43 : decode cX12_behindSum 43 = .ok (.bipush 47, 2) := by decide +kernel
theorem dX12_behindSum_45 : decode cX12_behindSum 45 = .ok (.invokevirtual 265, 3) := by decide +kernel
theorem dX12_behindSum_48 : decode cX12_behindSum 48 = .ok (.ifCond .eq 8, 3) := by decide +kernel
theorem dX12_behindSum_51 : decode cX12_behindSum 51 = .ok (.bipush 11, 2) := by decide +kernel
theorem dX12_behindSum_53 : decode cX12_behindSum 53 = .ok (.goto 4, 3) := by decide +kernel
theorem dX12_behindSum_56 : decode cX12_behindSum 56 = .ok (.iconst (-1), 1) := by decide +kernel
theorem dX12_behindSum_57 : decode cX12_behindSum 57 = .ok (.istore_n 2, 1) := by decide +kernel
theorem dX12_behindSum_58 : decode cX12_behindSum 58 = .ok (.iload_n 2, 1) := by decide +kernel
theorem dX12_behindSum_59 : decode cX12_behindSum 59 = .ok (.iconst (-1), 1) := by decide +kernel
theorem dX12_behindSum_60 : decode cX12_behindSum 60 = .ok (.if_icmp .eq 23, 3) := by decide +kernel
theorem dX12_behindSum_63 : decode cX12_behindSum 63 = .ok (.aload_n 0, 1) := by decide +kernel
theorem dX12_behindSum_64 : decode cX12_behindSum 64 = .ok (.iload_n 2, 1) := by decide +kernel
theorem dX12_behindSum_65 : decode cX12_behindSum 65 = .ok (.invokestatic 226, 3) := by decide +kernel
theorem dX12_behindSum_68 : decode cX12_behindSum 68 = .ok (.invokevirtual 289, 3) := by decide +kernel
theorem dX12_behindSum_71 : decode cX12_behindSum 71 = .ok (.aload_n 0, 1) := by decide +kernel
theorem dX12_behindSum_72 : decode cX12_behindSum 72 = .ok (.iload_n 2, 1) := by decide +kernel
theorem dX12_behindSum_73 : decode cX12_behindSum 73 = .ok (.iconst 0, 1) := by decide +kernel
theorem dX12_behindSum_74 : decode cX12_behindSum 74 = .ok (.invokevirtual 262, 3) := by decide +kernel
theorem dX12_behindSum_77 : decode cX12_behindSum 77 = .ok (.aload_n 0, 1) := by decide +kernel
theorem dX12_behindSum_78 : decode cX12_behindSum 78 = .ok (.invokevirtual 184, 3) := by decide +kernel
theorem dX12_behindSum_81 : decode cX12_behindSum 81 = .ok (.iconst 1, 1) := by decide +kernel
theorem dX12_behindSum_82 : decode cX12_behindSum 82 = .ok (.ireturn, 1) := by decide +kernel
theorem dX12_behindSum_83 : decode cX12_behindSum 83 = .ok (.aload_n 0, 1) := by decide +kernel
theorem dX12_behindSum_84 : decode cX12_behindSum 84 = .ok (.invokevirtual 292, 3) := by decide +kernel
theorem dX12_behindSum_87 : decode cX12_behindSum 87 = .ok (.istore_n 3, 1) := by decide +kernel
theorem dX12_behindSum_88 : decode cX12_behindSum 88 = .ok (.iload_n 3, 1) := by decide +kernel
theorem dX12_behindSum_89 : decode cX12_behindSum 89 = .ok (.bipush 30, 2) := by decide +kernel
theorem dX12_behindSum_91 : decode cX12_behindSum 91 = .ok (.if_icmp .le 9, 3) := by decide +kernel
theorem dX12_behindSum_94 : decode cX12_behindSum 94 = .ok (.aload_n 0, 1) := by decide +kernel
theorem dX12_behindSum_95 : decode cX12_behindSum 95 = .ok (.iload_n 3, 1) := by decide +kernel
theorem dX12_behindSum_96 : decode cX12_behindSum 96 = .ok (.invokevirtual 295, 3) := by decide +kernel
theorem dX12_behindSum_99 : decode cX12_behindSum 99 = .ok (.ireturn, 1) := by decide +kernel
theorem dX12_behindSum_100 : decode cX12_behindSum 100 = .ok (.iload_n 3, 1) := by decide +kernel
theorem dX12_behindSum_101 : decode cX12_behindSum 101 = .ok (.iconst (-1), 1) := by decide +kernel
theorem dX12_behindSum_102 : decode cX12_behindSum 102 = .ok (.if_icmp .ne 9, 3) := by decide +kernel
theorem dX12_behindSum_105 : decode cX12_behindSum 105 = .ok (.iload_n 1, 1) := by decide +kernel
theorem dX12_behindSum_106 : decode cX12_behindSum 106 = .ok (.ifCond .ne 5, 3) := by decide +kernel
theorem dX12_behindSum_109 : decode cX12_behindSum 109 = .ok (.iconst 4, 1) := by decide +kernel
theorem dX12_behindSum_110 : decode cX12_behindSum 110 = .ok (.ireturn, 1) := by decide +kernel
theorem dX12_behindSum_111 : decode cX12_behindSum 111 = .ok (.aload_n 0, 1) := by decide +kernel
theorem dX12_behindSum_112 : decode cX12_behindSum 112 = .ok (.invokevirtual 298, 3) := by decide +kernel
theorem dX12_behindSum_115 : decode cX12_behindSum 115 = .ok (.ifCond .eq 5, 3) := by decide +kernel
theorem dX12_behindSum_118 : decode cX12_behindSum 118 = .ok (.iconst 2, 1) := by decide +kernel
theorem dX12_behindSum_119 : decode cX12_behindSum 119 = .ok (.ireturn, 1) := by decide +kernel
theorem dX12_behindSum_120 : decode cX12_behindSum 120 = .ok (.aload_n 0, 1) := by decide +kernel
theorem dX12_behindSum_121 : decode cX12_behindSum 121 = .ok (.bipush 60, 2) := by decide +kernel
theorem dX12_behindSum_123 : decode cX12_behindSum 123 = .ok (.invokevirtual 265, 3) := by decide +kernel
theorem dX12_behindSum_126 : decode cX12_behindSum 126 = .ok (.ifCond .eq 8, 3) := by decide +kernel
theorem dX12_behindSum_129 : decode cX12_behindSum 129 = .ok (.bipush 12, 2) := by decide +kernel
theorem dX12_behindSum_131 : decode cX12_behindSum 131 = .ok (.goto 19, 3) := by decide +kernel
theorem dX12_behindSum_134 : decode cX12_behindSum 134 = .ok (.aload_n 0, 1) := by decide +kernel
theorem dX12_behindSum_135 : decode cX12_behindSum 135 = .ok (.bipush 62, 2) := by decide +kernel
theorem dX12_behindSum_137 : decode cX12_behindSum 137 = .ok (.invokevirtual 265, 3) := by decide +kernel
theorem dX12_behindSum_140 : decode cX12_behindSum 140 = .ok (.ifCond .eq 8, 3) := by decide +kernel
theorem dX12_behindSum_143 : decode cX12_behindSum 143 = .ok (.bipush 13, 2) := by decide +kernel
theorem dX12_behindSum_145 : decode cX12_behindSum 145 = .ok (.goto 5, 3) := by decide +kernel
theorem dX12_behindSum_148 : decode cX12_behindSum 148 = .ok (.bipush 14, 2) := by decide +kernel
theorem dX12_behindSum_150 : decode cX12_behindSum 150 = .ok (.istore_n 2, 1) := by decide +kernel
theorem dX12_behindSum_151 : decode cX12_behindSum 151 = .ok (.aload_n 0, 1) := by decide +kernel
theorem dX12_behindSum_152 : decode cX12_behindSum 152 = .ok (.iload_n 2, 1) := by decide +kernel
theorem dX12_behindSum_153 : decode cX12_behindSum 153 = .ok (.bipush 14, 2) := by decide +kernel
theorem dX12_behindSum_155 : decode cX12_behindSum 155 = .ok (.if_icmp .ne 12, 3) := by decide +kernel
theorem dX12_behindSum_158 : decode cX12_behindSum 158 = .ok (.aload_n 0, 1) := by decide +kernel
theorem dX12_behindSum_159 : decode cX12_behindSum 159 = .ok (.bipush 61, 2) := by decide +kernel
theorem dX12_behindSum_161 : decode cX12_behindSum 161 = .ok (.invokevirtual 265, 3) := by decide +kernel
theorem dX12_behindSum_164 : decode cX12_behindSum 164 = .ok (.ifCond .eq 7, 3) := by decide +kernel
theorem dX12_behindSum_167 : decode cX12_behindSum 167 = .ok (.iconst 1, 1) := by decide +kernel
theorem dX12_behindSum_168 : decode cX12_behindSum 168 = .ok (.goto 4, 3) := by decide +kernel
theorem dX12_behindSum_171 : decode cX12_behindSum 171 = .ok (.iconst 0, 1) := by decide +kernel
theorem dX12_behindSum_172 : decode cX12_behindSum 172 = .ok (.invokevirtual 216, 3) := by decide +kernel
theorem dX12_behindSum_175 : decode cX12_behindSum 175 = .ok (.aload_n 0, 1) := by decide +kernel
theorem dX12_behindSum_176 : decode cX12_behindSum 176 = .ok (.getfield 180, 3) := by decide +kernel
theorem dX12_behindSum_179 : decode cX12_behindSum 179 = .ok (.ifCond .ne 14, 3) := by decide +kernel
theorem dX12_behindSum_182 : decode cX12_behindSum 182 = .ok (.aload_n 0, 1) := by decide +kernel
theorem dX12_behindSum_183 : decode cX12_behindSum 183 = .ok (.iconst 5, 1) := by decide +kernel
theorem dX12_behindSum_184 : decode cX12_behindSum 184 = .ok (.invokevirtual 289, 3) := by decide +kernel
theorem dX12_behindSum_187 : decode cX12_behindSum 187 = .ok (.aload_n 0, 1) := by decide +kernel
theorem dX12_behindSum_188 : decode cX12_behindSum 188 = .ok (.iload_n 2, 1) := by decide +kernel
theorem dX12_behindSum_189 : decode cX12_behindSum 189 = .ok (.iconst 0, 1) := by decide +kernel
theorem dX12_behindSum_190 : decode cX12_behindSum 190 = .ok (.invokevirtual 262, 3) := by decide +kernel
theorem dX12_behindSum_193 : decode cX12_behindSum 193 = .ok (.iconst 1, 1) := by decide +kernel
theorem dX12_behindSum_194 : decode cX12_behindSum 194 = .ok (.ireturn, 1) := by decide +kernel
theorem dX12_behindTest_0 : decode cX12_behindTest 0 = .ok (.aload_n 0, 1) := by decide +kernel
theorem dX12_behindTest_1 : decode cX12_behindTest 1 = .ok (.ldc2_w 302, 3) := by decide +kernel
theorem dX12_behindTest_4 : decode cX12_behindTest 4 = .ok (.invokevirtual 243, 3) := by decide +kernel
theorem dX12_behindTest_7 : decode cX12_behindTest 7 = .ok (.istore_n 1, 1) := by decide +kernel
theorem dX12_behindTest_8 : decode cX12_behindTest 8 = .ok (.iload_n 1, 1) := by decide +kernel
theorem dX12_behindTest_9 : decode cX12_behindTest 9 = .ok (.ifCond .ne 13, 3) := by decide +kernel
theorem dX12_behindTest_12 : decode cX12_behindTest 12 = .ok (.aload_n 0, 1) := by decide +kernel
theorem dX12_behindTest_13 : decode cX12_behindTest 13 = .ok (.ldc2_w 304, 3) := by decide +kernel
theorem dX12_behindTest_16 : decode cX12_behindTest 16 = .ok (.invokevirtual 243, 3) := by decide +kernel
theorem dX12_behindTest_19 : decode cX12_behindTest 19 = .ok (.ifCond .eq 57, 3) := by decide +kernel
theorem dX12_behindTest_22 : decode cX12_behindTest 22 = .ok (.aload_n 0, 1) := by decide +kernel
theorem dX12_behindTest_23 : decode cX12_behindTest 23 = .ok (.iload_n 1, 1) := by decide +kernel
theorem dX12_behindTest_24 : decode cX12_behindTest 24 = .ok (.ifCond .eq 7, 3) := by decide +kernel
theorem dX12_behindTest_27 : decode cX12_behindTest 27 = .ok (.iconst 2, 1) := by decide +kernel
theorem dX12_behindTest_28 : decode cX12_behindTest 28 = .ok (.goto 4, 3) := by decide +kernel
theorem dX12_behindTest_31 : decode cX12_behindTest 31 = .ok (.iconst 1, 1) := by decide +kernel
theorem dX12_behindTest_32 : decode cX12_behindTest 32 = .ok (.invokevirtual 289, 3) := by decide +kernel
theorem dX12_behindTest_35 : decode cX12_behindTest 35 = .ok (.aload_n 0, 1) := by decide +kernel
theorem dX12_behindTest_36 : decode cX12_behindTest 36 = .ok (.iload_n 1, 1) := by decide +kernel
theorem dX12_behindTest_37 : decode cX12_behindTest 37 = .ok (.ifCond .eq 8, 3) := by decide +kernel
theorem dX12_behindTest_40 : decode cX12_behindTest 40 = .ok (.bipush 18, 2) := by decide +kernel
theorem dX12_behindTest_42 : decode cX12_behindTest 42 = .ok (.goto 5, 3) := by decide +kernel
theorem dX12_behindTest_45 : decode cX12_behindTest 45 = .ok (.bipush 19, 2) := by decide +kernel
theorem dX12_behindTest_47 : decode cX12_behindTest 47 = .ok (.aload_n 0, 1) := by decide +kernel
theorem dX12_behindTest_48 : decode cX12_behindTest 48 = .ok (.getfield 220, 3) := by decide +kernel
theorem dX12_behindTest_51 : decode cX12_behindTest 51 = .ok (.invokevirtual 262, 3) := by decide +kernel
theorem dX12_behindTest_54 : decode cX12_behindTest 54 = .ok (.aload_n 0, 1) := by decide +kernel
theorem dX12_behindTest_55 : decode cX12_behindTest 55 = .ok (.iload_n 1, 1) := by decide +kernel
theorem dX12_behindTest_56 : decode cX12_behindTest 56 = .ok (.ifCond .eq 8, 3) := by decide +kernel
theorem dX12_behindTest_59 : decode cX12_behindTest 59 = .ok (.bipush 18, 2) := by decide +kernel
theorem dX12_behindTest_61 : decode cX12_behindTest 61 = .ok (.goto 5, 3) := by decide +kernel
theorem dX12_behindTest_64 : decode cX12_behindTest 64 = .ok (.bipush 19, 2) := by decide +kernel
theorem dX12_behindTest_66 : decode cX12_behindTest 66 = .ok (.iconst 0, 1) := by decide +kernel
theorem dX12_behindTest_67 : decode cX12_behindTest 67 = .ok (.invokevirtual 229, 3) := by decide +kernel
theorem dX12_behindTest_70 : decode cX12_behindTest 70 = .ok (.aload_n 0, 1) := by decide +kernel
theorem dX12_behindTest_71 : decode cX12_behindTest 71 = .ok (.invokevirtual 184, 3) := by decide +kernel
theorem dX12_behindTest_74 : decode cX12_behindTest 74 = .ok (.iconst 0, 1) := by decide +kernel
theorem dX12_behindTest_75 : decode cX12_behindTest 75 = .ok (.ireturn, 1) := by decide +kernel
theorem dX12_behindTest_76 : decode cX12_behindTest 76 = .ok (.aload_n 0, 1) := by decide +kernel
theorem dX12_behindTest_77 : decode cX12_behindTest 77 = .ok (.invokevirtual 292, 3) := by decide +kernel
theorem dX12_behindTest_80 : decode cX12_behindTest 80 = .ok (.iconst (-1), 1) := by decide +kernel
theorem dX12_behindTest_81 : decode cX12_behindTest 81 = .ok (.if_icmp .ne 5, 3) := by decide +kernel
theorem dX12_behindTest_84 : decode cX12_behindTest 84 = .ok (.iconst 4, 1) := by decide +kernel
theorem dX12_behindTest_85 : decode cX12_behindTest 85 = .ok (.ireturn, 1) := by decide +kernel
theorem dX12_behindTest_86 : decode cX12_behindTest 86 = .ok (.aload_n 0, 1) := by decide +kernel
theorem dX12_behindTest_87 : decode cX12_behindTest 87 = .ok (.aload_n 0, 1) := by decide +kernel
theorem dX12_behindTest_88 : decode cX12_behindTest 88 = .ok (.bipush 41, 2) := by decide +kernel
theorem dX12_behindTest_90 : decode cX12_behindTest 90 = .ok (.invokevirtual 265, 3) := by decide +kernel
theorem dX12_behindTest_93 : decode cX12_behindTest 93 = .ok (.invokevirtual 216, 3) := by decide +kernel
theorem dX12_behindTest_96 : decode cX12_behindTest 96 = .ok (.aload_n 0, 1) := by decide +kernel
theorem dX12_behindTest_97 : decode cX12_behindTest 97 = .ok (.getfield 180, 3) := by decide +kernel
theorem dX12_behindTest_100 : decode cX12_behindTest 100 = .ok (.ifCond .ne 28, 3) := by decide +kernel
theorem dX12_behindTest_103 : decode cX12_behindTest 103 = .ok (.aload_n 0, 1) := by decide +kernel
theorem dX12_behindTest_104 : decode cX12_behindTest 104 = .ok (.iconst 1, 1) := by decide +kernel
theorem dX12_behindTest_105 : decode cX12_behindTest 105 = .ok (.invokevirtual 289, 3) := by decide +kernel
theorem dX12_behindTest_108 : decode cX12_behindTest 108 = .ok (.aload_n 0, 1) := by decide +kernel
theorem dX12_behindTest_109 : decode cX12_behindTest 109 = .ok (.dup, 1) := by decide +kernel
theorem dX12_behindTest_110 : decode cX12_behindTest 110 = .ok (.getfield 223, 3) := by decide +kernel
theorem dX12_behindTest_113 : decode cX12_behindTest 113 = .ok (.iconst 1, 1) := by decide +kernel
theorem dX12_behindTest_114 : decode cX12_behindTest 114 = .ok (.isub, 1) := by decide +kernel
theorem dX12_behindTest_115 : decode cX12_behindTest 115 = .ok (.putfield 223, 3) := by decide +kernel
theorem dX12_behindTest_118 : decode cX12_behindTest 118 = .ok (.aload_n 0, 1) := by decide +kernel
theorem dX12_behindTest_119 : decode cX12_behindTest 119 = .ok (.dup, 1) := by decide +kernel
theorem dX12_behindTest_120 : decode cX12_behindTest 120 = .ok (.getfield 259, 3) := by decide +kernel
theorem dX12_behindTest_123 : decode cX12_behindTest 123 = .ok (.iconst 1, 1) := by decide +kernel
theorem dX12_behindTest_124 : decode cX12_behindTest 124 = .ok (.isub, 1) := by decide +kernel
theorem dX12_behindTest_125 : decode cX12_behindTest 125 = .ok (.putfield 259, 3) := by decide +kernel
theorem dX12_behindTest_128 : decode cX12_behindTest 128 = .ok (.iconst 2, 1) := by decide +kernel
theorem dX12_behindTest_129 : decode cX12_behindTest 129 = .ok (.ireturn, 1) := by decide +kernel
theorem dX12_readExpression_0 : decode cX12_readExpression 0 = .ok (.aload_n 0, 1) := by decide +kernel
theorem dX12_readExpression_1 : decode cX12_readExpression 1 = .ok (.iconst 0, 1) := by decide +kernel
theorem dX12_readExpression_2 : decode cX12_readExpression 2 = .ok (.putfield 223, 3) := by decide +kernel
theorem dX12_readExpression_5 : decode cX12_readExpression 5 = .ok (.aload_n 0, 1) := by decide +kernel
theorem dX12_readExpression_6 : decode cX12_readExpression 6 = .ok (.iconst 0, 1) := by decide +kernel
theorem dX12_readExpression_7 : decode cX12_readExpression 7 = .ok (.putfield 259, 3) := by decide +kernel
theorem dX12_readExpression_10 : decode cX12_readExpression 10 = .ok (.iload_n 1, 1) := by decide +kernel
theorem dX12_readExpression_11 : decode cX12_readExpression 11 = .ok (.ifCond .eq 7, 3) := by decide +kernel
theorem dX12_readExpression_14 : decode cX12_readExpression 14 = .ok (.iconst 0, 1) := by decide +kernel
theorem dX12_readExpression_15 : decode cX12_readExpression 15 = .ok (.goto 4, 3) := by decide +kernel
theorem dX12_readExpression_18 : decode cX12_readExpression 18 = .ok (.iconst 1, 1) := by decide +kernel
theorem dX12_readExpression_19 : decode cX12_readExpression 19 = .ok (.istore_n 2, 1) := by decide +kernel
theorem dX12_readExpression_20 : decode cX12_readExpression 20 = .ok (.aload_n 0, 1) := by decide +kernel
theorem dX12_readExpression_21 : decode cX12_readExpression 21 = .ok (.getfield 180, 3) := by decide +kernel
theorem dX12_readExpression_24 : decode cX12_readExpression 24 = .ok (.ifCond .ne 52, 3) := by decide +kernel
theorem dX12_readExpression_27 : decode cX12_readExpression 27 = .ok (.iload_n 2, 1) := by decide +kernel
theorem dX12_readExpression_28 : decode cX12_readExpression 28 = .ok (.iconst 4, 1) := by decide +kernel
theorem dX12_readExpression_29 : decode cX12_readExpression 29 = .ok (.if_icmp .eq 47, 3) := by decide +kernel
theorem dX12_readExpression_32 : decode cX12_readExpression 32 = .ok (.iload_n 2, 1) := by decide +kernel
theorem dX12_readExpression_33 : decode cX12_readExpression 33 = .ok (.ifCond .ne 10, 3) := by decide +kernel
theorem dX12_readExpression_36 : decode cX12_readExpression 36 = .ok (.aload_n 0, 1) := by decide +kernel
theorem dX12_readExpression_37 : decode cX12_readExpression 37 = .ok (.invokevirtual 306, 3) := by decide +kernel
theorem dX12_readExpression_40 : decode cX12_readExpression 40 = .ok (.goto 32, 3) := by decide +kernel
theorem dX12_readExpression_43 : decode cX12_readExpression 43 = .ok (.iload_n 2, 1) := by decide +kernel
theorem dX12_readExpression_44 : decode cX12_readExpression 44 = .ok (.iconst 1, 1) := by decide +kernel
theorem dX12_readExpression_45 : decode cX12_readExpression 45 = .ok (.if_icmp .ne 10, 3) := by decide +kernel
theorem dX12_readExpression_48 : decode cX12_readExpression 48 = .ok (.aload_n 0, 1) := by decide +kernel
theorem dX12_readExpression_49 : decode cX12_readExpression 49 = .ok (.invokevirtual 286, 3) := by decide +kernel
theorem dX12_readExpression_52 : decode cX12_readExpression 52 = .ok (.goto 20, 3) := by decide +kernel
theorem dX12_readExpression_55 : decode cX12_readExpression 55 = .ok (.iload_n 2, 1) := by decide +kernel
theorem dX12_readExpression_56 : decode cX12_readExpression 56 = .ok (.iconst 3, 1) := by decide +kernel
theorem dX12_readExpression_57 : decode cX12_readExpression 57 = .ok (.if_icmp .ne 11, 3) := by decide +kernel
theorem dX12_readExpression_60 : decode cX12_readExpression 60 = .ok (.aload_n 0, 1) := by decide +kernel
theorem dX12_readExpression_61 : decode cX12_readExpression 61 = .ok (.iload_n 1, 1) := by decide +kernel
theorem dX12_readExpression_62 : decode cX12_readExpression 62 = .ok (.invokevirtual 309, 3) := by decide +kernel
theorem dX12_readExpression_65 : decode cX12_readExpression 65 = .ok (.goto 7, 3) := by decide +kernel
theorem dX12_readExpression_68 : decode cX12_readExpression 68 = .ok (.aload_n 0, 1) := by decide +kernel
theorem dX12_readExpression_69 : decode cX12_readExpression 69 = .ok (.invokevirtual 313, 3) := by decide +kernel
theorem dX12_readExpression_72 : decode cX12_readExpression 72 = .ok (.istore_n 2, 1) := by decide +kernel
theorem dX12_readExpression_73 : decode cX12_readExpression 73 = .ok (.goto (-53), 3) := by decide +kernel
theorem dX12_readExpression_76 : decode cX12_readExpression 76 = .ok (.aload_n 0, 1) := by decide +kernel
theorem dX12_readExpression_77 : decode cX12_readExpression 77 = .ok (.iconst 1, 1) := by decide +kernel
theorem dX12_readExpression_78 : decode cX12_readExpression 78 = .ok (.invokevirtual 289, 3) := by decide +kernel
theorem dX12_readExpression_81 : decode cX12_readExpression 81 = .ok (.return_, 1) := by decide +kernel
theorem dX12_kindAt_0 : decode cX12_kindAt 0 = .ok (.aload_n 0, 1) := by decide +kernel
theorem dX12_kindAt_1 : decode cX12_kindAt 1 = .ok (.ldc2_w 316, 3) := by decide +kernel
theorem dX12_kindAt_4 : decode cX12_kindAt 4 = .ok (.invokevirtual 243, 3) := by decide +kernel
theorem dX12_kindAt_7 : decode cX12_kindAt 7 = .ok (.ifCond .eq 7, 3) := by decide +kernel
theorem dX12_kindAt_10 : decode cX12_kindAt 10 = .ok (.iconst 0, 1) := by decide +kernel
theorem dX12_kindAt_11 : decode cX12_kindAt 11 = .ok (.goto 32, 3) := by decide +kernel
theorem dX12_kindAt_14 : decode cX12_kindAt 14 = .ok (.aload_n 0, 1) := by decide +kernel
theorem dX12_kindAt_15 : decode cX12_kindAt 15 = .ok (.ldc2_w 318, 3) := by decide +kernel
theorem dX12_kindAt_18 : decode cX12_kindAt 18 = .ok (.invokevirtual 243, 3) := by decide +kernel
theorem dX12_kindAt_21 : decode cX12_kindAt 21 = .ok (.ifCond .eq 7, 3) := by decide +kernel
theorem dX12_kindAt_24 : decode cX12_kindAt 24 = .ok (.iconst 1, 1) := by decide +kernel
theorem dX12_kindAt_25 : decode cX12_kindAt 25 = .ok (.goto 18, 3) := by decide +kernel
theorem dX12_kindAt_28 : decode cX12_kindAt 28 = .ok (.aload_n 0, 1) := by decide +kernel
theorem dX12_kindAt_29 : decode cX12_kindAt 29 = .ok (.ldc2_w 320, 3) := by decide +kernel
theorem dX12_kindAt_32 : decode cX12_kindAt 32 = .ok (.invokevirtual 243, 3) := by decide +kernel
theorem dX12_kindAt_35 : decode cX12_kindAt 35 = .ok (.ifCond .eq 7, 3) := by decide +kernel
theorem dX12_kindAt_38 : decode cX12_kindAt 38 = .ok (.iconst 2, 1) := by decide +kernel
theorem dX12_kindAt_39 : decode cX12_kindAt 39 = .ok (.goto 4, 3) := by decide +kernel
theorem dX12_kindAt_42 : decode cX12_kindAt 42 = .ok (.iconst (-1), 1) := by decide +kernel
theorem dX12_kindAt_43 : decode cX12_kindAt 43 = .ok (.ireturn, 1) := by decide +kernel
theorem dX12_stageAt_0 : decode cX12_stageAt 0 = .ok (.aload_n 0, 1) := by decide +kernel
theorem dX12_stageAt_1 : decode cX12_stageAt 1 = .ok (.ldc2_w 322, 3) := by decide +kernel
theorem dX12_stageAt_4 : decode cX12_stageAt 4 = .ok (.invokevirtual 243, 3) := by decide +kernel
theorem dX12_stageAt_7 : decode cX12_stageAt 7 = .ok (.ifCond .eq 7, 3) := by decide +kernel
theorem dX12_stageAt_10 : decode cX12_stageAt 10 = .ok (.iconst 0, 1) := by decide +kernel
theorem dX12_stageAt_11 : decode cX12_stageAt 11 = .ok (.goto 32, 3) := by decide +kernel
theorem dX12_stageAt_14 : decode cX12_stageAt 14 = .ok (.aload_n 0, 1) := by decide +kernel
theorem dX12_stageAt_15 : decode cX12_stageAt 15 = .ok (.ldc2_w 324, 3) := by decide +kernel
theorem dX12_stageAt_18 : decode cX12_stageAt 18 = .ok (.invokevirtual 243, 3) := by decide +kernel
theorem dX12_stageAt_21 : decode cX12_stageAt 21 = .ok (.ifCond .eq 7, 3) := by decide +kernel
theorem dX12_stageAt_24 : decode cX12_stageAt 24 = .ok (.iconst 1, 1) := by decide +kernel
theorem dX12_stageAt_25 : decode cX12_stageAt 25 = .ok (.goto 18, 3) := by decide +kernel
theorem dX12_stageAt_28 : decode cX12_stageAt 28 = .ok (.aload_n 0, 1) := by decide +kernel
theorem dX12_stageAt_29 : decode cX12_stageAt 29 = .ok (.ldc2_w 326, 3) := by decide +kernel
theorem dX12_stageAt_32 : decode cX12_stageAt 32 = .ok (.invokevirtual 243, 3) := by decide +kernel
theorem dX12_stageAt_35 : decode cX12_stageAt 35 = .ok (.ifCond .eq 7, 3) := by decide +kernel
theorem dX12_stageAt_38 : decode cX12_stageAt 38 = .ok (.iconst 2, 1) := by decide +kernel
theorem dX12_stageAt_39 : decode cX12_stageAt 39 = .ok (.goto 4, 3) := by decide +kernel
theorem dX12_stageAt_42 : decode cX12_stageAt 42 = .ok (.iconst (-1), 1) := by decide +kernel
theorem dX12_stageAt_43 : decode cX12_stageAt 43 = .ok (.ireturn, 1) := by decide +kernel
theorem dX12_materialAt_0 : decode cX12_materialAt 0 = .ok (.aload_n 0, 1) := by decide +kernel
theorem dX12_materialAt_1 : decode cX12_materialAt 1 = .ok (.ldc2_w 328, 3) := by decide +kernel
theorem dX12_materialAt_4 : decode cX12_materialAt 4 = .ok (.invokevirtual 243, 3) := by decide +kernel
theorem dX12_materialAt_7 : decode cX12_materialAt 7 = .ok (.ifCond .eq 7, 3) := by decide +kernel
theorem dX12_materialAt_10 : decode cX12_materialAt 10 = .ok (.iconst 0, 1) := by decide +kernel
theorem dX12_materialAt_11 : decode cX12_materialAt 11 = .ok (.goto 60, 3) := by decide +kernel
theorem dX12_materialAt_14 : decode cX12_materialAt 14 = .ok (.aload_n 0, 1) := by decide +kernel
theorem dX12_materialAt_15 : decode cX12_materialAt 15 = .ok (.ldc2_w 330, 3) := by decide +kernel
theorem dX12_materialAt_18 : decode cX12_materialAt 18 = .ok (.invokevirtual 243, 3) := by decide +kernel
theorem dX12_materialAt_21 : decode cX12_materialAt 21 = .ok (.ifCond .eq 7, 3) := by decide +kernel
theorem dX12_materialAt_24 : decode cX12_materialAt 24 = .ok (.iconst 1, 1) := by decide +kernel
theorem dX12_materialAt_25 : decode cX12_materialAt 25 = .ok (.goto 46, 3) := by decide +kernel
theorem dX12_materialAt_28 : decode cX12_materialAt 28 = .ok (.aload_n 0, 1) := by decide +kernel
theorem dX12_materialAt_29 : decode cX12_materialAt 29 = .ok (.ldc2_w 318, 3) := by decide +kernel
theorem dX12_materialAt_32 : decode cX12_materialAt 32 = .ok (.invokevirtual 243, 3) := by decide +kernel
theorem dX12_materialAt_35 : decode cX12_materialAt 35 = .ok (.ifCond .eq 7, 3) := by decide +kernel
theorem dX12_materialAt_38 : decode cX12_materialAt 38 = .ok (.iconst 2, 1) := by decide +kernel
theorem dX12_materialAt_39 : decode cX12_materialAt 39 = .ok (.goto 32, 3) := by decide +kernel
theorem dX12_materialAt_42 : decode cX12_materialAt 42 = .ok (.aload_n 0, 1) := by decide +kernel
theorem dX12_materialAt_43 : decode cX12_materialAt 43 = .ok (.ldc2_w 332, 3) := by decide +kernel
theorem dX12_materialAt_46 : decode cX12_materialAt 46 = .ok (.invokevirtual 243, 3) := by decide +kernel
theorem dX12_materialAt_49 : decode cX12_materialAt 49 = .ok (.ifCond .eq 7, 3) := by decide +kernel
theorem dX12_materialAt_52 : decode cX12_materialAt 52 = .ok (.iconst 3, 1) := by decide +kernel
theorem dX12_materialAt_53 : decode cX12_materialAt 53 = .ok (.goto 18, 3) := by decide +kernel
theorem dX12_materialAt_56 : decode cX12_materialAt 56 = .ok (.aload_n 0, 1) := by decide +kernel
theorem dX12_materialAt_57 : decode cX12_materialAt 57 = .ok (.ldc2_w 334, 3) := by decide +kernel
theorem dX12_materialAt_60 : decode cX12_materialAt 60 = .ok (.invokevirtual 243, 3) := by decide +kernel
theorem dX12_materialAt_63 : decode cX12_materialAt 63 = .ok (.ifCond .eq 7, 3) := by decide +kernel
theorem dX12_materialAt_66 : decode cX12_materialAt 66 = .ok (.iconst 4, 1) := by decide +kernel
theorem dX12_materialAt_67 : decode cX12_materialAt 67 = .ok (.goto 4, 3) := by decide +kernel
theorem dX12_materialAt_70 : decode cX12_materialAt 70 = .ok (.iconst (-1), 1) := by decide +kernel
theorem dX12_materialAt_71 : decode cX12_materialAt 71 = .ok (.ireturn, 1) := by decide +kernel
theorem dX12_headAt_0 : decode cX12_headAt 0 = .ok (.aload_n 0, 1) := by decide +kernel
theorem dX12_headAt_1 : decode cX12_headAt 1 = .ok (.ldc2_w 336, 3) := by decide +kernel
theorem dX12_headAt_4 : decode cX12_headAt 4 = .ok (.invokevirtual 243, 3) := by decide +kernel
theorem dX12_headAt_7 : decode cX12_headAt 7 = .ok (.ifCond .ne 33, 3) := by decide +kernel
theorem dX12_headAt_10 : decode cX12_headAt 10 = .ok (.aload_n 0, 1) := by decide +kernel
theorem dX12_headAt_11 : decode cX12_headAt 11 = .ok (.ldc2_w 338, 3) := by decide +kernel
theorem dX12_headAt_14 : decode cX12_headAt 14 = .ok (.invokevirtual 243, 3) := by decide +kernel
theorem dX12_headAt_17 : decode cX12_headAt 17 = .ok (.ifCond .ne 23, 3) := by decide +kernel
theorem dX12_headAt_20 : decode cX12_headAt 20 = .ok (.aload_n 0, 1) := by decide +kernel
theorem dX12_headAt_21 : decode cX12_headAt 21 = .ok (.ldc2_w 340, 3) := by decide +kernel
theorem dX12_headAt_24 : decode cX12_headAt 24 = .ok (.invokevirtual 243, 3) := by decide +kernel
theorem dX12_headAt_27 : decode cX12_headAt 27 = .ok (.ifCond .ne 13, 3) := by decide +kernel
theorem dX12_headAt_30 : decode cX12_headAt 30 = .ok (.aload_n 0, 1) := by decide +kernel
theorem dX12_headAt_31 : decode cX12_headAt 31 = .ok (.ldc2_w 342, 3) := by decide +kernel
theorem dX12_headAt_34 : decode cX12_headAt 34 = .ok (.invokevirtual 243, 3) := by decide +kernel
theorem dX12_headAt_37 : decode cX12_headAt 37 = .ok (.ifCond .eq 47, 3) := by decide +kernel
theorem dX12_headAt_40 : decode cX12_headAt 40 = .ok (.aload_n 0, 1) := by decide +kernel
theorem dX12_headAt_41 : decode cX12_headAt 41 = .ok (.ldc2_w 336, 3) := by decide +kernel
theorem dX12_headAt_44 : decode cX12_headAt 44 = .ok (.invokevirtual 243, 3) := by decide +kernel
theorem dX12_headAt_47 : decode cX12_headAt 47 = .ok (.ifCond .eq 7, 3) := by decide +kernel
theorem dX12_headAt_50 : decode cX12_headAt 50 = .ok (.iconst 0, 1) := by decide +kernel
theorem dX12_headAt_51 : decode cX12_headAt 51 = .ok (.goto 32, 3) := by decide +kernel
theorem dX12_headAt_54 : decode cX12_headAt 54 = .ok (.aload_n 0, 1) := by decide +kernel
theorem dX12_headAt_55 : decode cX12_headAt 55 = .ok (.ldc2_w 338, 3) := by decide +kernel
theorem dX12_headAt_58 : decode cX12_headAt 58 = .ok (.invokevirtual 243, 3) := by decide +kernel
theorem dX12_headAt_61 : decode cX12_headAt 61 = .ok (.ifCond .eq 7, 3) := by decide +kernel
theorem dX12_headAt_64 : decode cX12_headAt 64 = .ok (.iconst 1, 1) := by decide +kernel
theorem dX12_headAt_65 : decode cX12_headAt 65 = .ok (.goto 18, 3) := by decide +kernel
theorem dX12_headAt_68 : decode cX12_headAt 68 = .ok (.aload_n 0, 1) := by decide +kernel
theorem dX12_headAt_69 : decode cX12_headAt 69 = .ok (.ldc2_w 340, 3) := by decide +kernel
theorem dX12_headAt_72 : decode cX12_headAt 72 = .ok (.invokevirtual 243, 3) := by decide +kernel
theorem dX12_headAt_75 : decode cX12_headAt 75 = .ok (.ifCond .eq 7, 3) := by decide +kernel
theorem dX12_headAt_78 : decode cX12_headAt 78 = .ok (.iconst 2, 1) := by decide +kernel
theorem dX12_headAt_79 : decode cX12_headAt 79 = .ok (.goto 4, 3) := by decide +kernel
theorem dX12_headAt_82 : decode cX12_headAt 82 = .ok (.iconst 3, 1) := by decide +kernel
theorem dX12_headAt_83 : decode cX12_headAt 83 = .ok (.ireturn, 1) := by decide +kernel
theorem dX12_headAt_84 : decode cX12_headAt 84 = .ok (.aload_n 0, 1) := by decide +kernel
theorem dX12_headAt_85 : decode cX12_headAt 85 = .ok (.ldc2_w 344, 3) := by decide +kernel
theorem dX12_headAt_88 : decode cX12_headAt 88 = .ok (.invokevirtual 243, 3) := by decide +kernel
theorem dX12_headAt_91 : decode cX12_headAt 91 = .ok (.ifCond .ne 23, 3) := by decide +kernel
theorem dX12_headAt_94 : decode cX12_headAt 94 = .ok (.aload_n 0, 1) := by decide +kernel
theorem dX12_headAt_95 : decode cX12_headAt 95 = .ok (.ldc2_w 346, 3) := by decide +kernel
theorem dX12_headAt_98 : decode cX12_headAt 98 = .ok (.invokevirtual 243, 3) := by decide +kernel
theorem dX12_headAt_101 : decode cX12_headAt 101 = .ok (.ifCond .ne 13, 3) := by decide +kernel
theorem dX12_headAt_104 : decode cX12_headAt 104 = .ok (.aload_n 0, 1) := by decide +kernel
theorem dX12_headAt_105 : decode cX12_headAt 105 = .ok (.ldc2_w 348, 3) := by decide +kernel
theorem dX12_headAt_108 : decode cX12_headAt 108 = .ok (.invokevirtual 243, 3) := by decide +kernel
theorem dX12_headAt_111 : decode cX12_headAt 111 = .ok (.ifCond .eq 34, 3) := by decide +kernel
theorem dX12_headAt_114 : decode cX12_headAt 114 = .ok (.aload_n 0, 1) := by decide +kernel
theorem dX12_headAt_115 : decode cX12_headAt 115 = .ok (.ldc2_w 344, 3) := by decide +kernel
theorem dX12_headAt_118 : decode cX12_headAt 118 = .ok (.invokevirtual 243, 3) := by decide +kernel
theorem dX12_headAt_121 : decode cX12_headAt 121 = .ok (.ifCond .eq 7, 3) := by decide +kernel
theorem dX12_headAt_124 : decode cX12_headAt 124 = .ok (.iconst 4, 1) := by decide +kernel
theorem dX12_headAt_125 : decode cX12_headAt 125 = .ok (.goto 19, 3) := by decide +kernel
theorem dX12_headAt_128 : decode cX12_headAt 128 = .ok (.aload_n 0, 1) := by decide +kernel
theorem dX12_headAt_129 : decode cX12_headAt 129 = .ok (.ldc2_w 346, 3) := by decide +kernel
theorem dX12_headAt_132 : decode cX12_headAt 132 = .ok (.invokevirtual 243, 3) := by decide +kernel
theorem dX12_headAt_135 : decode cX12_headAt 135 = .ok (.ifCond .eq 7, 3) := by decide +kernel
theorem dX12_headAt_138 : decode cX12_headAt 138 = .ok (.iconst 5, 1) := by decide +kernel
theorem dX12_headAt_139 : decode cX12_headAt 139 = .ok (.goto 5, 3) := by decide +kernel
theorem dX12_headAt_142 : decode cX12_headAt 142 = .ok (.bipush 6, 2) := by decide +kernel
theorem dX12_headAt_144 : decode cX12_headAt 144 = .ok (.ireturn, 1) := by decide +kernel
theorem dX12_headAt_145 : decode cX12_headAt 145 = .ok (.aload_n 0, 1) := by decide +kernel
theorem dX12_headAt_146 : decode cX12_headAt 146 = .ok (.ldc2_w 350, 3) := by decide +kernel
theorem dX12_headAt_149 : decode cX12_headAt 149 = .ok (.invokevirtual 243, 3) := by decide +kernel
theorem dX12_headAt_152 : decode cX12_headAt 152 = .ok (.ifCond .eq 8, 3) := by decide +kernel
theorem dX12_headAt_155 : decode cX12_headAt 155 = .ok (.bipush 7, 2) := by decide +kernel
theorem dX12_headAt_157 : decode cX12_headAt 157 = .ok (.goto 19, 3) := by decide +kernel
theorem dX12_headAt_160 : decode cX12_headAt 160 = .ok (.aload_n 0, 1) := by decide +kernel
theorem dX12_headAt_161 : decode cX12_headAt 161 = .ok (.ldc2_w 352, 3) := by decide +kernel
theorem dX12_headAt_164 : decode cX12_headAt 164 = .ok (.invokevirtual 243, 3) := by decide +kernel
theorem dX12_headAt_167 : decode cX12_headAt 167 = .ok (.ifCond .eq 8, 3) := by decide +kernel
theorem dX12_headAt_170 : decode cX12_headAt 170 = .ok (.bipush 8, 2) := by decide +kernel
theorem dX12_headAt_172 : decode cX12_headAt 172 = .ok (.goto 4, 3) := by decide +kernel
theorem dX12_headAt_175 : decode cX12_headAt 175 = .ok (.iconst (-1), 1) := by decide +kernel
theorem dX12_headAt_176 : decode cX12_headAt 176 = .ok (.ireturn, 1) := by decide +kernel
theorem dX12_choice_0 : decode cX12_choice 0 = .ok (.aload_n 0, 1) := by decide +kernel
theorem dX12_choice_1 : decode cX12_choice 1 = .ok (.iload_n 1, 1) := by decide +kernel
theorem dX12_choice_2 : decode cX12_choice 2 = .ok (.iconst (-1), 1) := by decide +kernel
theorem dX12_choice_3 : decode cX12_choice 3 = .ok (.if_icmp .eq 7, 3) := by decide +kernel
theorem dX12_choice_6 : decode cX12_choice 6 = .ok (.iconst 1, 1) := by decide +kernel
theorem dX12_choice_7 : decode cX12_choice 7 = .ok (.goto 4, 3) := by decide +kernel
theorem dX12_choice_10 : decode cX12_choice 10 = .ok (.iconst 0, 1) := by decide +kernel
theorem dX12_choice_11 : decode cX12_choice 11 = .ok (.invokevirtual 216, 3) := by decide +kernel
theorem dX12_choice_14 : decode cX12_choice 14 = .ok (.iload_n 1, 1) := by decide +kernel
theorem dX12_choice_15 : decode cX12_choice 15 = .ok (.ireturn, 1) := by decide +kernel
theorem dX12_readClause_0 : decode cX12_readClause 0 = .ok (.aload_n 0, 1) := by decide +kernel
theorem dX12_readClause_1 : decode cX12_readClause 1 = .ok (.invokevirtual 354, 3) := by decide +kernel
theorem dX12_readClause_4 : decode cX12_readClause 4 = .ok (.istore_n 1, 1) := by decide +kernel
theorem dX12_readClause_5 : decode cX12_readClause 5 = .ok (.aload_n 0, 1) := by decide +kernel
theorem dX12_readClause_6 : decode cX12_readClause 6 = .ok (.iload_n 1, 1) := by decide +kernel
theorem dX12_readClause_7 : decode cX12_readClause 7 = .ok (.iconst (-1), 1) := by decide +kernel
theorem dX12_readClause_8 : decode cX12_readClause 8 = .ok (.if_icmp .eq 16, 3) := by decide +kernel
theorem dX12_readClause_11 : decode cX12_readClause 11 = .ok (.aload_n 0, 1) := by decide +kernel
theorem dX12_readClause_12 : decode cX12_readClause 12 = .ok (.getfield 357, 3) := by decide +kernel
theorem dX12_readClause_15 : decode cX12_readClause 15 = .ok (.bipush 16, 2) := by decide +kernel
theorem dX12_readClause_17 : decode cX12_readClause 17 = .ok (.if_icmp .ge 7, 3) := by decide +kernel
theorem dX12_readClause_20 : decode cX12_readClause 20 = .ok (.iconst 1, 1) := by decide +kernel
theorem dX12_readClause_21 : decode cX12_readClause 21 = .ok (.goto 4, 3) := by decide +kernel
theorem dX12_readClause_24 : decode cX12_readClause 24 = .ok (.iconst 0, 1) := by decide +kernel
theorem dX12_readClause_25 : decode cX12_readClause 25 = .ok (.invokevirtual 216, 3) := by decide +kernel
theorem dX12_readClause_28 : decode cX12_readClause 28 = .ok (.aload_n 0, 1) := by decide +kernel
theorem dX12_readClause_29 : decode cX12_readClause 29 = .ok (.getfield 180, 3) := by decide +kernel
theorem dX12_readClause_32 : decode cX12_readClause 32 = .ok (.ifCond .eq 4, 3) := by decide +kernel
theorem dX12_readClause_35 : decode cX12_readClause 35 = .ok (.return_, 1) := by decide +kernel
theorem dX12_readClause_36 : decode cX12_readClause 36 = .ok (.bipush 9, 2) := by decide +kernel
theorem dX12_readClause_38 : decode cX12_readClause 38 = .ok (.aload_n 0, 1) := by decide +kernel
theorem dX12_readClause_39 : decode cX12_readClause 39 = .ok (.getfield 357, 3) := by decide +kernel
theorem dX12_readClause_42 : decode cX12_readClause 42 = .ok (.imul, 1) := by decide +kernel
theorem dX12_readClause_43 : decode cX12_readClause 43 = .ok (.istore_n 2, 1) := by decide +kernel
theorem dX12_readClause_44 : decode cX12_readClause 44 = .ok (.iconst 0, 1) := by decide +kernel
theorem dX12_readClause_45 : decode cX12_readClause 45 = .ok (.istore_n 3, 1) := by decide +kernel
theorem dX12_readClause_46 : decode cX12_readClause 46 = .ok (.iload_n 3, 1) := by decide +kernel
theorem dX12_readClause_47 : decode cX12_readClause 47 = .ok (.bipush 9, 2) := by decide +kernel
theorem dX12_readClause_49 : decode cX12_readClause 49 = .ok (.if_icmp .ge 18, 3) := by decide +kernel
theorem dX12_readClause_52 : decode cX12_readClause 52 = .ok (.aload_n 0, 1) := by decide +kernel
theorem dX12_readClause_53 : decode cX12_readClause 53 = .ok (.getfield 29, 3) := by decide +kernel
theorem dX12_readClause_56 : decode cX12_readClause 56 = .ok (.iload_n 2, 1) := by decide +kernel
theorem dX12_readClause_57 : decode cX12_readClause 57 = .ok (.iload_n 3, 1) := by decide +kernel
theorem dX12_readClause_58 : decode cX12_readClause 58 = .ok (.iadd, 1) := by decide +kernel
theorem dX12_readClause_59 : decode cX12_readClause 59 = .ok (.iconst 0, 1) := by decide +kernel
theorem dX12_readClause_60 : decode cX12_readClause 60 = .ok (.iastore, 1) := by decide +kernel
theorem dX12_readClause_61 : decode cX12_readClause 61 = .ok (.iinc 3 1, 3) := by decide +kernel
theorem dX12_readClause_64 : decode cX12_readClause 64 = .ok (.goto (-18), 3) := by decide +kernel
theorem dX12_readClause_67 : decode cX12_readClause 67 = .ok (.aload_n 0, 1) := by decide +kernel
theorem dX12_readClause_68 : decode cX12_readClause 68 = .ok (.getfield 29, 3) := by decide +kernel
theorem dX12_readClause_71 : decode cX12_readClause 71 = .ok (.iload_n 2, 1) := by decide +kernel
theorem dX12_readClause_72 : decode cX12_readClause 72 = .ok (.iload_n 1, 1) := by decide +kernel
theorem dX12_readClause_73 : decode cX12_readClause 73 = .ok (.iastore, 1) := by decide +kernel
theorem dX12_readClause_74 : decode cX12_readClause 74 = .ok (.aload_n 0, 1) := by decide +kernel
theorem dX12_readClause_75 : decode cX12_readClause 75 = .ok (.dup, 1) := by decide +kernel
theorem dX12_readClause_76 : decode cX12_readClause 76 = .ok (.getfield 357, 3) := by decide +kernel
theorem dX12_readClause_79 : decode cX12_readClause 79 = .ok (.iconst 1, 1) := by decide +kernel
theorem dX12_readClause_80 : decode cX12_readClause 80 = .ok (.iadd, 1) := by decide +kernel
theorem dX12_readClause_81 : decode cX12_readClause 81 = .ok (.putfield 357, 3) := by decide +kernel
theorem dX12_readClause_84 : decode cX12_readClause 84 = .ok (.iload_n 1, 1) := by decide +kernel
theorem dX12_readClause_85 : decode cX12_readClause 85 = .ok (.ifCond .ne 45, 3) := by decide +kernel
theorem dX12_readClause_88 : decode cX12_readClause 88 = .ok (.aload_n 0, 1) := by decide +kernel
theorem dX12_readClause_89 : decode cX12_readClause 89 = .ok (.getfield 29, 3) := by decide +kernel
theorem dX12_readClause_92 : decode cX12_readClause 92 = .ok (.iload_n 2, 1) := by decide +kernel
theorem dX12_readClause_93 : decode cX12_readClause 93 = .ok (.iconst 1, 1) := by decide +kernel
theorem dX12_readClause_94 : decode cX12_readClause 94 = .ok (.iadd, 1) := by decide +kernel
theorem dX12_readClause_95 : decode cX12_readClause 95 = .ok (.aload_n 0, 1) := by decide +kernel
theorem dX12_readClause_96 : decode cX12_readClause 96 = .ok (.ldc2_w 360, 3) := by decide +kernel
theorem dX12_readClause_99 : decode cX12_readClause 99 = .ok (.invokevirtual 362, 3) := by decide +kernel
theorem dX12_readClause_102 : decode cX12_readClause 102 = .ok (.iastore, 1) := by decide +kernel
theorem dX12_readClause_103 : decode cX12_readClause 103 = .ok (.aload_n 0, 1) := by decide +kernel
theorem dX12_readClause_104 : decode cX12_readClause 104 = .ok (.aload_n 0, 1) := by decide +kernel
theorem dX12_readClause_105 : decode cX12_readClause 105 = .ok (.ldc2_w 366, 3) := by decide +kernel
theorem dX12_readClause_108 : decode cX12_readClause 108 = .ok (.invokevirtual 243, 3) := by decide +kernel
theorem dX12_readClause_111 : decode cX12_readClause 111 = .ok (.invokevirtual 216, 3) := by decide +kernel
theorem dX12_readClause_114 : decode cX12_readClause 114 = .ok (.aload_n 0, 1) := by decide +kernel
theorem dX12_readClause_115 : decode cX12_readClause 115 = .ok (.getfield 29, 3) := by decide +kernel
theorem dX12_readClause_118 : decode cX12_readClause 118 = .ok (.iload_n 2, 1) := by decide +kernel
theorem dX12_readClause_119 : decode cX12_readClause 119 = .ok (.iconst 2, 1) := by decide +kernel
theorem dX12_readClause_120 : decode cX12_readClause 120 = .ok (.iadd, 1) := by decide +kernel
theorem dX12_readClause_121 : decode cX12_readClause 121 = .ok (.aload_n 0, 1) := by decide +kernel
theorem dX12_readClause_122 : decode cX12_readClause 122 = .ok (.ldc2_w 368, 3) := by decide +kernel
theorem dX12_readClause_125 : decode cX12_readClause 125 = .ok (.invokevirtual 362, 3) := by decide +kernel
theorem dX12_readClause_128 : decode cX12_readClause 128 = .ok (.iastore, 1) := by decide +kernel
theorem dX12_readClause_129 : decode cX12_readClause 129 = .ok (.return_, 1) := by decide +kernel
theorem dX12_readClause_130 : decode cX12_readClause 130 = .ok (.iload_n 1, 1) := by decide +kernel
theorem dX12_readClause_131 : decode cX12_readClause 131 = .ok (.iconst 1, 1) := by decide +kernel
theorem dX12_readClause_132 : decode cX12_readClause 132 = .ok (.if_icmp .eq 19, 3) := by decide +kernel
theorem dX12_readClause_135 : decode cX12_readClause 135 = .ok (.iload_n 1, 1) := by decide +kernel
theorem dX12_readClause_136 : decode cX12_readClause 136 = .ok (.iconst 2, 1) := by decide +kernel
theorem dX12_readClause_137 : decode cX12_readClause 137 = .ok (.if_icmp .eq 14, 3) := by decide +kernel
theorem dX12_readClause_140 : decode cX12_readClause 140 = .ok (.iload_n 1, 1) := by decide +kernel
theorem dX12_readClause_141 : decode cX12_readClause 141 = .ok (.iconst 4, 1) := by decide +kernel
theorem dX12_readClause_142 : decode cX12_readClause 142 = .ok (.if_icmp .eq 9, 3) := by decide +kernel
theorem dX12_readClause_145 : decode cX12_readClause 145 = .ok (.iload_n 1, 1) := by decide +kernel
theorem dX12_readClause_146 : decode cX12_readClause 146 = .ok (.bipush 8, 2) := by decide +kernel
theorem dX12_readClause_148 : decode cX12_readClause 148 = .ok (.if_icmp .ne 7, 3) := by decide +kernel
theorem dX12_readClause_151 : decode cX12_readClause 151 = .ok (.iconst 1, 1) := by decide +kernel
theorem dX12_readClause_152 : decode cX12_readClause 152 = .ok (.goto 4, 3) := by decide +kernel
theorem dX12_readClause_155 : decode cX12_readClause 155 = .ok (.iconst 0, 1) := by decide +kernel
theorem dX12_readClause_156 : decode cX12_readClause 156 = .ok (.istore_n 3, 1) := by decide +kernel
theorem dX12_readClause_157 : decode cX12_readClause 157 = .ok (.aload_n 0, 1) := by decide +kernel
theorem dX12_readClause_158 : decode cX12_readClause 158 = .ok (.getfield 29, 3) := by decide +kernel
theorem dX12_readClause_161 : decode cX12_readClause 161 = .ok (.iload_n 2, 1) := by decide +kernel
theorem dX12_readClause_162 : decode cX12_readClause 162 = .ok (.iconst 1, 1) := by decide +kernel
theorem dX12_readClause_163 : decode cX12_readClause 163 = .ok (.iadd, 1) := by decide +kernel
theorem dX12_readClause_164 : decode cX12_readClause 164 = .ok (.iload_n 3, 1) := by decide +kernel
theorem dX12_readClause_165 : decode cX12_readClause 165 = .ok (.ifCond .eq 14, 3) := by decide +kernel
theorem dX12_readClause_168 : decode cX12_readClause 168 = .ok (.aload_n 0, 1) := by decide +kernel
theorem dX12_readClause_169 : decode cX12_readClause 169 = .ok (.aload_n 0, 1) := by decide +kernel
theorem dX12_readClause_170 : decode cX12_readClause 170 = .ok (.invokevirtual 370, 3) := by decide +kernel
theorem dX12_readClause_173 : decode cX12_readClause 173 = .ok (.invokevirtual 373, 3) := by decide +kernel
theorem dX12_readClause_176 : decode cX12_readClause 176 = .ok (.goto 4, 3) := by decide +kernel
theorem dX12_readClause_179 : decode cX12_readClause 179 = .ok (.iconst 0, 1) := by decide +kernel
theorem dX12_readClause_180 : decode cX12_readClause 180 = .ok (.iastore, 1) := by decide +kernel
theorem dX12_readClause_181 : decode cX12_readClause 181 = .ok (.aload_n 0, 1) := by decide +kernel
theorem dX12_readClause_182 : decode cX12_readClause 182 = .ok (.getfield 29, 3) := by decide +kernel
theorem dX12_readClause_185 : decode cX12_readClause 185 = .ok (.iload_n 2, 1) := by decide +kernel
theorem dX12_readClause_186 : decode cX12_readClause 186 = .ok (.iconst 2, 1) := by decide +kernel
theorem dX12_readClause_187 : decode cX12_readClause 187 = .ok (.iadd, 1) := by decide +kernel
theorem dX12_readClause_188 : decode cX12_readClause 188 = .ok (.iload_n 1, 1) := by decide +kernel
theorem dX12_readClause_189 : decode cX12_readClause 189 = .ok (.iconst 1, 1) := by decide +kernel
theorem dX12_readClause_190 : decode cX12_readClause 190 = .ok (.if_icmp .eq 8, 3) := by decide +kernel
theorem dX12_readClause_193 : decode cX12_readClause 193 = .ok (.iload_n 1, 1) := by decide +kernel
theorem dX12_readClause_194 : decode cX12_readClause 194 = .ok (.iconst 2, 1) := by decide +kernel
theorem dX12_readClause_195 : decode cX12_readClause 195 = .ok (.if_icmp .ne 14, 3) := by decide +kernel
theorem dX12_readClause_198 : decode cX12_readClause 198 = .ok (.aload_n 0, 1) := by decide +kernel
theorem dX12_readClause_199 : decode cX12_readClause 199 = .ok (.aload_n 0, 1) := by decide +kernel
theorem dX12_readClause_200 : decode cX12_readClause 200 = .ok (.invokevirtual 376, 3) := by decide +kernel
theorem dX12_readClause_203 : decode cX12_readClause 203 = .ok (.invokevirtual 373, 3) := by decide +kernel
theorem dX12_readClause_206 : decode cX12_readClause 206 = .ok (.goto 4, 3) := by decide +kernel
theorem dX12_readClause_209 : decode cX12_readClause 209 = .ok (.iconst 0, 1) := by decide +kernel
theorem dX12_readClause_210 : decode cX12_readClause 210 = .ok (.iastore, 1) := by decide +kernel
theorem dX12_readClause_211 : decode cX12_readClause 211 = .ok (.aload_n 0, 1) := by decide +kernel
theorem dX12_readClause_212 : decode cX12_readClause 212 = .ok (.getfield 29, 3) := by decide +kernel
theorem dX12_readClause_215 : decode cX12_readClause 215 = .ok (.iload_n 2, 1) := by decide +kernel
theorem dX12_readClause_216 : decode cX12_readClause 216 = .ok (.iconst 3, 1) := by decide +kernel
theorem dX12_readClause_217 : decode cX12_readClause 217 = .ok (.iadd, 1) := by decide +kernel
theorem dX12_readClause_218 : decode cX12_readClause 218 = .ok (.iload_n 1, 1) := by decide +kernel
theorem dX12_readClause_219 : decode cX12_readClause 219 = .ok (.iconst 1, 1) := by decide +kernel
theorem dX12_readClause_220 : decode cX12_readClause 220 = .ok (.if_icmp .ne 14, 3) := by decide +kernel
theorem dX12_readClause_223 : decode cX12_readClause 223 = .ok (.aload_n 0, 1) := by decide +kernel
theorem dX12_readClause_224 : decode cX12_readClause 224 = .ok (.aload_n 0, 1) := by decide +kernel
theorem dX12_readClause_225 : decode cX12_readClause 225 = .ok (.invokevirtual 379, 3) := by decide +kernel
theorem dX12_readClause_228 : decode cX12_readClause 228 = .ok (.invokevirtual 373, 3) := by decide +kernel
theorem dX12_readClause_231 : decode cX12_readClause 231 = .ok (.goto 4, 3) := by decide +kernel
theorem dX12_readClause_234 : decode cX12_readClause 234 = .ok (.iconst 0, 1) := by decide +kernel
theorem dX12_readClause_235 : decode cX12_readClause 235 = .ok (.iastore, 1) := by decide +kernel
theorem dX12_readClause_236 : decode cX12_readClause 236 = .ok (.aload_n 0, 1) := by decide +kernel
theorem dX12_readClause_237 : decode cX12_readClause 237 = .ok (.getfield 29, 3) := by decide +kernel
theorem dX12_readClause_240 : decode cX12_readClause 240 = .ok (.iload_n 2, 1) := by decide +kernel
theorem dX12_readClause_241 : decode cX12_readClause 241 = .ok (.iconst 4, 1) := by decide +kernel
theorem dX12_readClause_242 : decode cX12_readClause 242 = .ok (.iadd, 1) := by decide +kernel
theorem dX12_readClause_243 : decode cX12_readClause 243 = .ok (.aload_n 0, 1) := by decide +kernel
theorem dX12_readClause_244 : decode cX12_readClause 244 = .ok (.getfield 220, 3) := by decide +kernel
theorem dX12_readClause_247 : decode cX12_readClause 247 = .ok (.iastore, 1) := by decide +kernel
theorem dX12_readClause_248 : decode cX12_readClause 248 = .ok (.iload_n 1, 1) := by decide +kernel
theorem dX12_readClause_249 : decode cX12_readClause 249 = .ok (.bipush 8, 2) := by decide +kernel
theorem dX12_readClause_251 : decode cX12_readClause 251 = .ok (.if_icmp .eq 15, 3) := by decide +kernel
theorem dX12_readClause_254 : decode cX12_readClause 254 = .ok (.aload_n 0, 1) := by decide +kernel
theorem dX12_readClause_255 : decode cX12_readClause 255 = .ok (.getfield 180, 3) := by decide +kernel
theorem dX12_readClause_258 : decode cX12_readClause 258 = .ok (.ifCond .ne 8, 3) := by decide +kernel
theorem dX12_readClause_261 : decode cX12_readClause 261 = .ok (.aload_n 0, 1) := by decide +kernel
theorem dX12_readClause_262 : decode cX12_readClause 262 = .ok (.iconst 0, 1) := by decide +kernel
theorem dX12_readClause_263 : decode cX12_readClause 263 = .ok (.invokevirtual 382, 3) := by decide +kernel
theorem dX12_readClause_266 : decode cX12_readClause 266 = .ok (.aload_n 0, 1) := by decide +kernel
theorem dX12_readClause_267 : decode cX12_readClause 267 = .ok (.getfield 29, 3) := by decide +kernel
theorem dX12_readClause_270 : decode cX12_readClause 270 = .ok (.iload_n 2, 1) := by decide +kernel
theorem dX12_readClause_271 : decode cX12_readClause 271 = .ok (.iconst 5, 1) := by decide +kernel
theorem dX12_readClause_272 : decode cX12_readClause 272 = .ok (.iadd, 1) := by decide +kernel
theorem dX12_readClause_273 : decode cX12_readClause 273 = .ok (.aload_n 0, 1) := by decide +kernel
theorem dX12_readClause_274 : decode cX12_readClause 274 = .ok (.getfield 220, 3) := by decide +kernel
theorem dX12_readClause_277 : decode cX12_readClause 277 = .ok (.iastore, 1) := by decide +kernel
theorem dX12_readClause_278 : decode cX12_readClause 278 = .ok (.aload_n 0, 1) := by decide +kernel
theorem dX12_readClause_279 : decode cX12_readClause 279 = .ok (.getfield 29, 3) := by decide +kernel
theorem dX12_readClause_282 : decode cX12_readClause 282 = .ok (.iload_n 2, 1) := by decide +kernel
theorem dX12_readClause_283 : decode cX12_readClause 283 = .ok (.bipush 6, 2) := by decide +kernel
theorem dX12_readClause_285 : decode cX12_readClause 285 = .ok (.iadd, 1) := by decide +kernel
theorem dX12_readClause_286 : decode cX12_readClause 286 = .ok (.aload_n 0, 1) := by decide +kernel
theorem dX12_readClause_287 : decode cX12_readClause 287 = .ok (.getfield 220, 3) := by decide +kernel
theorem dX12_readClause_290 : decode cX12_readClause 290 = .ok (.iastore, 1) := by decide +kernel
theorem dX12_readClause_291 : decode cX12_readClause 291 = .ok (.aload_n 0, 1) := by decide +kernel
theorem dX12_readClause_292 : decode cX12_readClause 292 = .ok (.getfield 180, 3) := by decide +kernel
theorem dX12_readClause_295 : decode cX12_readClause 295 = .ok (.ifCond .ne 22, 3) := by decide +kernel
theorem dX12_readClause_298 : decode cX12_readClause 298 = .ok (.aload_n 0, 1) := by decide +kernel
theorem dX12_readClause_299 : decode cX12_readClause 299 = .ok (.ldc2_w 385, 3) := by decide +kernel
theorem dX12_readClause_302 : decode cX12_readClause 302 = .ok (.invokevirtual 243, 3) := by decide +kernel
theorem dX12_readClause_305 : decode cX12_readClause 305 = .ok (.ifCond .eq 12, 3) := by decide +kernel
theorem dX12_readClause_308 : decode cX12_readClause 308 = .ok (.aload_n 0, 1) := by decide +kernel
theorem dX12_readClause_309 : decode cX12_readClause 309 = .ok (.invokevirtual 184, 3) := by decide +kernel
theorem dX12_readClause_312 : decode cX12_readClause 312 = .ok (.aload_n 0, 1) := by decide +kernel
theorem dX12_readClause_313 : decode cX12_readClause 313 = .ok (.iconst 1, 1) := by decide +kernel
theorem dX12_readClause_314 : decode cX12_readClause 314 = .ok (.invokevirtual 382, 3) := by decide +kernel
theorem dX12_readClause_317 : decode cX12_readClause 317 = .ok (.aload_n 0, 1) := by decide +kernel
theorem dX12_readClause_318 : decode cX12_readClause 318 = .ok (.getfield 29, 3) := by decide +kernel
theorem dX12_readClause_321 : decode cX12_readClause 321 = .ok (.iload_n 2, 1) := by decide +kernel
theorem dX12_readClause_322 : decode cX12_readClause 322 = .ok (.bipush 7, 2) := by decide +kernel
theorem dX12_readClause_324 : decode cX12_readClause 324 = .ok (.iadd, 1) := by decide +kernel
theorem dX12_readClause_325 : decode cX12_readClause 325 = .ok (.aload_n 0, 1) := by decide +kernel
theorem dX12_readClause_326 : decode cX12_readClause 326 = .ok (.getfield 220, 3) := by decide +kernel
theorem dX12_readClause_329 : decode cX12_readClause 329 = .ok (.iastore, 1) := by decide +kernel
theorem dX12_readClause_330 : decode cX12_readClause 330 = .ok (.return_, 1) := by decide +kernel
theorem dX12_act_0 : decode cX12_act 0 = .ok (.aload_n 0, 1) := by decide +kernel
theorem dX12_act_1 : decode cX12_act 1 = .ok (.iconst 0, 1) := by decide +kernel
theorem dX12_act_2 : decode cX12_act 2 = .ok (.putfield 145, 3) := by decide +kernel
theorem dX12_act_5 : decode cX12_act 5 = .ok (.iload_n 1, 1) := by decide +kernel
theorem dX12_act_6 : decode cX12_act 6 = .ok (.invokestatic 387, 3) := by decide +kernel
theorem dX12_act_9 : decode cX12_act 9 = .ok (.ifCond .eq 14, 3) := by decide +kernel
theorem dX12_act_12 : decode cX12_act 12 = .ok (.iload_n 2, 1) := by decide +kernel
theorem dX12_act_13 : decode cX12_act 13 = .ok (.invokestatic 387, 3) := by decide +kernel
theorem dX12_act_16 : decode cX12_act 16 = .ok (.ifCond .eq 7, 3) := by decide +kernel
theorem dX12_act_19 : decode cX12_act 19 = .ok (.iconst 1, 1) := by decide +kernel
theorem dX12_act_20 : decode cX12_act 20 = .ok (.goto 4, 3) := by decide +kernel
theorem dX12_act_23 : decode cX12_act 23 = .ok (.iconst 0, 1) := by decide +kernel
theorem dX12_act_24 : decode cX12_act 24 = .ok (.istore_n 3, 1) := by decide +kernel
theorem dX12_act_25 : decode cX12_act 25 = .ok (.iload_n 3, 1) := by decide +kernel
theorem dX12_act_26 : decode cX12_act 26 = .ok (.ifCond .eq 14, 3) := by decide +kernel
theorem dX12_act_29 : decode cX12_act 29 = .ok (.aload_n 0, 1) := by decide +kernel
theorem dX12_act_30 : decode cX12_act 30 = .ok (.getfield 8, 3) := by decide +kernel
theorem dX12_act_33 : decode cX12_act 33 = .ok (.iconst 0, 1) := by decide +kernel
theorem dX12_act_34 : decode cX12_act 34 = .ok (.iaload, 1) := by decide +kernel
theorem dX12_act_35 : decode cX12_act 35 = .ok (.bipush 24, 2) := by decide +kernel
theorem dX12_act_37 : decode cX12_act 37 = .ok (.if_icmp .ne 23, 3) := by decide +kernel
theorem dX12_act_40 : decode cX12_act 40 = .ok (.aload_n 0, 1) := by decide +kernel
theorem dX12_act_41 : decode cX12_act 41 = .ok (.iconst 0, 1) := by decide +kernel
theorem dX12_act_42 : decode cX12_act 42 = .ok (.putfield 167, 3) := by decide +kernel
theorem dX12_act_45 : decode cX12_act 45 = .ok (.aload_n 0, 1) := by decide +kernel
theorem dX12_act_46 : decode cX12_act 46 = .ok (.iload_n 3, 1) := by decide +kernel
theorem dX12_act_47 : decode cX12_act 47 = .ok (.ifCond .eq 8, 3) := by decide +kernel
theorem dX12_act_50 : decode cX12_act 50 = .ok (.bipush (-5), 2) := by decide +kernel
theorem dX12_act_52 : decode cX12_act 52 = .ok (.goto 4, 3) := by decide +kernel
theorem dX12_act_55 : decode cX12_act 55 = .ok (.iconst (-1), 1) := by decide +kernel
theorem dX12_act_56 : decode cX12_act 56 = .ok (.invokevirtual 163, 3) := by decide +kernel
theorem dX12_act_59 : decode cX12_act 59 = .ok (.ireturn, 1) := by decide +kernel
theorem dX12_act_60 : decode cX12_act 60 = .ok (.aload_n 0, 1) := by decide +kernel
theorem dX12_act_61 : decode cX12_act 61 = .ok (.invokevirtual 390, 3) := by decide +kernel
theorem dX12_act_64 : decode cX12_act 64 = .ok (.aload_n 0, 1) := by decide +kernel
theorem dX12_act_65 : decode cX12_act 65 = .ok (.iconst 0, 1) := by decide +kernel
theorem dX12_act_66 : decode cX12_act 66 = .ok (.putfield 357, 3) := by decide +kernel
theorem dX12_act_69 : decode cX12_act 69 = .ok (.aload_n 0, 1) := by decide +kernel
theorem dX12_act_70 : decode cX12_act 70 = .ok (.iconst 0, 1) := by decide +kernel
theorem dX12_act_71 : decode cX12_act 71 = .ok (.putfield 220, 3) := by decide +kernel
theorem dX12_act_74 : decode cX12_act 74 = .ok (.aload_n 0, 1) := by decide +kernel
theorem dX12_act_75 : decode cX12_act 75 = .ok (.iconst 0, 1) := by decide +kernel
theorem dX12_act_76 : decode cX12_act 76 = .ok (.putfield 281, 3) := by decide +kernel
theorem dX12_act_79 : decode cX12_act 79 = .ok (.aload_n 0, 1) := by decide +kernel
theorem dX12_act_80 : decode cX12_act 80 = .ok (.invokevirtual 393, 3) := by decide +kernel
theorem dX12_act_83 : decode cX12_act 83 = .ok (.aload_n 0, 1) := by decide +kernel
theorem dX12_act_84 : decode cX12_act 84 = .ok (.getfield 180, 3) := by decide +kernel
theorem dX12_act_87 : decode cX12_act 87 = .ok (.ifCond .ne 23, 3) := by decide +kernel
theorem dX12_act_90 : decode cX12_act 90 = .ok (.aload_n 0, 1) := by decide +kernel
theorem dX12_act_91 : decode cX12_act 91 = .ok (.bipush 59, 2) := by decide +kernel
theorem dX12_act_93 : decode cX12_act 93 = .ok (.invokevirtual 265, 3) := by decide +kernel
theorem dX12_act_96 : decode cX12_act 96 = .ok (.ifCond .eq 14, 3) := by decide +kernel
theorem dX12_act_99 : decode cX12_act 99 = .ok (.aload_n 0, 1) := by decide +kernel
theorem dX12_act_100 : decode cX12_act 100 = .ok (.invokevirtual 184, 3) := by decide +kernel
theorem dX12_act_103 : decode cX12_act 103 = .ok (.aload_n 0, 1) := by decide +kernel
theorem dX12_act_104 : decode cX12_act 104 = .ok (.invokevirtual 393, 3) := by decide +kernel
theorem dX12_act_107 : decode cX12_act 107 = .ok (.goto (-24), 3) := by decide +kernel
theorem dX12_act_110 : decode cX12_act 110 = .ok (.aload_n 0, 1) := by decide +kernel
theorem dX12_act_111 : decode cX12_act 111 = .ok (.getfield 180, 3) := by decide +kernel
theorem dX12_act_114 : decode cX12_act 114 = .ok (.ifCond .ne 15, 3) := by decide +kernel
theorem dX12_act_117 : decode cX12_act 117 = .ok (.aload_n 0, 1) := by decide +kernel
theorem dX12_act_118 : decode cX12_act 118 = .ok (.getfield 201, 3) := by decide +kernel
theorem dX12_act_121 : decode cX12_act 121 = .ok (.ifCond .eq 8, 3) := by decide +kernel
theorem dX12_act_124 : decode cX12_act 124 = .ok (.aload_n 0, 1) := by decide +kernel
theorem dX12_act_125 : decode cX12_act 125 = .ok (.iconst 0, 1) := by decide +kernel
theorem dX12_act_126 : decode cX12_act 126 = .ok (.invokevirtual 216, 3) := by decide +kernel
theorem dX12_act_129 : decode cX12_act 129 = .ok (.aload_n 0, 1) := by decide +kernel
theorem dX12_act_130 : decode cX12_act 130 = .ok (.iconst 0, 1) := by decide +kernel
theorem dX12_act_131 : decode cX12_act 131 = .ok (.putfield 167, 3) := by decide +kernel
theorem dX12_act_134 : decode cX12_act 134 = .ok (.aload_n 0, 1) := by decide +kernel
theorem dX12_act_135 : decode cX12_act 135 = .ok (.getfield 180, 3) := by decide +kernel
theorem dX12_act_138 : decode cX12_act 138 = .ok (.ifCond .eq 10, 3) := by decide +kernel
theorem dX12_act_141 : decode cX12_act 141 = .ok (.aload_n 0, 1) := by decide +kernel
theorem dX12_act_142 : decode cX12_act 142 = .ok (.bipush (-6), 2) := by decide +kernel
theorem dX12_act_144 : decode cX12_act 144 = .ok (.invokevirtual 163, 3) := by decide +kernel
theorem dX12_act_147 : decode cX12_act 147 = .ok (.ireturn, 1) := by decide +kernel
theorem dX12_act_148 : decode cX12_act 148 = .ok (.aload_n 0, 1) := by decide +kernel
theorem dX12_act_149 : decode cX12_act 149 = .ok (.getfield 8, 3) := by decide +kernel
theorem dX12_act_152 : decode cX12_act 152 = .ok (.iconst 0, 1) := by decide +kernel
theorem dX12_act_153 : decode cX12_act 153 = .ok (.iaload, 1) := by decide +kernel
theorem dX12_act_154 : decode cX12_act 154 = .ok (.invokestatic 396, 3) := by decide +kernel
theorem dX12_act_157 : decode cX12_act 157 = .ok (.istore 4, 2) := by decide +kernel
theorem dX12_act_159 : decode cX12_act 159 = .ok (.aload_n 0, 1) := by decide +kernel
theorem dX12_act_160 : decode cX12_act 160 = .ok (.getfield 8, 3) := by decide +kernel
theorem dX12_act_163 : decode cX12_act 163 = .ok (.iload 4, 2) := by decide +kernel
theorem dX12_act_165 : decode cX12_act 165 = .ok (.iload_n 1, 1) := by decide +kernel
theorem dX12_act_166 : decode cX12_act 166 = .ok (.iastore, 1) := by decide +kernel
theorem dX12_act_167 : decode cX12_act 167 = .ok (.aload_n 0, 1) := by decide +kernel
theorem dX12_act_168 : decode cX12_act 168 = .ok (.getfield 8, 3) := by decide +kernel
theorem dX12_act_171 : decode cX12_act 171 = .ok (.iload 4, 2) := by decide +kernel
theorem dX12_act_173 : decode cX12_act 173 = .ok (.iconst 1, 1) := by decide +kernel
theorem dX12_act_174 : decode cX12_act 174 = .ok (.iadd, 1) := by decide +kernel
theorem dX12_act_175 : decode cX12_act 175 = .ok (.iload_n 2, 1) := by decide +kernel
theorem dX12_act_176 : decode cX12_act 176 = .ok (.iastore, 1) := by decide +kernel
theorem dX12_act_177 : decode cX12_act 177 = .ok (.aload_n 0, 1) := by decide +kernel
theorem dX12_act_178 : decode cX12_act 178 = .ok (.getfield 8, 3) := by decide +kernel
theorem dX12_act_181 : decode cX12_act 181 = .ok (.iload 4, 2) := by decide +kernel
theorem dX12_act_183 : decode cX12_act 183 = .ok (.iconst 2, 1) := by decide +kernel
theorem dX12_act_184 : decode cX12_act 184 = .ok (.iadd, 1) := by decide +kernel
theorem dX12_act_185 : decode cX12_act 185 = .ok (.aload_n 0, 1) := by decide +kernel
theorem dX12_act_186 : decode cX12_act 186 = .ok (.getfield 357, 3) := by decide +kernel
theorem dX12_act_189 : decode cX12_act 189 = .ok (.iastore, 1) := by decide +kernel
theorem dX12_act_190 : decode cX12_act 190 = .ok (.iconst 0, 1) := by decide +kernel
theorem dX12_act_191 : decode cX12_act 191 = .ok (.istore 5, 2) := by decide +kernel
theorem dX12_act_193 : decode cX12_act 193 = .ok (.iload 5, 2) := by decide +kernel
theorem dX12_act_195 : decode cX12_act 195 = .ok (.bipush 9, 2) := by decide +kernel
theorem dX12_act_197 : decode cX12_act 197 = .ok (.aload_n 0, 1) := by decide +kernel
theorem dX12_act_198 : decode cX12_act 198 = .ok (.getfield 357, 3) := by decide +kernel
theorem dX12_act_201 : decode cX12_act 201 = .ok (.imul, 1) := by decide +kernel
theorem dX12_act_202 : decode cX12_act 202 = .ok (.if_icmp .ge 28, 3) := by decide +kernel
theorem dX12_act_205 : decode cX12_act 205 = .ok (.aload_n 0, 1) := by decide +kernel
theorem dX12_act_206 : decode cX12_act 206 = .ok (.getfield 8, 3) := by decide +kernel
theorem dX12_act_209 : decode cX12_act 209 = .ok (.iload 4, 2) := by decide +kernel
theorem dX12_act_211 : decode cX12_act 211 = .ok (.iconst 3, 1) := by decide +kernel
theorem dX12_act_212 : decode cX12_act 212 = .ok (.iadd, 1) := by decide +kernel
theorem dX12_act_213 : decode cX12_act 213 = .ok (.iload 5, 2) := by decide +kernel
theorem dX12_act_215 : decode cX12_act 215 = .ok (.iadd, 1) := by decide +kernel
theorem dX12_act_216 : decode cX12_act 216 = .ok (.aload_n 0, 1) := by decide +kernel
theorem dX12_act_217 : decode cX12_act 217 = .ok (.getfield 29, 3) := by decide +kernel
theorem dX12_act_220 : decode cX12_act 220 = .ok (.iload 5, 2) := by decide +kernel
theorem dX12_act_222 : decode cX12_act 222 = .ok (.iaload, 1) := by decide +kernel
theorem dX12_act_223 : decode cX12_act 223 = .ok (.iastore, 1) := by decide +kernel
theorem dX12_act_224 : decode cX12_act 224 = .ok (.iinc 5 1, 3) := by decide +kernel
theorem dX12_act_227 : decode cX12_act 227 = .ok (.goto (-34), 3) := by decide +kernel
theorem dX12_act_230 : decode cX12_act 230 = .ok (.iconst 0, 1) := by decide +kernel
theorem dX12_act_231 : decode cX12_act 231 = .ok (.istore 5, 2) := by decide +kernel
theorem dX12_act_233 : decode cX12_act 233 = .ok (.iload 5, 2) := by decide +kernel
theorem dX12_act_235 : decode cX12_act 235 = .ok (.aload_n 0, 1) := by decide +kernel
theorem dX12_act_236 : decode cX12_act 236 = .ok (.getfield 220, 3) := by decide +kernel
theorem dX12_act_239 : decode cX12_act 239 = .ok (.if_icmp .ge 57, 3) := by decide +kernel
theorem dX12_act_242 : decode cX12_act 242 = .ok (.aload_n 0, 1) := by decide +kernel
theorem dX12_act_243 : decode cX12_act 243 = .ok (.getfield 8, 3) := by decide +kernel
theorem dX12_act_246 : decode cX12_act 246 = .ok (.iload 4, 2) := by decide +kernel
theorem dX12_act_248 : decode cX12_act 248 = .ok (.sipush 147, 3) := by decide +kernel
theorem dX12_act_251 : decode cX12_act 251 = .ok (.iadd, 1) := by decide +kernel
theorem dX12_act_252 : decode cX12_act 252 = .ok (.iconst 2, 1) := by decide +kernel
theorem dX12_act_253 : decode cX12_act 253 = .ok (.iload 5, 2) := by decide +kernel
theorem dX12_act_255 : decode cX12_act 255 = .ok (.imul, 1) := by decide +kernel
theorem dX12_act_256 : decode cX12_act 256 = .ok (.iadd, 1) := by decide +kernel
theorem dX12_act_257 : decode cX12_act 257 = .ok (.aload_n 0, 1) := by decide +kernel
theorem dX12_act_258 : decode cX12_act 258 = .ok (.getfield 32, 3) := by decide +kernel
theorem dX12_act_261 : decode cX12_act 261 = .ok (.iload 5, 2) := by decide +kernel
theorem dX12_act_263 : decode cX12_act 263 = .ok (.iaload, 1) := by decide +kernel
theorem dX12_act_264 : decode cX12_act 264 = .ok (.iastore, 1) := by decide +kernel
theorem dX12_act_265 : decode cX12_act 265 = .ok (.aload_n 0, 1) := by decide +kernel
theorem dX12_act_266 : decode cX12_act 266 = .ok (.getfield 8, 3) := by decide +kernel
theorem dX12_act_269 : decode cX12_act 269 = .ok (.iload 4, 2) := by decide +kernel
theorem dX12_act_271 : decode cX12_act 271 = .ok (.sipush 147, 3) := by decide +kernel
theorem dX12_act_274 : decode cX12_act 274 = .ok (.iadd, 1) := by decide +kernel
theorem dX12_act_275 : decode cX12_act 275 = .ok (.iconst 2, 1) := by decide +kernel
theorem dX12_act_276 : decode cX12_act 276 = .ok (.iload 5, 2) := by decide +kernel
theorem dX12_act_278 : decode cX12_act 278 = .ok (.imul, 1) := by decide +kernel
theorem dX12_act_279 : decode cX12_act 279 = .ok (.iadd, 1) := by decide +kernel
theorem dX12_act_280 : decode cX12_act 280 = .ok (.iconst 1, 1) := by decide +kernel
theorem dX12_act_281 : decode cX12_act 281 = .ok (.iadd, 1) := by decide +kernel
theorem dX12_act_282 : decode cX12_act 282 = .ok (.aload_n 0, 1) := by decide +kernel
theorem dX12_act_283 : decode cX12_act 283 = .ok (.getfield 35, 3) := by decide +kernel
theorem dX12_act_286 : decode cX12_act 286 = .ok (.iload 5, 2) := by decide +kernel
theorem dX12_act_288 : decode cX12_act 288 = .ok (.iaload, 1) := by decide +kernel
theorem dX12_act_289 : decode cX12_act 289 = .ok (.iastore, 1) := by decide +kernel
theorem dX12_act_290 : decode cX12_act 290 = .ok (.iinc 5 1, 3) := by decide +kernel
theorem dX12_act_293 : decode cX12_act 293 = .ok (.goto (-60), 3) := by decide +kernel
theorem dX12_act_296 : decode cX12_act 296 = .ok (.aload_n 0, 1) := by decide +kernel
theorem dX12_act_297 : decode cX12_act 297 = .ok (.getfield 8, 3) := by decide +kernel
theorem dX12_act_300 : decode cX12_act 300 = .ok (.iconst 0, 1) := by decide +kernel
theorem dX12_act_301 : decode cX12_act 301 = .ok (.dup2, 1) := by decide +kernel
theorem dX12_act_302 : decode cX12_act 302 = .ok (.iaload, 1) := by decide +kernel
theorem dX12_act_303 : decode cX12_act 303 = .ok (.iconst 1, 1) := by decide +kernel
theorem dX12_act_304 : decode cX12_act 304 = .ok (.iadd, 1) := by decide +kernel
theorem dX12_act_305 : decode cX12_act 305 = .ok (.iastore, 1) := by decide +kernel
theorem dX12_act_306 : decode cX12_act 306 = .ok (.aload_n 0, 1) := by decide +kernel
theorem dX12_act_307 : decode cX12_act 307 = .ok (.aload_n 0, 1) := by decide +kernel
theorem dX12_act_308 : decode cX12_act 308 = .ok (.getfield 8, 3) := by decide +kernel
theorem dX12_act_311 : decode cX12_act 311 = .ok (.iconst 0, 1) := by decide +kernel
theorem dX12_act_312 : decode cX12_act 312 = .ok (.iaload, 1) := by decide +kernel
theorem dX12_act_313 : decode cX12_act 313 = .ok (.iconst 1, 1) := by decide +kernel
theorem dX12_act_314 : decode cX12_act 314 = .ok (.isub, 1) := by decide +kernel
theorem dX12_act_315 : decode cX12_act 315 = .ok (.invokevirtual 163, 3) := by decide +kernel
theorem dX12_act_318 : decode cX12_act 318 = .ok (.ireturn, 1) := by decide +kernel
theorem dX12_actAt_0 : decode cX12_actAt 0 = .ok (.bipush 20, 2) := by decide +kernel
theorem dX12_actAt_2 : decode cX12_actAt 2 = .ok (.sipush 947, 3) := by decide +kernel
theorem dX12_actAt_5 : decode cX12_actAt 5 = .ok (.iload_n 0, 1) := by decide +kernel
theorem dX12_actAt_6 : decode cX12_actAt 6 = .ok (.imul, 1) := by decide +kernel
theorem dX12_actAt_7 : decode cX12_actAt 7 = .ok (.iadd, 1) := by decide +kernel
theorem dX12_actAt_8 : decode cX12_actAt 8 = .ok (.ireturn, 1) := by decide +kernel
theorem dX12_clauseAt_0 : decode cX12_clauseAt 0 = .ok (.iload_n 0, 1) := by decide +kernel
theorem dX12_clauseAt_1 : decode cX12_clauseAt 1 = .ok (.invokestatic 396, 3) := by decide +kernel
theorem dX12_clauseAt_4 : decode cX12_clauseAt 4 = .ok (.iconst 3, 1) := by decide +kernel
theorem dX12_clauseAt_5 : decode cX12_clauseAt 5 = .ok (.iadd, 1) := by decide +kernel
theorem dX12_clauseAt_6 : decode cX12_clauseAt 6 = .ok (.bipush 9, 2) := by decide +kernel
theorem dX12_clauseAt_8 : decode cX12_clauseAt 8 = .ok (.iload_n 1, 1) := by decide +kernel
theorem dX12_clauseAt_9 : decode cX12_clauseAt 9 = .ok (.imul, 1) := by decide +kernel
theorem dX12_clauseAt_10 : decode cX12_clauseAt 10 = .ok (.iadd, 1) := by decide +kernel
theorem dX12_clauseAt_11 : decode cX12_clauseAt 11 = .ok (.ireturn, 1) := by decide +kernel
def W_X12_readPart_55 (X : Sx) (l : Launch) (D : Nat) (y0 : Int32) (σ : AH) (r : Option Value) (σ' : AH) : Prop := ∃ d36 : Nat, ∃ σ37 : AH, d36 + 1 ≤ D ∧ Call X l m_X12_open d36 [.ref 124, .int y0] σ none σ37 ∧ ∃ d41 : Nat, ∃ v46 : Int32, ∃ σ42 : AH, d41 + 1 ≤ D ∧ Call X l m_X12_isSign d41 [.ref 124, .int (91 : Int32)] σ37 (some (.int v46)) σ42 ∧ ∃ d47 : Nat, ∃ σ48 : AH, d47 + 1 ≤ D ∧ Call X l m_X12_must d47 [.ref 124, .int v46] σ42 none σ48 ∧ (r = some (.int (1 : Int32)) ∧ σ' = σ48)
set_option maxRecDepth 100000 in
theorem w_X12_readPart_55 {X : Sx} {l : Launch} {D : Nat} {y0 : Int32} {σ : AH} {r : Option Value} {σ' : AH} (hs : Sh σ) (h : W_X12_readPart_55 X l D y0 σ r σ') : E X l m_X12_readPart D 55 [(0, .ref 124)] [.int y0, .ref 124] σ r σ' := by
  unfold W_X12_readPart_55 at h
  obtain ⟨d36, σ37, hD38, hC39, h⟩ := h
  have hs40 := hC39.1.2.2.2.1 hs
  refine E_callV (As := [.int y0]) (rest := []) (r1 := none) (b := 124) dX12_readPart_55 ok_X12_open in_X12_open se_X12_open ml_X12_268 hD38 rfl rfl (Nat.le_of_ble_eq_true rfl) (sk_124 hs) (sn hs (by decide)) (by decide) rfl (by decide +kernel) hC39 ?_
  refine E_aload_n 0 dX12_readPart_58 rfl rfl ?_
  refine E_aload_n 0 dX12_readPart_59 rfl rfl ?_
  refine E_bipush (91 : Int32) dX12_readPart_60 (by decide) ?_
  obtain ⟨d41, v46, σ42, hD43, hC44, h⟩ := h
  have hs45 := hC44.1.2.2.2.1 hs40
  refine E_callV (As := [.int (91 : Int32)]) (rest := [.ref 124]) (r1 := (some (.int v46))) (b := 124) dX12_readPart_62 ok_X12_isSign in_X12_isSign se_X12_isSign ml_X12_265 hD43 rfl rfl (Nat.le_of_ble_eq_true rfl) (sk_124 hs40) (sn hs40 (by decide)) (by decide) rfl (by decide +kernel) hC44 ?_
  obtain ⟨d47, σ48, hD49, hC50, h⟩ := h
  have hs51 := hC50.1.2.2.2.1 hs45
  refine E_callV (As := [.int v46]) (rest := []) (r1 := none) (b := 124) dX12_readPart_65 ok_X12_must in_X12_must se_X12_must ml_X12_216 hD49 rfl rfl (Nat.le_of_ble_eq_true rfl) (sk_124 hs45) (sn hs45 (by decide)) (by decide) rfl (by decide +kernel) hC50 ?_
  refine E_iconst (1 : Int32) dX12_readPart_68 (by decide) ?_
  obtain ⟨rfl, rfl⟩ := h
  exact E_iret dX12_readPart_69 rfl
def W_X12_readPart_37 (X : Sx) (l : Launch) (D : Nat) (σ : AH) (r : Option Value) (σ' : AH) : Prop := ∃ d30 : Nat, ∃ v35 : Int32, ∃ σ31 : AH, d30 + 1 ≤ D ∧ Call X l m_X12_isWord d30 [.ref 124, .long (12748404 : Int64)] σ (some (.int v35)) σ31 ∧ (if v35 = 0 then W_X12_readPart_55 X l D (33 : Int32) σ31 r σ' else W_X12_readPart_55 X l D (32 : Int32) σ31 r σ')
set_option maxRecDepth 100000 in
theorem w_X12_readPart_37 {X : Sx} {l : Launch} {D : Nat} {σ : AH} {r : Option Value} {σ' : AH} (hs : Sh σ) (h : W_X12_readPart_37 X l D σ r σ') : E X l m_X12_readPart D 37 [(0, .ref 124)] [] σ r σ' := by
  unfold W_X12_readPart_37 at h
  refine E_aload_n 0 dX12_readPart_37 rfl rfl ?_
  refine E_aload_n 0 dX12_readPart_38 rfl rfl ?_
  refine E_ldc2 (12748404 : Int64) dX12_readPart_39 cl_X12_271 ?_
  obtain ⟨d30, v35, σ31, hD32, hC33, h⟩ := h
  have hs34 := hC33.1.2.2.2.1 hs
  refine E_callV (As := [.long (12748404 : Int64)]) (rest := [.ref 124]) (r1 := (some (.int v35))) (b := 124) dX12_readPart_42 ok_X12_isWord in_X12_isWord se_X12_isWord ml_X12_243 hD32 rfl rfl (Nat.le_of_ble_eq_true rfl) (sk_124 hs) (sn hs (by decide)) (by decide) rfl (by decide +kernel) hC33 ?_
  refine E_if_eq 53 dX12_readPart_45 (by decide) (fun c => ?_) (fun c => ?_)
  · rw [if_pos c] at h
    refine E_bipush (33 : Int32) dX12_readPart_53 (by decide) ?_
    exact E_lv [0] rfl (w_X12_readPart_55 hs34 h)
  · rw [if_neg c] at h
    refine E_bipush (32 : Int32) dX12_readPart_48 (by decide) ?_
    refine E_goto 55 dX12_readPart_50 (by decide) ?_
    exact E_lv [0] rfl (w_X12_readPart_55 hs34 h)
def W_X12_readPart_159 (X : Sx) (l : Launch) (D : Nat) (x3 : Int32) (y0 : Int32) (σ : AH) (r : Option Value) (σ' : AH) : Prop := ∃ d57 : Nat, ∃ σ58 : AH, d57 + 1 ≤ D ∧ Call X l m_X12_emit d57 [.ref 124, .int y0, .int x3] σ none σ58 ∧ (r = some (.int (3 : Int32)) ∧ σ' = (sI σ58 124 18 ((gI σ58 124 18) + (1 : Int32))))
set_option maxRecDepth 100000 in
theorem w_X12_readPart_159 {X : Sx} {l : Launch} {D : Nat} {x3 : Int32} {y0 : Int32} {σ : AH} {r : Option Value} {σ' : AH} (hs : Sh σ) (h : W_X12_readPart_159 X l D x3 y0 σ r σ') : E X l m_X12_readPart D 159 [(0, .ref 124), (3, .int x3)] [.int y0, .ref 124] σ r σ' := by
  unfold W_X12_readPart_159 at h
  refine E_iload_n 1 dX12_readPart_159 rfl rfl ?_
  obtain ⟨d57, σ58, hD59, hC60, h⟩ := h
  have hs61 := hC60.1.2.2.2.1 hs
  refine E_callV (As := [.int y0, .int x3]) (rest := []) (r1 := none) (b := 124) dX12_readPart_160 ok_X12_emit in_X12_emit se_X12_emit ml_X12_229 hD59 rfl rfl (Nat.le_of_ble_eq_true rfl) (sk_124 hs) (sn hs (by decide)) (by decide) rfl (by decide +kernel) hC60 ?_
  refine E_aload_n 0 dX12_readPart_163 rfl rfl ?_
  refine E_dup dX12_readPart_164 rfl ?_
  refine E_getI dX12_readPart_165 fl_X12_281 rfl (sk_124 hs61) (sn hs61 (by decide)) ?_
  refine E_iconst (1 : Int32) dX12_readPart_168 (by decide) ?_
  refine E_iadd dX12_readPart_169 ?_
  refine E_putI dX12_readPart_170 fl_X12_281 rfl (Or.inl rfl) (sk_124 hs61) (sn hs61 (by decide)) (Or.inl (by decide)) rfl rfl ?_
  refine E_iconst (3 : Int32) dX12_readPart_173 (by decide) ?_
  obtain ⟨rfl, rfl⟩ := h
  exact E_iret dX12_readPart_174 rfl
def W_X12_readPart_138 (X : Sx) (l : Launch) (D : Nat) (x1 : Int32) (x3 : Int32) (y0 : Int32) (σ : AH) (r : Option Value) (σ' : AH) : Prop := ∃ d52 : Nat, ∃ σ53 : AH, d52 + 1 ≤ D ∧ Call X l m_X12_must d52 [.ref 124, .int y0] σ none σ53 ∧ (if (gI σ53 124 12) = 0 then (if x1 = (-1 : Int32) then W_X12_readPart_159 X l D x3 (0 : Int32) σ53 r σ' else W_X12_readPart_159 X l D x3 x1 σ53 r σ') else (r = some (.int (3 : Int32)) ∧ σ' = σ53))
set_option maxRecDepth 100000 in
theorem w_X12_readPart_138 {X : Sx} {l : Launch} {D : Nat} {x1 : Int32} {x3 : Int32} {y0 : Int32} {σ : AH} {r : Option Value} {σ' : AH} (hs : Sh σ) (h : W_X12_readPart_138 X l D x1 x3 y0 σ r σ') : E X l m_X12_readPart D 138 [(0, .ref 124), (1, .int x1), (3, .int x3)] [.int y0, .ref 124] σ r σ' := by
  unfold W_X12_readPart_138 at h
  obtain ⟨d52, σ53, hD54, hC55, h⟩ := h
  have hs56 := hC55.1.2.2.2.1 hs
  refine E_callV (As := [.int y0]) (rest := []) (r1 := none) (b := 124) dX12_readPart_138 ok_X12_must in_X12_must se_X12_must ml_X12_216 hD54 rfl rfl (Nat.le_of_ble_eq_true rfl) (sk_124 hs) (sn hs (by decide)) (by decide) rfl (by decide +kernel) hC55 ?_
  refine E_aload_n 0 dX12_readPart_141 rfl rfl ?_
  refine E_getI dX12_readPart_142 fl_X12_180 rfl (sk_124 hs56) (sn hs56 (by decide)) ?_
  refine E_if_ne 173 dX12_readPart_145 (by decide) (fun c => ?_) (fun c => ?_)
  · rw [if_neg c] at h
    refine E_iconst (3 : Int32) dX12_readPart_173 (by decide) ?_
    obtain ⟨rfl, rfl⟩ := h
    exact E_iret dX12_readPart_174 rfl
  · rw [if_pos c] at h
    refine E_aload_n 0 dX12_readPart_148 rfl rfl ?_
    refine E_iload_n 1 dX12_readPart_149 rfl rfl ?_
    refine E_iconst (-1 : Int32) dX12_readPart_150 (by decide) ?_
    refine E_icmp_ne 158 dX12_readPart_151 (by decide) (fun c => ?_) (fun c => ?_)
    · rw [if_neg c] at h
      refine E_iload_n 1 dX12_readPart_158 rfl rfl ?_
      exact E_lv [0, 2] rfl (w_X12_readPart_159 hs56 h)
    · rw [if_pos c] at h
      refine E_iconst (0 : Int32) dX12_readPart_154 (by decide) ?_
      refine E_goto 159 dX12_readPart_155 (by decide) ?_
      exact E_lv [0, 2] rfl (w_X12_readPart_159 hs56 h)
def W_X12_readPart_137 (X : Sx) (l : Launch) (D : Nat) (x1 : Int32) (x3 : Int32) (σ : AH) (r : Option Value) (σ' : AH) : Prop := W_X12_readPart_138 X l D x1 x3 (0 : Int32) σ r σ'
set_option maxRecDepth 100000 in
theorem w_X12_readPart_137 {X : Sx} {l : Launch} {D : Nat} {x1 : Int32} {x3 : Int32} {σ : AH} {r : Option Value} {σ' : AH} (hs : Sh σ) (h : W_X12_readPart_137 X l D x1 x3 σ r σ') : E X l m_X12_readPart D 137 [(0, .ref 124), (1, .int x1), (3, .int x3)] [.ref 124] σ r σ' := by
  unfold W_X12_readPart_137 at h
  refine E_iconst (0 : Int32) dX12_readPart_137 (by decide) ?_
  exact E_lv [0, 1, 2] rfl (w_X12_readPart_138 hs h)
def W_X12_readPart_124 (X : Sx) (l : Launch) (D : Nat) (x1 : Int32) (x3 : Int32) (σ : AH) (r : Option Value) (σ' : AH) : Prop := (if (60 : Int32) ≤ (gI σ 124 18) then W_X12_readPart_137 X l D x1 x3 σ r σ' else W_X12_readPart_138 X l D x1 x3 (1 : Int32) σ r σ')
set_option maxRecDepth 100000 in
theorem w_X12_readPart_124 {X : Sx} {l : Launch} {D : Nat} {x1 : Int32} {x3 : Int32} {σ : AH} {r : Option Value} {σ' : AH} (hs : Sh σ) (h : W_X12_readPart_124 X l D x1 x3 σ r σ') : E X l m_X12_readPart D 124 [(0, .ref 124), (1, .int x1), (3, .int x3)] [.ref 124] σ r σ' := by
  unfold W_X12_readPart_124 at h
  refine E_aload_n 0 dX12_readPart_124 rfl rfl ?_
  refine E_getI dX12_readPart_125 fl_X12_281 rfl (sk_124 hs) (sn hs (by decide)) ?_
  refine E_bipush (60 : Int32) dX12_readPart_128 (by decide) ?_
  refine E_icmp_ge 137 dX12_readPart_130 (by decide) (fun c => ?_) (fun c => ?_)
  · rw [if_pos c] at h
    exact E_lv [0, 1, 2] rfl (w_X12_readPart_137 hs h)
  · rw [if_neg c] at h
    refine E_iconst (1 : Int32) dX12_readPart_133 (by decide) ?_
    refine E_goto 138 dX12_readPart_134 (by decide) ?_
    exact E_lv [0, 1, 2] rfl (w_X12_readPart_138 hs h)
def W_X12_readPart_113 (X : Sx) (l : Launch) (D : Nat) (x1 : Int32) (x2 : Int32) (y0 : Int32) (σ : AH) (r : Option Value) (σ' : AH) : Prop := (if x1 = (-1 : Int32) then (if x2 = 0 then W_X12_readPart_137 X l D x1 y0 σ r σ' else W_X12_readPart_124 X l D x1 y0 σ r σ') else W_X12_readPart_124 X l D x1 y0 σ r σ')
set_option maxRecDepth 100000 in
theorem w_X12_readPart_113 {X : Sx} {l : Launch} {D : Nat} {x1 : Int32} {x2 : Int32} {y0 : Int32} {σ : AH} {r : Option Value} {σ' : AH} (hs : Sh σ) (h : W_X12_readPart_113 X l D x1 x2 y0 σ r σ') : E X l m_X12_readPart D 113 [(0, .ref 124), (1, .int x1), (2, .int x2)] [.int y0] σ r σ' := by
  unfold W_X12_readPart_113 at h
  refine E_istore_n [(3, .int y0), (0, .ref 124), (1, .int x1), (2, .int x2)] dX12_readPart_113 rfl (by decide) rfl ?_
  refine E_aload_n 1 dX12_readPart_114 rfl rfl ?_
  refine E_iload_n 2 dX12_readPart_115 rfl rfl ?_
  refine E_iconst (-1 : Int32) dX12_readPart_116 (by decide) ?_
  refine E_icmp_ne 124 dX12_readPart_117 (by decide) (fun c => ?_) (fun c => ?_)
  · rw [if_neg c] at h
    exact E_lv [1, 2, 0] rfl (w_X12_readPart_124 hs h)
  · rw [if_pos c] at h
    refine E_iload_n 3 dX12_readPart_120 rfl rfl ?_
    refine E_if_eq 137 dX12_readPart_121 (by decide) (fun c => ?_) (fun c => ?_)
    · rw [if_pos c] at h
      exact E_lv [1, 2, 0] rfl (w_X12_readPart_137 hs h)
    · rw [if_neg c] at h
      exact E_lv [1, 2, 0] rfl (w_X12_readPart_124 hs h)
def W_X12_readPart_99 (X : Sx) (l : Launch) (D : Nat) (x1 : Int32) (y0 : Int32) (σ : AH) (r : Option Value) (σ' : AH) : Prop := (if y0 = 0 then W_X12_readPart_113 X l D x1 y0 (0 : Int32) σ r σ' else W_X12_readPart_113 X l D x1 y0 (((gL σ 124 10)).toInt32) σ r σ')
set_option maxRecDepth 100000 in
theorem w_X12_readPart_99 {X : Sx} {l : Launch} {D : Nat} {x1 : Int32} {y0 : Int32} {σ : AH} {r : Option Value} {σ' : AH} (hs : Sh σ) (h : W_X12_readPart_99 X l D x1 y0 σ r σ') : E X l m_X12_readPart D 99 [(0, .ref 124), (1, .int x1)] [.int y0] σ r σ' := by
  unfold W_X12_readPart_99 at h
  refine E_istore_n [(2, .int y0), (0, .ref 124), (1, .int x1)] dX12_readPart_99 rfl (by decide) rfl ?_
  refine E_iload_n 0 dX12_readPart_100 rfl rfl ?_
  refine E_if_eq 112 dX12_readPart_101 (by decide) (fun c => ?_) (fun c => ?_)
  · rw [if_pos c] at h
    refine E_iconst (0 : Int32) dX12_readPart_112 (by decide) ?_
    exact E_lv [1, 2, 0] rfl (w_X12_readPart_113 hs h)
  · rw [if_neg c] at h
    refine E_aload_n 1 dX12_readPart_104 rfl rfl ?_
    refine E_getL dX12_readPart_105 fl_X12_190 rfl (sk_124 hs) (sn hs (by decide)) ?_
    refine E_l2i dX12_readPart_108 ?_
    refine E_goto 113 dX12_readPart_109 (by decide) ?_
    exact E_lv [1, 2, 0] rfl (w_X12_readPart_113 hs h)
def W_X12_readPart_98 (X : Sx) (l : Launch) (D : Nat) (x1 : Int32) (σ : AH) (r : Option Value) (σ' : AH) : Prop := W_X12_readPart_99 X l D x1 (0 : Int32) σ r σ'
set_option maxRecDepth 100000 in
theorem w_X12_readPart_98 {X : Sx} {l : Launch} {D : Nat} {x1 : Int32} {σ : AH} {r : Option Value} {σ' : AH} (hs : Sh σ) (h : W_X12_readPart_98 X l D x1 σ r σ') : E X l m_X12_readPart D 98 [(0, .ref 124), (1, .int x1)] [] σ r σ' := by
  unfold W_X12_readPart_98 at h
  refine E_iconst (0 : Int32) dX12_readPart_98 (by decide) ?_
  exact E_lv [0, 1] rfl (w_X12_readPart_99 hs h)
def W_X12_readPart_0 (X : Sx) (l : Launch) (D : Nat) (σ : AH) (r : Option Value) (σ' : AH) : Prop := ∃ d1 : Nat, ∃ v6 : Int32, ∃ σ2 : AH, d1 + 1 ≤ D ∧ Call X l m_X12_isSign d1 [.ref 124, .int (91 : Int32)] σ (some (.int v6)) σ2 ∧ (if v6 = 0 then ∃ d7 : Nat, ∃ v12 : Int32, ∃ σ8 : AH, d7 + 1 ≤ D ∧ Call X l m_X12_isWord d7 [.ref 124, .long (12748404 : Int64)] σ2 (some (.int v12)) σ8 ∧ (if v12 = 0 then ∃ d13 : Nat, ∃ v18 : Int32, ∃ σ14 : AH, d13 + 1 ≤ D ∧ Call X l m_X12_isWord d13 [.ref 124, .long (441972 : Int64)] σ8 (some (.int v18)) σ14 ∧ (if v18 = 0 then ∃ d19 : Nat, ∃ v24 : Int32, ∃ σ20 : AH, d19 + 1 ≤ D ∧ Call X l m_X12_partAt d19 [.ref 124] σ14 (some (.int v24)) σ20 ∧ (if (gI σ20 124 9) = (2 : Int32) then (if (10000 : Int64) < (gL σ20 124 10) then W_X12_readPart_98 X l D v24 σ20 r σ' else W_X12_readPart_99 X l D v24 (1 : Int32) σ20 r σ') else W_X12_readPart_98 X l D v24 σ20 r σ') else W_X12_readPart_37 X l D σ14 r σ') else W_X12_readPart_37 X l D σ8 r σ') else ∃ d25 : Nat, ∃ σ26 : AH, d25 + 1 ≤ D ∧ Call X l m_X12_open d25 [.ref 124, .int (31 : Int32)] σ2 none σ26 ∧ (r = some (.int (1 : Int32)) ∧ σ' = σ26))
set_option maxRecDepth 100000 in
theorem w_X12_readPart_0 {X : Sx} {l : Launch} {D : Nat} {σ : AH} {r : Option Value} {σ' : AH} (hs : Sh σ) (h : W_X12_readPart_0 X l D σ r σ') : E X l m_X12_readPart D 0 [(0, .ref 124)] [] σ r σ' := by
  unfold W_X12_readPart_0 at h
  refine E_aload_n 0 dX12_readPart_0 rfl rfl ?_
  refine E_bipush (91 : Int32) dX12_readPart_1 (by decide) ?_
  obtain ⟨d1, v6, σ2, hD3, hC4, h⟩ := h
  have hs5 := hC4.1.2.2.2.1 hs
  refine E_callV (As := [.int (91 : Int32)]) (rest := []) (r1 := (some (.int v6))) (b := 124) dX12_readPart_3 ok_X12_isSign in_X12_isSign se_X12_isSign ml_X12_265 hD3 rfl rfl (Nat.le_of_ble_eq_true rfl) (sk_124 hs) (sn hs (by decide)) (by decide) rfl (by decide +kernel) hC4 ?_
  refine E_if_eq 17 dX12_readPart_6 (by decide) (fun c => ?_) (fun c => ?_)
  · rw [if_pos c] at h
    refine E_aload_n 0 dX12_readPart_17 rfl rfl ?_
    refine E_ldc2 (12748404 : Int64) dX12_readPart_18 cl_X12_271 ?_
    obtain ⟨d7, v12, σ8, hD9, hC10, h⟩ := h
    have hs11 := hC10.1.2.2.2.1 hs5
    refine E_callV (As := [.long (12748404 : Int64)]) (rest := []) (r1 := (some (.int v12))) (b := 124) dX12_readPart_21 ok_X12_isWord in_X12_isWord se_X12_isWord ml_X12_243 hD9 rfl rfl (Nat.le_of_ble_eq_true rfl) (sk_124 hs5) (sn hs5 (by decide)) (by decide) rfl (by decide +kernel) hC10 ?_
    refine E_if_ne 37 dX12_readPart_24 (by decide) (fun c => ?_) (fun c => ?_)
    · rw [if_neg c] at h
      exact E_lv [0] rfl (w_X12_readPart_37 hs11 h)
    · rw [if_pos c] at h
      refine E_aload_n 0 dX12_readPart_27 rfl rfl ?_
      refine E_ldc2 (441972 : Int64) dX12_readPart_28 cl_X12_273 ?_
      obtain ⟨d13, v18, σ14, hD15, hC16, h⟩ := h
      have hs17 := hC16.1.2.2.2.1 hs11
      refine E_callV (As := [.long (441972 : Int64)]) (rest := []) (r1 := (some (.int v18))) (b := 124) dX12_readPart_31 ok_X12_isWord in_X12_isWord se_X12_isWord ml_X12_243 hD15 rfl rfl (Nat.le_of_ble_eq_true rfl) (sk_124 hs11) (sn hs11 (by decide)) (by decide) rfl (by decide +kernel) hC16 ?_
      refine E_if_eq 70 dX12_readPart_34 (by decide) (fun c => ?_) (fun c => ?_)
      · rw [if_pos c] at h
        refine E_aload_n 0 dX12_readPart_70 rfl rfl ?_
        obtain ⟨d19, v24, σ20, hD21, hC22, h⟩ := h
        have hs23 := hC22.1.2.2.2.1 hs17
        refine E_callV (As := []) (rest := []) (r1 := (some (.int v24))) (b := 124) dX12_readPart_71 ok_X12_partAt in_X12_partAt se_X12_partAt ml_X12_275 hD21 rfl rfl (Nat.le_of_ble_eq_true rfl) (sk_124 hs17) (sn hs17 (by decide)) (by decide) rfl (by decide +kernel) hC22 ?_
        refine E_istore_n [(1, .int v24), (0, .ref 124)] dX12_readPart_74 rfl (by decide) rfl ?_
        refine E_aload_n 1 dX12_readPart_75 rfl rfl ?_
        refine E_getI dX12_readPart_76 fl_X12_201 rfl (sk_124 hs23) (sn hs23 (by decide)) ?_
        refine E_iconst (2 : Int32) dX12_readPart_79 (by decide) ?_
        refine E_icmp_ne 98 dX12_readPart_80 (by decide) (fun c => ?_) (fun c => ?_)
        · rw [if_neg c] at h
          exact E_lv [1, 0] rfl (w_X12_readPart_98 hs23 h)
        · rw [if_pos c] at h
          refine E_aload_n 1 dX12_readPart_83 rfl rfl ?_
          refine E_getL dX12_readPart_84 fl_X12_190 rfl (sk_124 hs23) (sn hs23 (by decide)) ?_
          refine E_ldc2 (10000 : Int64) dX12_readPart_87 cl_X12_279 ?_
          refine E_lcmp dX12_readPart_90 ?_
          refine E_if_gt 98 dX12_readPart_91 (by decide) (fun c => ?_) (fun c => ?_)
          · rw [if_pos ((lc_gt _ _).mp c)] at h
            exact E_lv [1, 0] rfl (w_X12_readPart_98 hs23 h)
          · rw [if_neg (fun q => c ((lc_gt _ _).mpr q))] at h
            refine E_iconst (1 : Int32) dX12_readPart_94 (by decide) ?_
            refine E_goto 99 dX12_readPart_95 (by decide) ?_
            exact E_lv [1, 0] rfl (w_X12_readPart_99 hs23 h)
      · rw [if_neg c] at h
        exact E_lv [0] rfl (w_X12_readPart_37 hs17 h)
  · rw [if_neg c] at h
    refine E_aload_n 0 dX12_readPart_9 rfl rfl ?_
    refine E_bipush (31 : Int32) dX12_readPart_10 (by decide) ?_
    obtain ⟨d25, σ26, hD27, hC28, h⟩ := h
    have hs29 := hC28.1.2.2.2.1 hs5
    refine E_callV (As := [.int (31 : Int32)]) (rest := []) (r1 := none) (b := 124) dX12_readPart_12 ok_X12_open in_X12_open se_X12_open ml_X12_268 hD27 rfl rfl (Nat.le_of_ble_eq_true rfl) (sk_124 hs5) (sn hs5 (by decide)) (by decide) rfl (by decide +kernel) hC28 ?_
    refine E_iconst (1 : Int32) dX12_readPart_15 (by decide) ?_
    obtain ⟨rfl, rfl⟩ := h
    exact E_iret dX12_readPart_16 rfl
def W_X12_readPlain_0 (X : Sx) (l : Launch) (D : Nat) (σ : AH) (r : Option Value) (σ' : AH) : Prop := ∃ d1 : Nat, ∃ v6 : Int32, ∃ σ2 : AH, d1 + 1 ≤ D ∧ Call X l m_X12_isWord d1 [.ref 124, .long (14836 : Int64)] σ (some (.int v6)) σ2 ∧ (if v6 = 0 then ∃ d7 : Nat, ∃ v12 : Int32, ∃ σ8 : AH, d7 + 1 ≤ D ∧ Call X l m_X12_isSign d7 [.ref 124, .int (40 : Int32)] σ2 (some (.int v12)) σ8 ∧ (if v12 = 0 then ∃ d13 : Nat, ∃ v18 : Int32, ∃ σ14 : AH, d13 + 1 ≤ D ∧ Call X l m_X12_readPart d13 [.ref 124] σ8 (some (.int v18)) σ14 ∧ (r = some (.int v18) ∧ σ' = σ14) else ∃ d19 : Nat, ∃ σ20 : AH, d19 + 1 ≤ D ∧ Call X l m_X12_open d19 [.ref 124, .int (30 : Int32)] σ8 none σ20 ∧ (r = some (.int (0 : Int32)) ∧ σ' = σ20)) else ∃ d24 : Nat, ∃ σ25 : AH, d24 + 1 ≤ D ∧ Call X l m_X12_push d24 [.ref 124, .int (17 : Int32), .int (0 : Int32)] σ2 none σ25 ∧ ∃ d29 : Nat, ∃ σ30 : AH, d29 + 1 ≤ D ∧ Call X l m_X12_next d29 [.ref 124] σ25 none σ30 ∧ (r = some (.int (0 : Int32)) ∧ σ' = σ30))
set_option maxRecDepth 100000 in
theorem w_X12_readPlain_0 {X : Sx} {l : Launch} {D : Nat} {σ : AH} {r : Option Value} {σ' : AH} (hs : Sh σ) (h : W_X12_readPlain_0 X l D σ r σ') : E X l m_X12_readPlain D 0 [(0, .ref 124)] [] σ r σ' := by
  unfold W_X12_readPlain_0 at h
  refine E_aload_n 0 dX12_readPlain_0 rfl rfl ?_
  refine E_ldc2 (14836 : Int64) dX12_readPlain_1 cl_X12_284 ?_
  obtain ⟨d1, v6, σ2, hD3, hC4, h⟩ := h
  have hs5 := hC4.1.2.2.2.1 hs
  refine E_callV (As := [.long (14836 : Int64)]) (rest := []) (r1 := (some (.int v6))) (b := 124) dX12_readPlain_4 ok_X12_isWord in_X12_isWord se_X12_isWord ml_X12_243 hD3 rfl rfl (Nat.le_of_ble_eq_true rfl) (sk_124 hs) (sn hs (by decide)) (by decide) rfl (by decide +kernel) hC4 ?_
  refine E_if_eq 23 dX12_readPlain_7 (by decide) (fun c => ?_) (fun c => ?_)
  · rw [if_pos c] at h
    refine E_aload_n 0 dX12_readPlain_23 rfl rfl ?_
    refine E_bipush (40 : Int32) dX12_readPlain_24 (by decide) ?_
    obtain ⟨d7, v12, σ8, hD9, hC10, h⟩ := h
    have hs11 := hC10.1.2.2.2.1 hs5
    refine E_callV (As := [.int (40 : Int32)]) (rest := []) (r1 := (some (.int v12))) (b := 124) dX12_readPlain_26 ok_X12_isSign in_X12_isSign se_X12_isSign ml_X12_265 hD9 rfl rfl (Nat.le_of_ble_eq_true rfl) (sk_124 hs5) (sn hs5 (by decide)) (by decide) rfl (by decide +kernel) hC10 ?_
    refine E_if_eq 40 dX12_readPlain_29 (by decide) (fun c => ?_) (fun c => ?_)
    · rw [if_pos c] at h
      refine E_aload_n 0 dX12_readPlain_40 rfl rfl ?_
      obtain ⟨d13, v18, σ14, hD15, hC16, h⟩ := h
      have hs17 := hC16.1.2.2.2.1 hs11
      refine E_callV (As := []) (rest := []) (r1 := (some (.int v18))) (b := 124) dX12_readPlain_41 ok_X12_readPart in_X12_readPart se_X12_readPart ml_X12_286 hD15 rfl rfl (Nat.le_of_ble_eq_true rfl) (sk_124 hs11) (sn hs11 (by decide)) (by decide) rfl (by decide +kernel) hC16 ?_
      obtain ⟨rfl, rfl⟩ := h
      exact E_iret dX12_readPlain_44 rfl
    · rw [if_neg c] at h
      refine E_aload_n 0 dX12_readPlain_32 rfl rfl ?_
      refine E_bipush (30 : Int32) dX12_readPlain_33 (by decide) ?_
      obtain ⟨d19, σ20, hD21, hC22, h⟩ := h
      have hs23 := hC22.1.2.2.2.1 hs11
      refine E_callV (As := [.int (30 : Int32)]) (rest := []) (r1 := none) (b := 124) dX12_readPlain_35 ok_X12_open in_X12_open se_X12_open ml_X12_268 hD21 rfl rfl (Nat.le_of_ble_eq_true rfl) (sk_124 hs11) (sn hs11 (by decide)) (by decide) rfl (by decide +kernel) hC22 ?_
      refine E_iconst (0 : Int32) dX12_readPlain_38 (by decide) ?_
      obtain ⟨rfl, rfl⟩ := h
      exact E_iret dX12_readPlain_39 rfl
  · rw [if_neg c] at h
    refine E_aload_n 0 dX12_readPlain_10 rfl rfl ?_
    refine E_bipush (17 : Int32) dX12_readPlain_11 (by decide) ?_
    refine E_iconst (0 : Int32) dX12_readPlain_13 (by decide) ?_
    obtain ⟨d24, σ25, hD26, hC27, h⟩ := h
    have hs28 := hC27.1.2.2.2.1 hs5
    refine E_callV (As := [.int (17 : Int32), .int (0 : Int32)]) (rest := []) (r1 := none) (b := 124) dX12_readPlain_14 ok_X12_push in_X12_push se_X12_push ml_X12_262 hD26 rfl rfl (Nat.le_of_ble_eq_true rfl) (sk_124 hs5) (sn hs5 (by decide)) (by decide) rfl (by decide +kernel) hC27 ?_
    refine E_aload_n 0 dX12_readPlain_17 rfl rfl ?_
    obtain ⟨d29, σ30, hD31, hC32, h⟩ := h
    have hs33 := hC32.1.2.2.2.1 hs28
    refine E_callV (As := []) (rest := []) (r1 := none) (b := 124) dX12_readPlain_18 ok_X12_next in_X12_next se_X12_next ml_X12_184 hD31 rfl rfl (Nat.le_of_ble_eq_true rfl) (sk_124 hs28) (sn hs28 (by decide)) (by decide) rfl (by decide +kernel) hC32 ?_
    refine E_iconst (0 : Int32) dX12_readPlain_21 (by decide) ?_
    obtain ⟨rfl, rfl⟩ := h
    exact E_iret dX12_readPlain_22 rfl
def W_X12_behindBracket_105 (X : Sx) (l : Launch) (D : Nat) (y0 : Int32) (σ : AH) (r : Option Value) (σ' : AH) : Prop := ∃ d22 : Nat, ∃ σ23 : AH, d22 + 1 ≤ D ∧ Call X l m_X12_emit d22 [.ref 124, .int y0, .int (0 : Int32)] σ none σ23 ∧ (r = some (.int (3 : Int32)) ∧ σ' = σ23)
set_option maxRecDepth 100000 in
theorem w_X12_behindBracket_105 {X : Sx} {l : Launch} {D : Nat} {y0 : Int32} {σ : AH} {r : Option Value} {σ' : AH} (hs : Sh σ) (h : W_X12_behindBracket_105 X l D y0 σ r σ') : E X l m_X12_behindBracket D 105 [] [.int y0, .ref 124] σ r σ' := by
  unfold W_X12_behindBracket_105 at h
  refine E_iconst (0 : Int32) dX12_behindBracket_105 (by decide) ?_
  obtain ⟨d22, σ23, hD24, hC25, h⟩ := h
  have hs26 := hC25.1.2.2.2.1 hs
  refine E_callV (As := [.int y0, .int (0 : Int32)]) (rest := []) (r1 := none) (b := 124) dX12_behindBracket_106 ok_X12_emit in_X12_emit se_X12_emit ml_X12_229 hD24 rfl rfl (Nat.le_of_ble_eq_true rfl) (sk_124 hs) (sn hs (by decide)) (by decide) rfl (by decide +kernel) hC25 ?_
  refine E_iconst (3 : Int32) dX12_behindBracket_109 (by decide) ?_
  obtain ⟨rfl, rfl⟩ := h
  exact E_iret dX12_behindBracket_110 rfl
def W_X12_behindBracket_31 (X : Sx) (l : Launch) (D : Nat) (x1 : Int32) (x2 : Int32) (y0 : Int32) (σ : AH) (r : Option Value) (σ' : AH) : Prop := ∃ d1 : Nat, ∃ v6 : Int32, ∃ σ2 : AH, d1 + 1 ≤ D ∧ Call X l m_X12_isSign d1 [.ref 124, .int y0] σ (some (.int v6)) σ2 ∧ ∃ d7 : Nat, ∃ σ8 : AH, d7 + 1 ≤ D ∧ Call X l m_X12_must d7 [.ref 124, .int v6] σ2 none σ8 ∧ (if (gI σ8 124 12) = 0 then ∃ d12 : Nat, ∃ σ13 : AH, d12 + 1 ≤ D ∧ Call X l m_X12_settle d12 [.ref 124, .int (5 : Int32)] σ8 none σ13 ∧ (if x2 = 0 then (if x1 = (31 : Int32) then (r = some (.int (3 : Int32)) ∧ σ' = (sI (sI σ13 124 21 ((gI σ13 124 21) - (1 : Int32))) 124 22 ((gI (sI σ13 124 21 ((gI σ13 124 21) - (1 : Int32))) 124 22) - (1 : Int32)))) else (if x1 = (34 : Int32) then W_X12_behindBracket_105 X l D (15 : Int32) (sI (sI σ13 124 21 ((gI σ13 124 21) - (1 : Int32))) 124 22 ((gI (sI σ13 124 21 ((gI σ13 124 21) - (1 : Int32))) 124 22) - (1 : Int32))) r σ' else W_X12_behindBracket_105 X l D (16 : Int32) (sI (sI σ13 124 21 ((gI σ13 124 21) - (1 : Int32))) 124 22 ((gI (sI σ13 124 21 ((gI σ13 124 21) - (1 : Int32))) 124 22) - (1 : Int32))) r σ')) else ∃ d17 : Nat, ∃ σ18 : AH, d17 + 1 ≤ D ∧ Call X l m_X12_push d17 [.ref 124, .int (x1 + (2 : Int32)), .int (0 : Int32)] (sI σ13 124 21 ((gI σ13 124 21) - (1 : Int32))) none σ18 ∧ (r = some (.int (1 : Int32)) ∧ σ' = σ18)) else (r = some (.int (4 : Int32)) ∧ σ' = σ8))
set_option maxRecDepth 100000 in
theorem w_X12_behindBracket_31 {X : Sx} {l : Launch} {D : Nat} {x1 : Int32} {x2 : Int32} {y0 : Int32} {σ : AH} {r : Option Value} {σ' : AH} (hs : Sh σ) (h : W_X12_behindBracket_31 X l D x1 x2 y0 σ r σ') : E X l m_X12_behindBracket D 31 [(0, .ref 124), (1, .int x1), (2, .int x2)] [.int y0, .ref 124, .ref 124] σ r σ' := by
  unfold W_X12_behindBracket_31 at h
  obtain ⟨d1, v6, σ2, hD3, hC4, h⟩ := h
  have hs5 := hC4.1.2.2.2.1 hs
  refine E_callV (As := [.int y0]) (rest := [.ref 124]) (r1 := (some (.int v6))) (b := 124) dX12_behindBracket_31 ok_X12_isSign in_X12_isSign se_X12_isSign ml_X12_265 hD3 rfl rfl (Nat.le_of_ble_eq_true rfl) (sk_124 hs) (sn hs (by decide)) (by decide) rfl (by decide +kernel) hC4 ?_
  obtain ⟨d7, σ8, hD9, hC10, h⟩ := h
  have hs11 := hC10.1.2.2.2.1 hs5
  refine E_callV (As := [.int v6]) (rest := []) (r1 := none) (b := 124) dX12_behindBracket_34 ok_X12_must in_X12_must se_X12_must ml_X12_216 hD9 rfl rfl (Nat.le_of_ble_eq_true rfl) (sk_124 hs5) (sn hs5 (by decide)) (by decide) rfl (by decide +kernel) hC10 ?_
  refine E_aload_n 0 dX12_behindBracket_37 rfl rfl ?_
  refine E_getI dX12_behindBracket_38 fl_X12_180 rfl (sk_124 hs11) (sn hs11 (by decide)) ?_
  refine E_if_eq 46 dX12_behindBracket_41 (by decide) (fun c => ?_) (fun c => ?_)
  · rw [if_pos c] at h
    refine E_aload_n 0 dX12_behindBracket_46 rfl rfl ?_
    refine E_iconst (5 : Int32) dX12_behindBracket_47 (by decide) ?_
    obtain ⟨d12, σ13, hD14, hC15, h⟩ := h
    have hs16 := hC15.1.2.2.2.1 hs11
    refine E_callV (As := [.int (5 : Int32)]) (rest := []) (r1 := none) (b := 124) dX12_behindBracket_48 ok_X12_settle in_X12_settle se_X12_settle ml_X12_289 hD14 rfl rfl (Nat.le_of_ble_eq_true rfl) (sk_124 hs11) (sn hs11 (by decide)) (by decide) rfl (by decide +kernel) hC15 ?_
    refine E_aload_n 0 dX12_behindBracket_51 rfl rfl ?_
    refine E_dup dX12_behindBracket_52 rfl ?_
    refine E_getI dX12_behindBracket_53 fl_X12_223 rfl (sk_124 hs16) (sn hs16 (by decide)) ?_
    refine E_iconst (1 : Int32) dX12_behindBracket_56 (by decide) ?_
    refine E_isub dX12_behindBracket_57 ?_
    refine E_putI dX12_behindBracket_58 fl_X12_223 rfl (Or.inl rfl) (sk_124 hs16) (sn hs16 (by decide)) (Or.inl (by decide)) rfl rfl ?_
    refine E_iload_n 2 dX12_behindBracket_61 rfl rfl ?_
    refine E_if_eq 75 dX12_behindBracket_62 (by decide) (fun c => ?_) (fun c => ?_)
    · rw [if_pos c] at h
      refine E_aload_n 0 dX12_behindBracket_75 rfl rfl ?_
      refine E_dup dX12_behindBracket_76 rfl ?_
      refine E_getI dX12_behindBracket_77 fl_X12_259 rfl (sk_124 hs16) (sn hs16 (by decide)) ?_
      refine E_iconst (1 : Int32) dX12_behindBracket_80 (by decide) ?_
      refine E_isub dX12_behindBracket_81 ?_
      refine E_putI dX12_behindBracket_82 fl_X12_259 rfl (Or.inl rfl) (sk_124 hs16) (sn hs16 (by decide)) (Or.inl (by decide)) rfl rfl ?_
      refine E_iload_n 1 dX12_behindBracket_85 rfl rfl ?_
      refine E_bipush (31 : Int32) dX12_behindBracket_86 (by decide) ?_
      refine E_icmp_eq 109 dX12_behindBracket_88 (by decide) (fun c => ?_) (fun c => ?_)
      · rw [if_pos c] at h
        refine E_iconst (3 : Int32) dX12_behindBracket_109 (by decide) ?_
        obtain ⟨rfl, rfl⟩ := h
        exact E_iret dX12_behindBracket_110 rfl
      · rw [if_neg c] at h
        refine E_aload_n 0 dX12_behindBracket_91 rfl rfl ?_
        refine E_iload_n 1 dX12_behindBracket_92 rfl rfl ?_
        refine E_bipush (34 : Int32) dX12_behindBracket_93 (by decide) ?_
        refine E_icmp_ne 103 dX12_behindBracket_95 (by decide) (fun c => ?_) (fun c => ?_)
        · rw [if_neg c] at h
          refine E_bipush (16 : Int32) dX12_behindBracket_103 (by decide) ?_
          exact E_lv [] rfl (w_X12_behindBracket_105 hs16 h)
        · rw [if_pos c] at h
          refine E_bipush (15 : Int32) dX12_behindBracket_98 (by decide) ?_
          refine E_goto 105 dX12_behindBracket_100 (by decide) ?_
          exact E_lv [] rfl (w_X12_behindBracket_105 hs16 h)
    · rw [if_neg c] at h
      refine E_aload_n 0 dX12_behindBracket_65 rfl rfl ?_
      refine E_iload_n 1 dX12_behindBracket_66 rfl rfl ?_
      refine E_iconst (2 : Int32) dX12_behindBracket_67 (by decide) ?_
      refine E_iadd dX12_behindBracket_68 ?_
      refine E_iconst (0 : Int32) dX12_behindBracket_69 (by decide) ?_
      obtain ⟨d17, σ18, hD19, hC20, h⟩ := h
      have hs21 := hC20.1.2.2.2.1 hs16
      refine E_callV (As := [.int (x1 + (2 : Int32)), .int (0 : Int32)]) (rest := []) (r1 := none) (b := 124) dX12_behindBracket_70 ok_X12_push in_X12_push se_X12_push ml_X12_262 hD19 rfl rfl (Nat.le_of_ble_eq_true rfl) (sk_124 hs16) (sn hs16 (by decide)) (by decide) rfl (by decide +kernel) hC20 ?_
      refine E_iconst (1 : Int32) dX12_behindBracket_73 (by decide) ?_
      obtain ⟨rfl, rfl⟩ := h
      exact E_iret dX12_behindBracket_74 rfl
  · rw [if_neg c] at h
    refine E_iconst (4 : Int32) dX12_behindBracket_44 (by decide) ?_
    obtain ⟨rfl, rfl⟩ := h
    exact E_iret dX12_behindBracket_45 rfl
def W_X12_behindBracket_17 (X : Sx) (l : Launch) (D : Nat) (x1 : Int32) (y0 : Int32) (σ : AH) (r : Option Value) (σ' : AH) : Prop := (if y0 = 0 then W_X12_behindBracket_31 X l D x1 y0 (93 : Int32) σ r σ' else W_X12_behindBracket_31 X l D x1 y0 (44 : Int32) σ r σ')
set_option maxRecDepth 100000 in
theorem w_X12_behindBracket_17 {X : Sx} {l : Launch} {D : Nat} {x1 : Int32} {y0 : Int32} {σ : AH} {r : Option Value} {σ' : AH} (hs : Sh σ) (h : W_X12_behindBracket_17 X l D x1 y0 σ r σ') : E X l m_X12_behindBracket D 17 [(0, .ref 124), (1, .int x1)] [.int y0] σ r σ' := by
  unfold W_X12_behindBracket_17 at h
  refine E_istore_n [(2, .int y0), (0, .ref 124), (1, .int x1)] dX12_behindBracket_17 rfl (by decide) rfl ?_
  refine E_aload_n 1 dX12_behindBracket_18 rfl rfl ?_
  refine E_aload_n 1 dX12_behindBracket_19 rfl rfl ?_
  refine E_iload_n 0 dX12_behindBracket_20 rfl rfl ?_
  refine E_if_eq 29 dX12_behindBracket_21 (by decide) (fun c => ?_) (fun c => ?_)
  · rw [if_pos c] at h
    refine E_bipush (93 : Int32) dX12_behindBracket_29 (by decide) ?_
    exact E_lv [1, 2, 0] rfl (w_X12_behindBracket_31 hs h)
  · rw [if_neg c] at h
    refine E_bipush (44 : Int32) dX12_behindBracket_24 (by decide) ?_
    refine E_goto 31 dX12_behindBracket_26 (by decide) ?_
    exact E_lv [1, 2, 0] rfl (w_X12_behindBracket_31 hs h)
def W_X12_behindBracket_12 (X : Sx) (l : Launch) (D : Nat) (x1 : Int32) (σ : AH) (r : Option Value) (σ' : AH) : Prop := W_X12_behindBracket_17 X l D x1 (1 : Int32) σ r σ'
set_option maxRecDepth 100000 in
theorem w_X12_behindBracket_12 {X : Sx} {l : Launch} {D : Nat} {x1 : Int32} {σ : AH} {r : Option Value} {σ' : AH} (hs : Sh σ) (h : W_X12_behindBracket_12 X l D x1 σ r σ') : E X l m_X12_behindBracket D 12 [(0, .ref 124), (1, .int x1)] [] σ r σ' := by
  unfold W_X12_behindBracket_12 at h
  refine E_iconst (1 : Int32) dX12_behindBracket_12 (by decide) ?_
  refine E_goto 17 dX12_behindBracket_13 (by decide) ?_
  exact E_lv [0, 1] rfl (w_X12_behindBracket_17 hs h)
def W_X12_behindBracket_0 (X : Sx) (l : Launch) (D : Nat) (x1 : Int32) (σ : AH) (r : Option Value) (σ' : AH) : Prop := (if x1 = (32 : Int32) then W_X12_behindBracket_12 X l D x1 σ r σ' else (if x1 = (33 : Int32) then W_X12_behindBracket_12 X l D x1 σ r σ' else W_X12_behindBracket_17 X l D x1 (0 : Int32) σ r σ'))
set_option maxRecDepth 100000 in
theorem w_X12_behindBracket_0 {X : Sx} {l : Launch} {D : Nat} {x1 : Int32} {σ : AH} {r : Option Value} {σ' : AH} (hs : Sh σ) (h : W_X12_behindBracket_0 X l D x1 σ r σ') : E X l m_X12_behindBracket D 0 [(0, .ref 124), (1, .int x1)] [] σ r σ' := by
  unfold W_X12_behindBracket_0 at h
  refine E_iload_n 1 dX12_behindBracket_0 rfl rfl ?_
  refine E_bipush (32 : Int32) dX12_behindBracket_1 (by decide) ?_
  refine E_icmp_eq 12 dX12_behindBracket_3 (by decide) (fun c => ?_) (fun c => ?_)
  · rw [if_pos c] at h
    exact E_lv [0, 1] rfl (w_X12_behindBracket_12 hs h)
  · rw [if_neg c] at h
    refine E_iload_n 1 dX12_behindBracket_6 rfl rfl ?_
    refine E_bipush (33 : Int32) dX12_behindBracket_7 (by decide) ?_
    refine E_icmp_ne 16 dX12_behindBracket_9 (by decide) (fun c => ?_) (fun c => ?_)
    · rw [if_neg c] at h
      refine E_iconst (0 : Int32) dX12_behindBracket_16 (by decide) ?_
      exact E_lv [0, 1] rfl (w_X12_behindBracket_17 hs h)
    · rw [if_pos c] at h
      exact E_lv [0, 1] rfl (w_X12_behindBracket_12 hs h)
def W_X12_behindSum_172 (X : Sx) (l : Launch) (D : Nat) (x2 : Int32) (y0 : Int32) (σ : AH) (r : Option Value) (σ' : AH) : Prop := ∃ d82 : Nat, ∃ σ83 : AH, d82 + 1 ≤ D ∧ Call X l m_X12_must d82 [.ref 124, .int y0] σ none σ83 ∧ (if (gI σ83 124 12) = 0 then ∃ d87 : Nat, ∃ σ88 : AH, d87 + 1 ≤ D ∧ Call X l m_X12_settle d87 [.ref 124, .int (5 : Int32)] σ83 none σ88 ∧ ∃ d92 : Nat, ∃ σ93 : AH, d92 + 1 ≤ D ∧ Call X l m_X12_push d92 [.ref 124, .int x2, .int (0 : Int32)] σ88 none σ93 ∧ (r = some (.int (1 : Int32)) ∧ σ' = σ93) else (r = some (.int (1 : Int32)) ∧ σ' = σ83))
set_option maxRecDepth 100000 in
theorem w_X12_behindSum_172 {X : Sx} {l : Launch} {D : Nat} {x2 : Int32} {y0 : Int32} {σ : AH} {r : Option Value} {σ' : AH} (hs : Sh σ) (h : W_X12_behindSum_172 X l D x2 y0 σ r σ') : E X l m_X12_behindSum D 172 [(0, .ref 124), (2, .int x2)] [.int y0, .ref 124] σ r σ' := by
  unfold W_X12_behindSum_172 at h
  obtain ⟨d82, σ83, hD84, hC85, h⟩ := h
  have hs86 := hC85.1.2.2.2.1 hs
  refine E_callV (As := [.int y0]) (rest := []) (r1 := none) (b := 124) dX12_behindSum_172 ok_X12_must in_X12_must se_X12_must ml_X12_216 hD84 rfl rfl (Nat.le_of_ble_eq_true rfl) (sk_124 hs) (sn hs (by decide)) (by decide) rfl (by decide +kernel) hC85 ?_
  refine E_aload_n 0 dX12_behindSum_175 rfl rfl ?_
  refine E_getI dX12_behindSum_176 fl_X12_180 rfl (sk_124 hs86) (sn hs86 (by decide)) ?_
  refine E_if_ne 193 dX12_behindSum_179 (by decide) (fun c => ?_) (fun c => ?_)
  · rw [if_neg c] at h
    refine E_iconst (1 : Int32) dX12_behindSum_193 (by decide) ?_
    obtain ⟨rfl, rfl⟩ := h
    exact E_iret dX12_behindSum_194 rfl
  · rw [if_pos c] at h
    refine E_aload_n 0 dX12_behindSum_182 rfl rfl ?_
    refine E_iconst (5 : Int32) dX12_behindSum_183 (by decide) ?_
    obtain ⟨d87, σ88, hD89, hC90, h⟩ := h
    have hs91 := hC90.1.2.2.2.1 hs86
    refine E_callV (As := [.int (5 : Int32)]) (rest := []) (r1 := none) (b := 124) dX12_behindSum_184 ok_X12_settle in_X12_settle se_X12_settle ml_X12_289 hD89 rfl rfl (Nat.le_of_ble_eq_true rfl) (sk_124 hs86) (sn hs86 (by decide)) (by decide) rfl (by decide +kernel) hC90 ?_
    refine E_aload_n 0 dX12_behindSum_187 rfl rfl ?_
    refine E_iload_n 1 dX12_behindSum_188 rfl rfl ?_
    refine E_iconst (0 : Int32) dX12_behindSum_189 (by decide) ?_
    obtain ⟨d92, σ93, hD94, hC95, h⟩ := h
    have hs96 := hC95.1.2.2.2.1 hs91
    refine E_callV (As := [.int x2, .int (0 : Int32)]) (rest := []) (r1 := none) (b := 124) dX12_behindSum_190 ok_X12_push in_X12_push se_X12_push ml_X12_262 hD94 rfl rfl (Nat.le_of_ble_eq_true rfl) (sk_124 hs91) (sn hs91 (by decide)) (by decide) rfl (by decide +kernel) hC95 ?_
    refine E_iconst (1 : Int32) dX12_behindSum_193 (by decide) ?_
    obtain ⟨rfl, rfl⟩ := h
    exact E_iret dX12_behindSum_194 rfl
def W_X12_behindSum_167 (X : Sx) (l : Launch) (D : Nat) (x2 : Int32) (σ : AH) (r : Option Value) (σ' : AH) : Prop := W_X12_behindSum_172 X l D x2 (1 : Int32) σ r σ'
set_option maxRecDepth 100000 in
theorem w_X12_behindSum_167 {X : Sx} {l : Launch} {D : Nat} {x2 : Int32} {σ : AH} {r : Option Value} {σ' : AH} (hs : Sh σ) (h : W_X12_behindSum_167 X l D x2 σ r σ') : E X l m_X12_behindSum D 167 [(0, .ref 124), (2, .int x2)] [.ref 124] σ r σ' := by
  unfold W_X12_behindSum_167 at h
  refine E_iconst (1 : Int32) dX12_behindSum_167 (by decide) ?_
  refine E_goto 172 dX12_behindSum_168 (by decide) ?_
  exact E_lv [0, 1] rfl (w_X12_behindSum_172 hs h)
def W_X12_behindSum_150 (X : Sx) (l : Launch) (D : Nat) (y0 : Int32) (σ : AH) (r : Option Value) (σ' : AH) : Prop := (if y0 = (14 : Int32) then ∃ d76 : Nat, ∃ v81 : Int32, ∃ σ77 : AH, d76 + 1 ≤ D ∧ Call X l m_X12_isSign d76 [.ref 124, .int (61 : Int32)] σ (some (.int v81)) σ77 ∧ (if v81 = 0 then W_X12_behindSum_172 X l D y0 (0 : Int32) σ77 r σ' else W_X12_behindSum_167 X l D y0 σ77 r σ') else W_X12_behindSum_167 X l D y0 σ r σ')
set_option maxRecDepth 100000 in
theorem w_X12_behindSum_150 {X : Sx} {l : Launch} {D : Nat} {y0 : Int32} {σ : AH} {r : Option Value} {σ' : AH} (hs : Sh σ) (h : W_X12_behindSum_150 X l D y0 σ r σ') : E X l m_X12_behindSum D 150 [(0, .ref 124)] [.int y0] σ r σ' := by
  unfold W_X12_behindSum_150 at h
  refine E_istore_n [(2, .int y0), (0, .ref 124)] dX12_behindSum_150 rfl (by decide) rfl ?_
  refine E_aload_n 1 dX12_behindSum_151 rfl rfl ?_
  refine E_iload_n 0 dX12_behindSum_152 rfl rfl ?_
  refine E_bipush (14 : Int32) dX12_behindSum_153 (by decide) ?_
  refine E_icmp_ne 167 dX12_behindSum_155 (by decide) (fun c => ?_) (fun c => ?_)
  · rw [if_neg c] at h
    exact E_lv [1, 0] rfl (w_X12_behindSum_167 hs h)
  · rw [if_pos c] at h
    refine E_aload_n 1 dX12_behindSum_158 rfl rfl ?_
    refine E_bipush (61 : Int32) dX12_behindSum_159 (by decide) ?_
    obtain ⟨d76, v81, σ77, hD78, hC79, h⟩ := h
    have hs80 := hC79.1.2.2.2.1 hs
    refine E_callV (As := [.int (61 : Int32)]) (rest := [.ref 124]) (r1 := (some (.int v81))) (b := 124) dX12_behindSum_161 ok_X12_isSign in_X12_isSign se_X12_isSign ml_X12_265 hD78 rfl rfl (Nat.le_of_ble_eq_true rfl) (sk_124 hs) (sn hs (by decide)) (by decide) rfl (by decide +kernel) hC79 ?_
    refine E_if_eq 171 dX12_behindSum_164 (by decide) (fun c => ?_) (fun c => ?_)
    · rw [if_pos c] at h
      refine E_iconst (0 : Int32) dX12_behindSum_171 (by decide) ?_
      exact E_lv [1, 0] rfl (w_X12_behindSum_172 hs80 h)
    · rw [if_neg c] at h
      exact E_lv [1, 0] rfl (w_X12_behindSum_167 hs80 h)
def W_X12_behindSum_111 (X : Sx) (l : Launch) (D : Nat) (σ : AH) (r : Option Value) (σ' : AH) : Prop := ∃ d58 : Nat, ∃ v63 : Int32, ∃ σ59 : AH, d58 + 1 ≤ D ∧ Call X l m_X12_isCompared d58 [.ref 124] σ (some (.int v63)) σ59 ∧ (if v63 = 0 then ∃ d64 : Nat, ∃ v69 : Int32, ∃ σ65 : AH, d64 + 1 ≤ D ∧ Call X l m_X12_isSign d64 [.ref 124, .int (60 : Int32)] σ59 (some (.int v69)) σ65 ∧ (if v69 = 0 then ∃ d70 : Nat, ∃ v75 : Int32, ∃ σ71 : AH, d70 + 1 ≤ D ∧ Call X l m_X12_isSign d70 [.ref 124, .int (62 : Int32)] σ65 (some (.int v75)) σ71 ∧ (if v75 = 0 then W_X12_behindSum_150 X l D (14 : Int32) σ71 r σ' else W_X12_behindSum_150 X l D (13 : Int32) σ71 r σ') else W_X12_behindSum_150 X l D (12 : Int32) σ65 r σ') else (r = some (.int (2 : Int32)) ∧ σ' = σ59))
set_option maxRecDepth 100000 in
theorem w_X12_behindSum_111 {X : Sx} {l : Launch} {D : Nat} {σ : AH} {r : Option Value} {σ' : AH} (hs : Sh σ) (h : W_X12_behindSum_111 X l D σ r σ') : E X l m_X12_behindSum D 111 [(0, .ref 124)] [] σ r σ' := by
  unfold W_X12_behindSum_111 at h
  refine E_aload_n 0 dX12_behindSum_111 rfl rfl ?_
  obtain ⟨d58, v63, σ59, hD60, hC61, h⟩ := h
  have hs62 := hC61.1.2.2.2.1 hs
  refine E_callV (As := []) (rest := []) (r1 := (some (.int v63))) (b := 124) dX12_behindSum_112 ok_X12_isCompared in_X12_isCompared se_X12_isCompared ml_X12_298 hD60 rfl rfl (Nat.le_of_ble_eq_true rfl) (sk_124 hs) (sn hs (by decide)) (by decide) rfl (by decide +kernel) hC61 ?_
  refine E_if_eq 120 dX12_behindSum_115 (by decide) (fun c => ?_) (fun c => ?_)
  · rw [if_pos c] at h
    refine E_aload_n 0 dX12_behindSum_120 rfl rfl ?_
    refine E_bipush (60 : Int32) dX12_behindSum_121 (by decide) ?_
    obtain ⟨d64, v69, σ65, hD66, hC67, h⟩ := h
    have hs68 := hC67.1.2.2.2.1 hs62
    refine E_callV (As := [.int (60 : Int32)]) (rest := []) (r1 := (some (.int v69))) (b := 124) dX12_behindSum_123 ok_X12_isSign in_X12_isSign se_X12_isSign ml_X12_265 hD66 rfl rfl (Nat.le_of_ble_eq_true rfl) (sk_124 hs62) (sn hs62 (by decide)) (by decide) rfl (by decide +kernel) hC67 ?_
    refine E_if_eq 134 dX12_behindSum_126 (by decide) (fun c => ?_) (fun c => ?_)
    · rw [if_pos c] at h
      refine E_aload_n 0 dX12_behindSum_134 rfl rfl ?_
      refine E_bipush (62 : Int32) dX12_behindSum_135 (by decide) ?_
      obtain ⟨d70, v75, σ71, hD72, hC73, h⟩ := h
      have hs74 := hC73.1.2.2.2.1 hs68
      refine E_callV (As := [.int (62 : Int32)]) (rest := []) (r1 := (some (.int v75))) (b := 124) dX12_behindSum_137 ok_X12_isSign in_X12_isSign se_X12_isSign ml_X12_265 hD72 rfl rfl (Nat.le_of_ble_eq_true rfl) (sk_124 hs68) (sn hs68 (by decide)) (by decide) rfl (by decide +kernel) hC73 ?_
      refine E_if_eq 148 dX12_behindSum_140 (by decide) (fun c => ?_) (fun c => ?_)
      · rw [if_pos c] at h
        refine E_bipush (14 : Int32) dX12_behindSum_148 (by decide) ?_
        exact E_lv [0] rfl (w_X12_behindSum_150 hs74 h)
      · rw [if_neg c] at h
        refine E_bipush (13 : Int32) dX12_behindSum_143 (by decide) ?_
        refine E_goto 150 dX12_behindSum_145 (by decide) ?_
        exact E_lv [0] rfl (w_X12_behindSum_150 hs74 h)
    · rw [if_neg c] at h
      refine E_bipush (12 : Int32) dX12_behindSum_129 (by decide) ?_
      refine E_goto 150 dX12_behindSum_131 (by decide) ?_
      exact E_lv [0] rfl (w_X12_behindSum_150 hs68 h)
  · rw [if_neg c] at h
    refine E_iconst (2 : Int32) dX12_behindSum_118 (by decide) ?_
    obtain ⟨rfl, rfl⟩ := h
    exact E_iret dX12_behindSum_119 rfl
def W_X12_behindSum_57 (X : Sx) (l : Launch) (D : Nat) (x1 : Int32) (y0 : Int32) (σ : AH) (r : Option Value) (σ' : AH) : Prop := (if y0 = (-1 : Int32) then ∃ d25 : Nat, ∃ v30 : Int32, ∃ σ26 : AH, d25 + 1 ≤ D ∧ Call X l m_X12_inner d25 [.ref 124] σ (some (.int v30)) σ26 ∧ (if v30 ≤ (30 : Int32) then (if v30 = (-1 : Int32) then (if x1 = 0 then (r = some (.int (4 : Int32)) ∧ σ' = σ26) else W_X12_behindSum_111 X l D σ26 r σ') else W_X12_behindSum_111 X l D σ26 r σ') else ∃ d31 : Nat, ∃ v36 : Int32, ∃ σ32 : AH, d31 + 1 ≤ D ∧ Call X l m_X12_behindBracket d31 [.ref 124, .int v30] σ26 (some (.int v36)) σ32 ∧ (r = some (.int v36) ∧ σ' = σ32)) else ∃ d37 : Nat, ∃ v42 : Int32, ∃ σ38 : AH, d37 + 1 ≤ D ∧ Call X l m_X12_binds d37 [.int y0] σ (some (.int v42)) σ38 ∧ ∃ d43 : Nat, ∃ σ44 : AH, d43 + 1 ≤ D ∧ Call X l m_X12_settle d43 [.ref 124, .int v42] σ38 none σ44 ∧ ∃ d48 : Nat, ∃ σ49 : AH, d48 + 1 ≤ D ∧ Call X l m_X12_push d48 [.ref 124, .int y0, .int (0 : Int32)] σ44 none σ49 ∧ ∃ d53 : Nat, ∃ σ54 : AH, d53 + 1 ≤ D ∧ Call X l m_X12_next d53 [.ref 124] σ49 none σ54 ∧ (r = some (.int (1 : Int32)) ∧ σ' = σ54))
set_option maxRecDepth 100000 in
theorem w_X12_behindSum_57 {X : Sx} {l : Launch} {D : Nat} {x1 : Int32} {y0 : Int32} {σ : AH} {r : Option Value} {σ' : AH} (hs : Sh σ) (h : W_X12_behindSum_57 X l D x1 y0 σ r σ') : E X l m_X12_behindSum D 57 [(0, .ref 124), (1, .int x1)] [.int y0] σ r σ' := by
  unfold W_X12_behindSum_57 at h
  refine E_istore_n [(2, .int y0), (0, .ref 124), (1, .int x1)] dX12_behindSum_57 rfl (by decide) rfl ?_
  refine E_iload_n 0 dX12_behindSum_58 rfl rfl ?_
  refine E_iconst (-1 : Int32) dX12_behindSum_59 (by decide) ?_
  refine E_icmp_eq 83 dX12_behindSum_60 (by decide) (fun c => ?_) (fun c => ?_)
  · rw [if_pos c] at h
    refine E_aload_n 1 dX12_behindSum_83 rfl rfl ?_
    obtain ⟨d25, v30, σ26, hD27, hC28, h⟩ := h
    have hs29 := hC28.1.2.2.2.1 hs
    refine E_callV (As := []) (rest := []) (r1 := (some (.int v30))) (b := 124) dX12_behindSum_84 ok_X12_inner in_X12_inner se_X12_inner ml_X12_292 hD27 rfl rfl (Nat.le_of_ble_eq_true rfl) (sk_124 hs) (sn hs (by decide)) (by decide) rfl (by decide +kernel) hC28 ?_
    refine E_istore_n [(3, .int v30), (2, .int y0), (0, .ref 124), (1, .int x1)] dX12_behindSum_87 rfl (by decide) rfl ?_
    refine E_iload_n 0 dX12_behindSum_88 rfl rfl ?_
    refine E_bipush (30 : Int32) dX12_behindSum_89 (by decide) ?_
    refine E_icmp_le 100 dX12_behindSum_91 (by decide) (fun c => ?_) (fun c => ?_)
    · rw [if_pos c] at h
      refine E_iload_n 0 dX12_behindSum_100 rfl rfl ?_
      refine E_iconst (-1 : Int32) dX12_behindSum_101 (by decide) ?_
      refine E_icmp_ne 111 dX12_behindSum_102 (by decide) (fun c => ?_) (fun c => ?_)
      · rw [if_neg c] at h
        exact E_lv [2] rfl (w_X12_behindSum_111 hs29 h)
      · rw [if_pos c] at h
        refine E_iload_n 3 dX12_behindSum_105 rfl rfl ?_
        refine E_if_ne 111 dX12_behindSum_106 (by decide) (fun c => ?_) (fun c => ?_)
        · rw [if_neg c] at h
          exact E_lv [2] rfl (w_X12_behindSum_111 hs29 h)
        · rw [if_pos c] at h
          refine E_iconst (4 : Int32) dX12_behindSum_109 (by decide) ?_
          obtain ⟨rfl, rfl⟩ := h
          exact E_iret dX12_behindSum_110 rfl
    · rw [if_neg c] at h
      refine E_aload_n 2 dX12_behindSum_94 rfl rfl ?_
      refine E_iload_n 0 dX12_behindSum_95 rfl rfl ?_
      obtain ⟨d31, v36, σ32, hD33, hC34, h⟩ := h
      have hs35 := hC34.1.2.2.2.1 hs29
      refine E_callV (As := [.int v30]) (rest := []) (r1 := (some (.int v36))) (b := 124) dX12_behindSum_96 ok_X12_behindBracket in_X12_behindBracket se_X12_behindBracket ml_X12_295 hD33 rfl rfl (Nat.le_of_ble_eq_true rfl) (sk_124 hs29) (sn hs29 (by decide)) (by decide) rfl (by decide +kernel) hC34 ?_
      obtain ⟨rfl, rfl⟩ := h
      exact E_iret dX12_behindSum_99 rfl
  · rw [if_neg c] at h
    refine E_aload_n 1 dX12_behindSum_63 rfl rfl ?_
    refine E_iload_n 0 dX12_behindSum_64 rfl rfl ?_
    obtain ⟨d37, v42, σ38, hD39, hC40, h⟩ := h
    have hs41 := hC40.1.2.2.2.1 hs
    refine E_callS (As := [.int y0]) (rest := [.ref 124]) (r1 := (some (.int v42))) dX12_behindSum_65 ok_X12_binds is_X12_binds ml_X12_226 hD39 rfl rfl (Nat.le_of_ble_eq_true rfl) (by decide +kernel) hC40 ?_
    obtain ⟨d43, σ44, hD45, hC46, h⟩ := h
    have hs47 := hC46.1.2.2.2.1 hs41
    refine E_callV (As := [.int v42]) (rest := []) (r1 := none) (b := 124) dX12_behindSum_68 ok_X12_settle in_X12_settle se_X12_settle ml_X12_289 hD45 rfl rfl (Nat.le_of_ble_eq_true rfl) (sk_124 hs41) (sn hs41 (by decide)) (by decide) rfl (by decide +kernel) hC46 ?_
    refine E_aload_n 1 dX12_behindSum_71 rfl rfl ?_
    refine E_iload_n 0 dX12_behindSum_72 rfl rfl ?_
    refine E_iconst (0 : Int32) dX12_behindSum_73 (by decide) ?_
    obtain ⟨d48, σ49, hD50, hC51, h⟩ := h
    have hs52 := hC51.1.2.2.2.1 hs47
    refine E_callV (As := [.int y0, .int (0 : Int32)]) (rest := []) (r1 := none) (b := 124) dX12_behindSum_74 ok_X12_push in_X12_push se_X12_push ml_X12_262 hD50 rfl rfl (Nat.le_of_ble_eq_true rfl) (sk_124 hs47) (sn hs47 (by decide)) (by decide) rfl (by decide +kernel) hC51 ?_
    refine E_aload_n 1 dX12_behindSum_77 rfl rfl ?_
    obtain ⟨d53, σ54, hD55, hC56, h⟩ := h
    have hs57 := hC56.1.2.2.2.1 hs52
    refine E_callV (As := []) (rest := []) (r1 := none) (b := 124) dX12_behindSum_78 ok_X12_next in_X12_next se_X12_next ml_X12_184 hD55 rfl rfl (Nat.le_of_ble_eq_true rfl) (sk_124 hs52) (sn hs52 (by decide)) (by decide) rfl (by decide +kernel) hC56 ?_
    refine E_iconst (1 : Int32) dX12_behindSum_81 (by decide) ?_
    obtain ⟨rfl, rfl⟩ := h
    exact E_iret dX12_behindSum_82 rfl
def W_X12_behindSum_0 (X : Sx) (l : Launch) (D : Nat) (x1 : Int32) (σ : AH) (r : Option Value) (σ' : AH) : Prop := ∃ d1 : Nat, ∃ v6 : Int32, ∃ σ2 : AH, d1 + 1 ≤ D ∧ Call X l m_X12_isSign d1 [.ref 124, .int (43 : Int32)] σ (some (.int v6)) σ2 ∧ (if v6 = 0 then ∃ d7 : Nat, ∃ v12 : Int32, ∃ σ8 : AH, d7 + 1 ≤ D ∧ Call X l m_X12_isSign d7 [.ref 124, .int (45 : Int32)] σ2 (some (.int v12)) σ8 ∧ (if v12 = 0 then ∃ d13 : Nat, ∃ v18 : Int32, ∃ σ14 : AH, d13 + 1 ≤ D ∧ Call X l m_X12_isSign d13 [.ref 124, .int (42 : Int32)] σ8 (some (.int v18)) σ14 ∧ (if v18 = 0 then ∃ d19 : Nat, ∃ v24 : Int32, ∃ σ20 : AH, d19 + 1 ≤ D ∧ Call X l m_X12_isSign d19 [.ref 124, .int (47 : Int32)] σ14 (some (.int v24)) σ20 ∧ (if v24 = 0 then W_X12_behindSum_57 X l D x1 (-1 : Int32) σ20 r σ' else W_X12_behindSum_57 X l D x1 (11 : Int32) σ20 r σ') else W_X12_behindSum_57 X l D x1 (10 : Int32) σ14 r σ') else W_X12_behindSum_57 X l D x1 (9 : Int32) σ8 r σ') else W_X12_behindSum_57 X l D x1 (8 : Int32) σ2 r σ')
set_option maxRecDepth 100000 in
theorem w_X12_behindSum_0 {X : Sx} {l : Launch} {D : Nat} {x1 : Int32} {σ : AH} {r : Option Value} {σ' : AH} (hs : Sh σ) (h : W_X12_behindSum_0 X l D x1 σ r σ') : E X l m_X12_behindSum D 0 [(0, .ref 124), (1, .int x1)] [] σ r σ' := by
  unfold W_X12_behindSum_0 at h
  refine E_aload_n 0 dX12_behindSum_0 rfl rfl ?_
  refine E_bipush (43 : Int32) dX12_behindSum_1 (by decide) ?_
  obtain ⟨d1, v6, σ2, hD3, hC4, h⟩ := h
  have hs5 := hC4.1.2.2.2.1 hs
  refine E_callV (As := [.int (43 : Int32)]) (rest := []) (r1 := (some (.int v6))) (b := 124) dX12_behindSum_3 ok_X12_isSign in_X12_isSign se_X12_isSign ml_X12_265 hD3 rfl rfl (Nat.le_of_ble_eq_true rfl) (sk_124 hs) (sn hs (by decide)) (by decide) rfl (by decide +kernel) hC4 ?_
  refine E_if_eq 14 dX12_behindSum_6 (by decide) (fun c => ?_) (fun c => ?_)
  · rw [if_pos c] at h
    refine E_aload_n 0 dX12_behindSum_14 rfl rfl ?_
    refine E_bipush (45 : Int32) dX12_behindSum_15 (by decide) ?_
    obtain ⟨d7, v12, σ8, hD9, hC10, h⟩ := h
    have hs11 := hC10.1.2.2.2.1 hs5
    refine E_callV (As := [.int (45 : Int32)]) (rest := []) (r1 := (some (.int v12))) (b := 124) dX12_behindSum_17 ok_X12_isSign in_X12_isSign se_X12_isSign ml_X12_265 hD9 rfl rfl (Nat.le_of_ble_eq_true rfl) (sk_124 hs5) (sn hs5 (by decide)) (by decide) rfl (by decide +kernel) hC10 ?_
    refine E_if_eq 28 dX12_behindSum_20 (by decide) (fun c => ?_) (fun c => ?_)
    · rw [if_pos c] at h
      refine E_aload_n 0 dX12_behindSum_28 rfl rfl ?_
      refine E_bipush (42 : Int32) dX12_behindSum_29 (by decide) ?_
      obtain ⟨d13, v18, σ14, hD15, hC16, h⟩ := h
      have hs17 := hC16.1.2.2.2.1 hs11
      refine E_callV (As := [.int (42 : Int32)]) (rest := []) (r1 := (some (.int v18))) (b := 124) dX12_behindSum_31 ok_X12_isSign in_X12_isSign se_X12_isSign ml_X12_265 hD15 rfl rfl (Nat.le_of_ble_eq_true rfl) (sk_124 hs11) (sn hs11 (by decide)) (by decide) rfl (by decide +kernel) hC16 ?_
      refine E_if_eq 42 dX12_behindSum_34 (by decide) (fun c => ?_) (fun c => ?_)
      · rw [if_pos c] at h
        refine E_aload_n 0 dX12_behindSum_42 rfl rfl ?_
        refine E_bipush (47 : Int32) dX12_behindSum_43 (by decide) ?_
        obtain ⟨d19, v24, σ20, hD21, hC22, h⟩ := h
        have hs23 := hC22.1.2.2.2.1 hs17
        refine E_callV (As := [.int (47 : Int32)]) (rest := []) (r1 := (some (.int v24))) (b := 124) dX12_behindSum_45 ok_X12_isSign in_X12_isSign se_X12_isSign ml_X12_265 hD21 rfl rfl (Nat.le_of_ble_eq_true rfl) (sk_124 hs17) (sn hs17 (by decide)) (by decide) rfl (by decide +kernel) hC22 ?_
        refine E_if_eq 56 dX12_behindSum_48 (by decide) (fun c => ?_) (fun c => ?_)
        · rw [if_pos c] at h
          refine E_iconst (-1 : Int32) dX12_behindSum_56 (by decide) ?_
          exact E_lv [0, 1] rfl (w_X12_behindSum_57 hs23 h)
        · rw [if_neg c] at h
          refine E_bipush (11 : Int32) dX12_behindSum_51 (by decide) ?_
          refine E_goto 57 dX12_behindSum_53 (by decide) ?_
          exact E_lv [0, 1] rfl (w_X12_behindSum_57 hs23 h)
      · rw [if_neg c] at h
        refine E_bipush (10 : Int32) dX12_behindSum_37 (by decide) ?_
        refine E_goto 57 dX12_behindSum_39 (by decide) ?_
        exact E_lv [0, 1] rfl (w_X12_behindSum_57 hs17 h)
    · rw [if_neg c] at h
      refine E_bipush (9 : Int32) dX12_behindSum_23 (by decide) ?_
      refine E_goto 57 dX12_behindSum_25 (by decide) ?_
      exact E_lv [0, 1] rfl (w_X12_behindSum_57 hs11 h)
  · rw [if_neg c] at h
    refine E_bipush (8 : Int32) dX12_behindSum_9 (by decide) ?_
    refine E_goto 57 dX12_behindSum_11 (by decide) ?_
    exact E_lv [0, 1] rfl (w_X12_behindSum_57 hs5 h)
def W_X12_behindTest_66 (X : Sx) (l : Launch) (D : Nat) (y0 : Int32) (σ : AH) (r : Option Value) (σ' : AH) : Prop := ∃ d45 : Nat, ∃ σ46 : AH, d45 + 1 ≤ D ∧ Call X l m_X12_emit d45 [.ref 124, .int y0, .int (0 : Int32)] σ none σ46 ∧ ∃ d50 : Nat, ∃ σ51 : AH, d50 + 1 ≤ D ∧ Call X l m_X12_next d50 [.ref 124] σ46 none σ51 ∧ (r = some (.int (0 : Int32)) ∧ σ' = σ51)
set_option maxRecDepth 100000 in
theorem w_X12_behindTest_66 {X : Sx} {l : Launch} {D : Nat} {y0 : Int32} {σ : AH} {r : Option Value} {σ' : AH} (hs : Sh σ) (h : W_X12_behindTest_66 X l D y0 σ r σ') : E X l m_X12_behindTest D 66 [(0, .ref 124)] [.int y0, .ref 124] σ r σ' := by
  unfold W_X12_behindTest_66 at h
  refine E_iconst (0 : Int32) dX12_behindTest_66 (by decide) ?_
  obtain ⟨d45, σ46, hD47, hC48, h⟩ := h
  have hs49 := hC48.1.2.2.2.1 hs
  refine E_callV (As := [.int y0, .int (0 : Int32)]) (rest := []) (r1 := none) (b := 124) dX12_behindTest_67 ok_X12_emit in_X12_emit se_X12_emit ml_X12_229 hD47 rfl rfl (Nat.le_of_ble_eq_true rfl) (sk_124 hs) (sn hs (by decide)) (by decide) rfl (by decide +kernel) hC48 ?_
  refine E_aload_n 0 dX12_behindTest_70 rfl rfl ?_
  obtain ⟨d50, σ51, hD52, hC53, h⟩ := h
  have hs54 := hC53.1.2.2.2.1 hs49
  refine E_callV (As := []) (rest := []) (r1 := none) (b := 124) dX12_behindTest_71 ok_X12_next in_X12_next se_X12_next ml_X12_184 hD52 rfl rfl (Nat.le_of_ble_eq_true rfl) (sk_124 hs49) (sn hs49 (by decide)) (by decide) rfl (by decide +kernel) hC53 ?_
  refine E_iconst (0 : Int32) dX12_behindTest_74 (by decide) ?_
  obtain ⟨rfl, rfl⟩ := h
  exact E_iret dX12_behindTest_75 rfl
def W_X12_behindTest_47 (X : Sx) (l : Launch) (D : Nat) (x1 : Int32) (y0 : Int32) (σ : AH) (r : Option Value) (σ' : AH) : Prop := ∃ d40 : Nat, ∃ σ41 : AH, d40 + 1 ≤ D ∧ Call X l m_X12_push d40 [.ref 124, .int y0, .int (gI σ 124 15)] σ none σ41 ∧ (if x1 = 0 then W_X12_behindTest_66 X l D (19 : Int32) σ41 r σ' else W_X12_behindTest_66 X l D (18 : Int32) σ41 r σ')
set_option maxRecDepth 100000 in
theorem w_X12_behindTest_47 {X : Sx} {l : Launch} {D : Nat} {x1 : Int32} {y0 : Int32} {σ : AH} {r : Option Value} {σ' : AH} (hs : Sh σ) (h : W_X12_behindTest_47 X l D x1 y0 σ r σ') : E X l m_X12_behindTest D 47 [(0, .ref 124), (1, .int x1)] [.int y0, .ref 124] σ r σ' := by
  unfold W_X12_behindTest_47 at h
  refine E_aload_n 0 dX12_behindTest_47 rfl rfl ?_
  refine E_getI dX12_behindTest_48 fl_X12_220 rfl (sk_124 hs) (sn hs (by decide)) ?_
  obtain ⟨d40, σ41, hD42, hC43, h⟩ := h
  have hs44 := hC43.1.2.2.2.1 hs
  refine E_callV (As := [.int y0, .int (gI σ 124 15)]) (rest := []) (r1 := none) (b := 124) dX12_behindTest_51 ok_X12_push in_X12_push se_X12_push ml_X12_262 hD42 rfl rfl (Nat.le_of_ble_eq_true rfl) (sk_124 hs) (sn hs (by decide)) (by decide) rfl (by decide +kernel) hC43 ?_
  refine E_aload_n 0 dX12_behindTest_54 rfl rfl ?_
  refine E_iload_n 1 dX12_behindTest_55 rfl rfl ?_
  refine E_if_eq 64 dX12_behindTest_56 (by decide) (fun c => ?_) (fun c => ?_)
  · rw [if_pos c] at h
    refine E_bipush (19 : Int32) dX12_behindTest_64 (by decide) ?_
    exact E_lv [0] rfl (w_X12_behindTest_66 hs44 h)
  · rw [if_neg c] at h
    refine E_bipush (18 : Int32) dX12_behindTest_59 (by decide) ?_
    refine E_goto 66 dX12_behindTest_61 (by decide) ?_
    exact E_lv [0] rfl (w_X12_behindTest_66 hs44 h)
def W_X12_behindTest_32 (X : Sx) (l : Launch) (D : Nat) (x1 : Int32) (y0 : Int32) (σ : AH) (r : Option Value) (σ' : AH) : Prop := ∃ d35 : Nat, ∃ σ36 : AH, d35 + 1 ≤ D ∧ Call X l m_X12_settle d35 [.ref 124, .int y0] σ none σ36 ∧ (if x1 = 0 then W_X12_behindTest_47 X l D x1 (19 : Int32) σ36 r σ' else W_X12_behindTest_47 X l D x1 (18 : Int32) σ36 r σ')
set_option maxRecDepth 100000 in
theorem w_X12_behindTest_32 {X : Sx} {l : Launch} {D : Nat} {x1 : Int32} {y0 : Int32} {σ : AH} {r : Option Value} {σ' : AH} (hs : Sh σ) (h : W_X12_behindTest_32 X l D x1 y0 σ r σ') : E X l m_X12_behindTest D 32 [(0, .ref 124), (1, .int x1)] [.int y0, .ref 124] σ r σ' := by
  unfold W_X12_behindTest_32 at h
  obtain ⟨d35, σ36, hD37, hC38, h⟩ := h
  have hs39 := hC38.1.2.2.2.1 hs
  refine E_callV (As := [.int y0]) (rest := []) (r1 := none) (b := 124) dX12_behindTest_32 ok_X12_settle in_X12_settle se_X12_settle ml_X12_289 hD37 rfl rfl (Nat.le_of_ble_eq_true rfl) (sk_124 hs) (sn hs (by decide)) (by decide) rfl (by decide +kernel) hC38 ?_
  refine E_aload_n 0 dX12_behindTest_35 rfl rfl ?_
  refine E_iload_n 1 dX12_behindTest_36 rfl rfl ?_
  refine E_if_eq 45 dX12_behindTest_37 (by decide) (fun c => ?_) (fun c => ?_)
  · rw [if_pos c] at h
    refine E_bipush (19 : Int32) dX12_behindTest_45 (by decide) ?_
    exact E_lv [0, 1] rfl (w_X12_behindTest_47 hs39 h)
  · rw [if_neg c] at h
    refine E_bipush (18 : Int32) dX12_behindTest_40 (by decide) ?_
    refine E_goto 47 dX12_behindTest_42 (by decide) ?_
    exact E_lv [0, 1] rfl (w_X12_behindTest_47 hs39 h)
def W_X12_behindTest_22 (X : Sx) (l : Launch) (D : Nat) (x1 : Int32) (σ : AH) (r : Option Value) (σ' : AH) : Prop := (if x1 = 0 then W_X12_behindTest_32 X l D x1 (1 : Int32) σ r σ' else W_X12_behindTest_32 X l D x1 (2 : Int32) σ r σ')
set_option maxRecDepth 100000 in
theorem w_X12_behindTest_22 {X : Sx} {l : Launch} {D : Nat} {x1 : Int32} {σ : AH} {r : Option Value} {σ' : AH} (hs : Sh σ) (h : W_X12_behindTest_22 X l D x1 σ r σ') : E X l m_X12_behindTest D 22 [(0, .ref 124), (1, .int x1)] [] σ r σ' := by
  unfold W_X12_behindTest_22 at h
  refine E_aload_n 0 dX12_behindTest_22 rfl rfl ?_
  refine E_iload_n 1 dX12_behindTest_23 rfl rfl ?_
  refine E_if_eq 31 dX12_behindTest_24 (by decide) (fun c => ?_) (fun c => ?_)
  · rw [if_pos c] at h
    refine E_iconst (1 : Int32) dX12_behindTest_31 (by decide) ?_
    exact E_lv [0, 1] rfl (w_X12_behindTest_32 hs h)
  · rw [if_neg c] at h
    refine E_iconst (2 : Int32) dX12_behindTest_27 (by decide) ?_
    refine E_goto 32 dX12_behindTest_28 (by decide) ?_
    exact E_lv [0, 1] rfl (w_X12_behindTest_32 hs h)
def W_X12_behindTest_0 (X : Sx) (l : Launch) (D : Nat) (σ : AH) (r : Option Value) (σ' : AH) : Prop := ∃ d1 : Nat, ∃ v6 : Int32, ∃ σ2 : AH, d1 + 1 ≤ D ∧ Call X l m_X12_isWord d1 [.ref 124, .long (1476 : Int64)] σ (some (.int v6)) σ2 ∧ (if v6 = 0 then ∃ d7 : Nat, ∃ v12 : Int32, ∃ σ8 : AH, d7 + 1 ≤ D ∧ Call X l m_X12_isWord d7 [.ref 124, .long (498 : Int64)] σ2 (some (.int v12)) σ8 ∧ (if v12 = 0 then ∃ d13 : Nat, ∃ v18 : Int32, ∃ σ14 : AH, d13 + 1 ≤ D ∧ Call X l m_X12_inner d13 [.ref 124] σ8 (some (.int v18)) σ14 ∧ (if v18 = (-1 : Int32) then (r = some (.int (4 : Int32)) ∧ σ' = σ14) else ∃ d19 : Nat, ∃ v24 : Int32, ∃ σ20 : AH, d19 + 1 ≤ D ∧ Call X l m_X12_isSign d19 [.ref 124, .int (41 : Int32)] σ14 (some (.int v24)) σ20 ∧ ∃ d25 : Nat, ∃ σ26 : AH, d25 + 1 ≤ D ∧ Call X l m_X12_must d25 [.ref 124, .int v24] σ20 none σ26 ∧ (if (gI σ26 124 12) = 0 then ∃ d30 : Nat, ∃ σ31 : AH, d30 + 1 ≤ D ∧ Call X l m_X12_settle d30 [.ref 124, .int (1 : Int32)] σ26 none σ31 ∧ (r = some (.int (2 : Int32)) ∧ σ' = (sI (sI σ31 124 21 ((gI σ31 124 21) - (1 : Int32))) 124 22 ((gI (sI σ31 124 21 ((gI σ31 124 21) - (1 : Int32))) 124 22) - (1 : Int32)))) else (r = some (.int (2 : Int32)) ∧ σ' = σ26))) else W_X12_behindTest_22 X l D v6 σ8 r σ') else W_X12_behindTest_22 X l D v6 σ2 r σ')
set_option maxRecDepth 100000 in
theorem w_X12_behindTest_0 {X : Sx} {l : Launch} {D : Nat} {σ : AH} {r : Option Value} {σ' : AH} (hs : Sh σ) (h : W_X12_behindTest_0 X l D σ r σ') : E X l m_X12_behindTest D 0 [(0, .ref 124)] [] σ r σ' := by
  unfold W_X12_behindTest_0 at h
  refine E_aload_n 0 dX12_behindTest_0 rfl rfl ?_
  refine E_ldc2 (1476 : Int64) dX12_behindTest_1 cl_X12_302 ?_
  obtain ⟨d1, v6, σ2, hD3, hC4, h⟩ := h
  have hs5 := hC4.1.2.2.2.1 hs
  refine E_callV (As := [.long (1476 : Int64)]) (rest := []) (r1 := (some (.int v6))) (b := 124) dX12_behindTest_4 ok_X12_isWord in_X12_isWord se_X12_isWord ml_X12_243 hD3 rfl rfl (Nat.le_of_ble_eq_true rfl) (sk_124 hs) (sn hs (by decide)) (by decide) rfl (by decide +kernel) hC4 ?_
  refine E_istore_n [(1, .int v6), (0, .ref 124)] dX12_behindTest_7 rfl (by decide) rfl ?_
  refine E_iload_n 0 dX12_behindTest_8 rfl rfl ?_
  refine E_if_ne 22 dX12_behindTest_9 (by decide) (fun c => ?_) (fun c => ?_)
  · rw [if_neg c] at h
    exact E_lv [1, 0] rfl (w_X12_behindTest_22 hs5 h)
  · rw [if_pos c] at h
    refine E_aload_n 1 dX12_behindTest_12 rfl rfl ?_
    refine E_ldc2 (498 : Int64) dX12_behindTest_13 cl_X12_304 ?_
    obtain ⟨d7, v12, σ8, hD9, hC10, h⟩ := h
    have hs11 := hC10.1.2.2.2.1 hs5
    refine E_callV (As := [.long (498 : Int64)]) (rest := []) (r1 := (some (.int v12))) (b := 124) dX12_behindTest_16 ok_X12_isWord in_X12_isWord se_X12_isWord ml_X12_243 hD9 rfl rfl (Nat.le_of_ble_eq_true rfl) (sk_124 hs5) (sn hs5 (by decide)) (by decide) rfl (by decide +kernel) hC10 ?_
    refine E_if_eq 76 dX12_behindTest_19 (by decide) (fun c => ?_) (fun c => ?_)
    · rw [if_pos c] at h
      refine E_aload_n 1 dX12_behindTest_76 rfl rfl ?_
      obtain ⟨d13, v18, σ14, hD15, hC16, h⟩ := h
      have hs17 := hC16.1.2.2.2.1 hs11
      refine E_callV (As := []) (rest := []) (r1 := (some (.int v18))) (b := 124) dX12_behindTest_77 ok_X12_inner in_X12_inner se_X12_inner ml_X12_292 hD15 rfl rfl (Nat.le_of_ble_eq_true rfl) (sk_124 hs11) (sn hs11 (by decide)) (by decide) rfl (by decide +kernel) hC16 ?_
      refine E_iconst (-1 : Int32) dX12_behindTest_80 (by decide) ?_
      refine E_icmp_ne 86 dX12_behindTest_81 (by decide) (fun c => ?_) (fun c => ?_)
      · rw [if_neg c] at h
        refine E_aload_n 1 dX12_behindTest_86 rfl rfl ?_
        refine E_aload_n 1 dX12_behindTest_87 rfl rfl ?_
        refine E_bipush (41 : Int32) dX12_behindTest_88 (by decide) ?_
        obtain ⟨d19, v24, σ20, hD21, hC22, h⟩ := h
        have hs23 := hC22.1.2.2.2.1 hs17
        refine E_callV (As := [.int (41 : Int32)]) (rest := [.ref 124]) (r1 := (some (.int v24))) (b := 124) dX12_behindTest_90 ok_X12_isSign in_X12_isSign se_X12_isSign ml_X12_265 hD21 rfl rfl (Nat.le_of_ble_eq_true rfl) (sk_124 hs17) (sn hs17 (by decide)) (by decide) rfl (by decide +kernel) hC22 ?_
        obtain ⟨d25, σ26, hD27, hC28, h⟩ := h
        have hs29 := hC28.1.2.2.2.1 hs23
        refine E_callV (As := [.int v24]) (rest := []) (r1 := none) (b := 124) dX12_behindTest_93 ok_X12_must in_X12_must se_X12_must ml_X12_216 hD27 rfl rfl (Nat.le_of_ble_eq_true rfl) (sk_124 hs23) (sn hs23 (by decide)) (by decide) rfl (by decide +kernel) hC28 ?_
        refine E_aload_n 1 dX12_behindTest_96 rfl rfl ?_
        refine E_getI dX12_behindTest_97 fl_X12_180 rfl (sk_124 hs29) (sn hs29 (by decide)) ?_
        refine E_if_ne 128 dX12_behindTest_100 (by decide) (fun c => ?_) (fun c => ?_)
        · rw [if_neg c] at h
          refine E_iconst (2 : Int32) dX12_behindTest_128 (by decide) ?_
          obtain ⟨rfl, rfl⟩ := h
          exact E_iret dX12_behindTest_129 rfl
        · rw [if_pos c] at h
          refine E_aload_n 1 dX12_behindTest_103 rfl rfl ?_
          refine E_iconst (1 : Int32) dX12_behindTest_104 (by decide) ?_
          obtain ⟨d30, σ31, hD32, hC33, h⟩ := h
          have hs34 := hC33.1.2.2.2.1 hs29
          refine E_callV (As := [.int (1 : Int32)]) (rest := []) (r1 := none) (b := 124) dX12_behindTest_105 ok_X12_settle in_X12_settle se_X12_settle ml_X12_289 hD32 rfl rfl (Nat.le_of_ble_eq_true rfl) (sk_124 hs29) (sn hs29 (by decide)) (by decide) rfl (by decide +kernel) hC33 ?_
          refine E_aload_n 1 dX12_behindTest_108 rfl rfl ?_
          refine E_dup dX12_behindTest_109 rfl ?_
          refine E_getI dX12_behindTest_110 fl_X12_223 rfl (sk_124 hs34) (sn hs34 (by decide)) ?_
          refine E_iconst (1 : Int32) dX12_behindTest_113 (by decide) ?_
          refine E_isub dX12_behindTest_114 ?_
          refine E_putI dX12_behindTest_115 fl_X12_223 rfl (Or.inl rfl) (sk_124 hs34) (sn hs34 (by decide)) (Or.inl (by decide)) rfl rfl ?_
          refine E_aload_n 1 dX12_behindTest_118 rfl rfl ?_
          refine E_dup dX12_behindTest_119 rfl ?_
          refine E_getI dX12_behindTest_120 fl_X12_259 rfl (sk_124 hs34) (sn hs34 (by decide)) ?_
          refine E_iconst (1 : Int32) dX12_behindTest_123 (by decide) ?_
          refine E_isub dX12_behindTest_124 ?_
          refine E_putI dX12_behindTest_125 fl_X12_259 rfl (Or.inl rfl) (sk_124 hs34) (sn hs34 (by decide)) (Or.inl (by decide)) rfl rfl ?_
          refine E_iconst (2 : Int32) dX12_behindTest_128 (by decide) ?_
          obtain ⟨rfl, rfl⟩ := h
          exact E_iret dX12_behindTest_129 rfl
      · rw [if_pos c] at h
        refine E_iconst (4 : Int32) dX12_behindTest_84 (by decide) ?_
        obtain ⟨rfl, rfl⟩ := h
        exact E_iret dX12_behindTest_85 rfl
    · rw [if_neg c] at h
      exact E_lv [1, 0] rfl (w_X12_behindTest_22 hs11 h)
def W_X12_readExpression_19 (X : Sx) (l : Launch) (D : Nat) (x1 : Int32) (y0 : Int32) (σ : AH) (r : Option Value) (σ' : AH) : Prop := E X l m_X12_readExpression D 20 [(0, .ref 124), (1, .int x1), (2, .int y0)] [] σ r σ'
set_option maxRecDepth 100000 in
theorem w_X12_readExpression_19 {X : Sx} {l : Launch} {D : Nat} {x1 : Int32} {y0 : Int32} {σ : AH} {r : Option Value} {σ' : AH} (hs : Sh σ) (h : W_X12_readExpression_19 X l D x1 y0 σ r σ') : E X l m_X12_readExpression D 19 [(0, .ref 124), (1, .int x1)] [.int y0] σ r σ' := by
  unfold W_X12_readExpression_19 at h
  refine E_istore_n [(2, .int y0), (0, .ref 124), (1, .int x1)] dX12_readExpression_19 rfl (by decide) rfl ?_
  exact E_lv [1, 2, 0] rfl h
def W_X12_readExpression_0 (X : Sx) (l : Launch) (D : Nat) (x1 : Int32) (σ : AH) (r : Option Value) (σ' : AH) : Prop := (if x1 = 0 then W_X12_readExpression_19 X l D x1 (1 : Int32) (sI (sI σ 124 21 (0 : Int32)) 124 22 (0 : Int32)) r σ' else W_X12_readExpression_19 X l D x1 (0 : Int32) (sI (sI σ 124 21 (0 : Int32)) 124 22 (0 : Int32)) r σ')
set_option maxRecDepth 100000 in
theorem w_X12_readExpression_0 {X : Sx} {l : Launch} {D : Nat} {x1 : Int32} {σ : AH} {r : Option Value} {σ' : AH} (hs : Sh σ) (h : W_X12_readExpression_0 X l D x1 σ r σ') : E X l m_X12_readExpression D 0 [(0, .ref 124), (1, .int x1)] [] σ r σ' := by
  unfold W_X12_readExpression_0 at h
  refine E_aload_n 0 dX12_readExpression_0 rfl rfl ?_
  refine E_iconst (0 : Int32) dX12_readExpression_1 (by decide) ?_
  refine E_putI dX12_readExpression_2 fl_X12_223 rfl (Or.inl rfl) (sk_124 hs) (sn hs (by decide)) (Or.inl (by decide)) rfl rfl ?_
  refine E_aload_n 0 dX12_readExpression_5 rfl rfl ?_
  refine E_iconst (0 : Int32) dX12_readExpression_6 (by decide) ?_
  refine E_putI dX12_readExpression_7 fl_X12_259 rfl (Or.inl rfl) (sk_124 hs) (sn hs (by decide)) (Or.inl (by decide)) rfl rfl ?_
  refine E_iload_n 1 dX12_readExpression_10 rfl rfl ?_
  refine E_if_eq 18 dX12_readExpression_11 (by decide) (fun c => ?_) (fun c => ?_)
  · rw [if_pos c] at h
    refine E_iconst (1 : Int32) dX12_readExpression_18 (by decide) ?_
    exact E_lv [0, 1] rfl (w_X12_readExpression_19 hs h)
  · rw [if_neg c] at h
    refine E_iconst (0 : Int32) dX12_readExpression_14 (by decide) ?_
    refine E_goto 19 dX12_readExpression_15 (by decide) ?_
    exact E_lv [0, 1] rfl (w_X12_readExpression_19 hs h)
def W_X12_readExpression_72 (X : Sx) (l : Launch) (D : Nat) (x1 : Int32) (y0 : Int32) (σ : AH) (r : Option Value) (σ' : AH) : Prop := E X l m_X12_readExpression D 20 [(0, .ref 124), (1, .int x1), (2, .int y0)] [] σ r σ'
set_option maxRecDepth 100000 in
theorem w_X12_readExpression_72 {X : Sx} {l : Launch} {D : Nat} {x1 : Int32} {y0 : Int32} {σ : AH} {r : Option Value} {σ' : AH} (hs : Sh σ) (h : W_X12_readExpression_72 X l D x1 y0 σ r σ') : E X l m_X12_readExpression D 72 [(0, .ref 124), (1, .int x1)] [.int y0] σ r σ' := by
  unfold W_X12_readExpression_72 at h
  refine E_istore_n [(2, .int y0), (0, .ref 124), (1, .int x1)] dX12_readExpression_72 rfl (by decide) rfl ?_
  refine E_goto 20 dX12_readExpression_73 (by decide) ?_
  exact E_lv [1, 2, 0] rfl h
def W_X12_readExpression_76 (X : Sx) (l : Launch) (D : Nat) (σ : AH) (r : Option Value) (σ' : AH) : Prop := ∃ d25 : Nat, ∃ σ26 : AH, d25 + 1 ≤ D ∧ Call X l m_X12_settle d25 [.ref 124, .int (1 : Int32)] σ none σ26 ∧ (r = none ∧ σ' = σ26)
set_option maxRecDepth 100000 in
theorem w_X12_readExpression_76 {X : Sx} {l : Launch} {D : Nat} {σ : AH} {r : Option Value} {σ' : AH} (hs : Sh σ) (h : W_X12_readExpression_76 X l D σ r σ') : E X l m_X12_readExpression D 76 [(0, .ref 124)] [] σ r σ' := by
  unfold W_X12_readExpression_76 at h
  refine E_aload_n 0 dX12_readExpression_76 rfl rfl ?_
  refine E_iconst (1 : Int32) dX12_readExpression_77 (by decide) ?_
  obtain ⟨d25, σ26, hD27, hC28, h⟩ := h
  have hs29 := hC28.1.2.2.2.1 hs
  refine E_callV (As := [.int (1 : Int32)]) (rest := []) (r1 := none) (b := 124) dX12_readExpression_78 ok_X12_settle in_X12_settle se_X12_settle ml_X12_289 hD27 rfl rfl (Nat.le_of_ble_eq_true rfl) (sk_124 hs) (sn hs (by decide)) (by decide) rfl (by decide +kernel) hC28 ?_
  obtain ⟨rfl, rfl⟩ := h
  exact E_vret dX12_readExpression_81 rfl
def W_X12_readExpression_20 (X : Sx) (l : Launch) (D : Nat) (x1 : Int32) (x2 : Int32) (σ : AH) (r : Option Value) (σ' : AH) : Prop := (if (gI σ 124 12) = 0 then (if x2 = (4 : Int32) then W_X12_readExpression_76 X l D σ r σ' else (if x2 = 0 then ∃ d19 : Nat, ∃ v24 : Int32, ∃ σ20 : AH, d19 + 1 ≤ D ∧ Call X l m_X12_readPlain d19 [.ref 124] σ (some (.int v24)) σ20 ∧ W_X12_readExpression_72 X l D x1 v24 σ20 r σ' else (if x2 = (1 : Int32) then ∃ d13 : Nat, ∃ v18 : Int32, ∃ σ14 : AH, d13 + 1 ≤ D ∧ Call X l m_X12_readPart d13 [.ref 124] σ (some (.int v18)) σ14 ∧ W_X12_readExpression_72 X l D x1 v18 σ14 r σ' else (if x2 = (3 : Int32) then ∃ d7 : Nat, ∃ v12 : Int32, ∃ σ8 : AH, d7 + 1 ≤ D ∧ Call X l m_X12_behindSum d7 [.ref 124, .int x1] σ (some (.int v12)) σ8 ∧ W_X12_readExpression_72 X l D x1 v12 σ8 r σ' else ∃ d1 : Nat, ∃ v6 : Int32, ∃ σ2 : AH, d1 + 1 ≤ D ∧ Call X l m_X12_behindTest d1 [.ref 124] σ (some (.int v6)) σ2 ∧ W_X12_readExpression_72 X l D x1 v6 σ2 r σ')))) else W_X12_readExpression_76 X l D σ r σ')
set_option maxRecDepth 100000 in
theorem w_X12_readExpression_20 {X : Sx} {l : Launch} {D : Nat} {x1 : Int32} {x2 : Int32} {σ : AH} {r : Option Value} {σ' : AH} (hs : Sh σ) (h : W_X12_readExpression_20 X l D x1 x2 σ r σ') : E X l m_X12_readExpression D 20 [(0, .ref 124), (1, .int x1), (2, .int x2)] [] σ r σ' := by
  unfold W_X12_readExpression_20 at h
  refine E_aload_n 0 dX12_readExpression_20 rfl rfl ?_
  refine E_getI dX12_readExpression_21 fl_X12_180 rfl (sk_124 hs) (sn hs (by decide)) ?_
  refine E_if_ne 76 dX12_readExpression_24 (by decide) (fun c => ?_) (fun c => ?_)
  · rw [if_neg c] at h
    exact E_lv [0] rfl (w_X12_readExpression_76 hs h)
  · rw [if_pos c] at h
    refine E_iload_n 2 dX12_readExpression_27 rfl rfl ?_
    refine E_iconst (4 : Int32) dX12_readExpression_28 (by decide) ?_
    refine E_icmp_eq 76 dX12_readExpression_29 (by decide) (fun c => ?_) (fun c => ?_)
    · rw [if_pos c] at h
      exact E_lv [0] rfl (w_X12_readExpression_76 hs h)
    · rw [if_neg c] at h
      refine E_iload_n 2 dX12_readExpression_32 rfl rfl ?_
      refine E_if_ne 43 dX12_readExpression_33 (by decide) (fun c => ?_) (fun c => ?_)
      · rw [if_neg c] at h
        refine E_iload_n 2 dX12_readExpression_43 rfl rfl ?_
        refine E_iconst (1 : Int32) dX12_readExpression_44 (by decide) ?_
        refine E_icmp_ne 55 dX12_readExpression_45 (by decide) (fun c => ?_) (fun c => ?_)
        · rw [if_neg c] at h
          refine E_iload_n 2 dX12_readExpression_55 rfl rfl ?_
          refine E_iconst (3 : Int32) dX12_readExpression_56 (by decide) ?_
          refine E_icmp_ne 68 dX12_readExpression_57 (by decide) (fun c => ?_) (fun c => ?_)
          · rw [if_neg c] at h
            refine E_aload_n 0 dX12_readExpression_68 rfl rfl ?_
            obtain ⟨d1, v6, σ2, hD3, hC4, h⟩ := h
            have hs5 := hC4.1.2.2.2.1 hs
            refine E_callV (As := []) (rest := []) (r1 := (some (.int v6))) (b := 124) dX12_readExpression_69 ok_X12_behindTest in_X12_behindTest se_X12_behindTest ml_X12_313 hD3 rfl rfl (Nat.le_of_ble_eq_true rfl) (sk_124 hs) (sn hs (by decide)) (by decide) rfl (by decide +kernel) hC4 ?_
            exact E_lv [0, 1] rfl (w_X12_readExpression_72 hs5 h)
          · rw [if_pos c] at h
            refine E_aload_n 0 dX12_readExpression_60 rfl rfl ?_
            refine E_iload_n 1 dX12_readExpression_61 rfl rfl ?_
            obtain ⟨d7, v12, σ8, hD9, hC10, h⟩ := h
            have hs11 := hC10.1.2.2.2.1 hs
            refine E_callV (As := [.int x1]) (rest := []) (r1 := (some (.int v12))) (b := 124) dX12_readExpression_62 ok_X12_behindSum in_X12_behindSum se_X12_behindSum ml_X12_309 hD9 rfl rfl (Nat.le_of_ble_eq_true rfl) (sk_124 hs) (sn hs (by decide)) (by decide) rfl (by decide +kernel) hC10 ?_
            refine E_goto 72 dX12_readExpression_65 (by decide) ?_
            exact E_lv [0, 1] rfl (w_X12_readExpression_72 hs11 h)
        · rw [if_pos c] at h
          refine E_aload_n 0 dX12_readExpression_48 rfl rfl ?_
          obtain ⟨d13, v18, σ14, hD15, hC16, h⟩ := h
          have hs17 := hC16.1.2.2.2.1 hs
          refine E_callV (As := []) (rest := []) (r1 := (some (.int v18))) (b := 124) dX12_readExpression_49 ok_X12_readPart in_X12_readPart se_X12_readPart ml_X12_286 hD15 rfl rfl (Nat.le_of_ble_eq_true rfl) (sk_124 hs) (sn hs (by decide)) (by decide) rfl (by decide +kernel) hC16 ?_
          refine E_goto 72 dX12_readExpression_52 (by decide) ?_
          exact E_lv [0, 1] rfl (w_X12_readExpression_72 hs17 h)
      · rw [if_pos c] at h
        refine E_aload_n 0 dX12_readExpression_36 rfl rfl ?_
        obtain ⟨d19, v24, σ20, hD21, hC22, h⟩ := h
        have hs23 := hC22.1.2.2.2.1 hs
        refine E_callV (As := []) (rest := []) (r1 := (some (.int v24))) (b := 124) dX12_readExpression_37 ok_X12_readPlain in_X12_readPlain se_X12_readPlain ml_X12_306 hD21 rfl rfl (Nat.le_of_ble_eq_true rfl) (sk_124 hs) (sn hs (by decide)) (by decide) rfl (by decide +kernel) hC22 ?_
        refine E_goto 72 dX12_readExpression_40 (by decide) ?_
        exact E_lv [0, 1] rfl (w_X12_readExpression_72 hs23 h)
def W_X12_kindAt_0 (X : Sx) (l : Launch) (D : Nat) (σ : AH) (r : Option Value) (σ' : AH) : Prop := ∃ d1 : Nat, ∃ v6 : Int32, ∃ σ2 : AH, d1 + 1 ≤ D ∧ Call X l m_X12_isWord d1 [.ref 124, .long (2696299 : Int64)] σ (some (.int v6)) σ2 ∧ (if v6 = 0 then ∃ d7 : Nat, ∃ v12 : Int32, ∃ σ8 : AH, d7 + 1 ≤ D ∧ Call X l m_X12_isWord d7 [.ref 124, .long (20583596 : Int64)] σ2 (some (.int v12)) σ8 ∧ (if v12 = 0 then ∃ d13 : Nat, ∃ v18 : Int32, ∃ σ14 : AH, d13 + 1 ≤ D ∧ Call X l m_X12_isWord d13 [.ref 124, .long (8884 : Int64)] σ8 (some (.int v18)) σ14 ∧ (if v18 = 0 then (r = some (.int (-1 : Int32)) ∧ σ' = σ14) else (r = some (.int (2 : Int32)) ∧ σ' = σ14)) else (r = some (.int (1 : Int32)) ∧ σ' = σ8)) else (r = some (.int (0 : Int32)) ∧ σ' = σ2))
set_option maxRecDepth 100000 in
theorem w_X12_kindAt_0 {X : Sx} {l : Launch} {D : Nat} {σ : AH} {r : Option Value} {σ' : AH} (hs : Sh σ) (h : W_X12_kindAt_0 X l D σ r σ') : E X l m_X12_kindAt D 0 [(0, .ref 124)] [] σ r σ' := by
  unfold W_X12_kindAt_0 at h
  refine E_aload_n 0 dX12_kindAt_0 rfl rfl ?_
  refine E_ldc2 (2696299 : Int64) dX12_kindAt_1 cl_X12_316 ?_
  obtain ⟨d1, v6, σ2, hD3, hC4, h⟩ := h
  have hs5 := hC4.1.2.2.2.1 hs
  refine E_callV (As := [.long (2696299 : Int64)]) (rest := []) (r1 := (some (.int v6))) (b := 124) dX12_kindAt_4 ok_X12_isWord in_X12_isWord se_X12_isWord ml_X12_243 hD3 rfl rfl (Nat.le_of_ble_eq_true rfl) (sk_124 hs) (sn hs (by decide)) (by decide) rfl (by decide +kernel) hC4 ?_
  refine E_if_eq 14 dX12_kindAt_7 (by decide) (fun c => ?_) (fun c => ?_)
  · rw [if_pos c] at h
    refine E_aload_n 0 dX12_kindAt_14 rfl rfl ?_
    refine E_ldc2 (20583596 : Int64) dX12_kindAt_15 cl_X12_318 ?_
    obtain ⟨d7, v12, σ8, hD9, hC10, h⟩ := h
    have hs11 := hC10.1.2.2.2.1 hs5
    refine E_callV (As := [.long (20583596 : Int64)]) (rest := []) (r1 := (some (.int v12))) (b := 124) dX12_kindAt_18 ok_X12_isWord in_X12_isWord se_X12_isWord ml_X12_243 hD9 rfl rfl (Nat.le_of_ble_eq_true rfl) (sk_124 hs5) (sn hs5 (by decide)) (by decide) rfl (by decide +kernel) hC10 ?_
    refine E_if_eq 28 dX12_kindAt_21 (by decide) (fun c => ?_) (fun c => ?_)
    · rw [if_pos c] at h
      refine E_aload_n 0 dX12_kindAt_28 rfl rfl ?_
      refine E_ldc2 (8884 : Int64) dX12_kindAt_29 cl_X12_320 ?_
      obtain ⟨d13, v18, σ14, hD15, hC16, h⟩ := h
      have hs17 := hC16.1.2.2.2.1 hs11
      refine E_callV (As := [.long (8884 : Int64)]) (rest := []) (r1 := (some (.int v18))) (b := 124) dX12_kindAt_32 ok_X12_isWord in_X12_isWord se_X12_isWord ml_X12_243 hD15 rfl rfl (Nat.le_of_ble_eq_true rfl) (sk_124 hs11) (sn hs11 (by decide)) (by decide) rfl (by decide +kernel) hC16 ?_
      refine E_if_eq 42 dX12_kindAt_35 (by decide) (fun c => ?_) (fun c => ?_)
      · rw [if_pos c] at h
        refine E_iconst (-1 : Int32) dX12_kindAt_42 (by decide) ?_
        obtain ⟨rfl, rfl⟩ := h
        exact E_iret dX12_kindAt_43 rfl
      · rw [if_neg c] at h
        refine E_iconst (2 : Int32) dX12_kindAt_38 (by decide) ?_
        refine E_goto 43 dX12_kindAt_39 (by decide) ?_
        obtain ⟨rfl, rfl⟩ := h
        exact E_iret dX12_kindAt_43 rfl
    · rw [if_neg c] at h
      refine E_iconst (1 : Int32) dX12_kindAt_24 (by decide) ?_
      refine E_goto 43 dX12_kindAt_25 (by decide) ?_
      obtain ⟨rfl, rfl⟩ := h
      exact E_iret dX12_kindAt_43 rfl
  · rw [if_neg c] at h
    refine E_iconst (0 : Int32) dX12_kindAt_10 (by decide) ?_
    refine E_goto 43 dX12_kindAt_11 (by decide) ?_
    obtain ⟨rfl, rfl⟩ := h
    exact E_iret dX12_kindAt_43 rfl
def W_X12_stageAt_0 (X : Sx) (l : Launch) (D : Nat) (σ : AH) (r : Option Value) (σ' : AH) : Prop := ∃ d1 : Nat, ∃ v6 : Int32, ∃ σ2 : AH, d1 + 1 ≤ D ∧ Call X l m_X12_isWord d1 [.ref 124, .long (67173 : Int64)] σ (some (.int v6)) σ2 ∧ (if v6 = 0 then ∃ d7 : Nat, ∃ v12 : Int32, ∃ σ8 : AH, d7 + 1 ≤ D ∧ Call X l m_X12_isWord d7 [.ref 124, .long (20190604 : Int64)] σ2 (some (.int v12)) σ8 ∧ (if v12 = 0 then ∃ d13 : Nat, ∃ v18 : Int32, ∃ σ14 : AH, d13 + 1 ≤ D ∧ Call X l m_X12_isWord d13 [.ref 124, .long (6452 : Int64)] σ8 (some (.int v18)) σ14 ∧ (if v18 = 0 then (r = some (.int (-1 : Int32)) ∧ σ' = σ14) else (r = some (.int (2 : Int32)) ∧ σ' = σ14)) else (r = some (.int (1 : Int32)) ∧ σ' = σ8)) else (r = some (.int (0 : Int32)) ∧ σ' = σ2))
set_option maxRecDepth 100000 in
theorem w_X12_stageAt_0 {X : Sx} {l : Launch} {D : Nat} {σ : AH} {r : Option Value} {σ' : AH} (hs : Sh σ) (h : W_X12_stageAt_0 X l D σ r σ') : E X l m_X12_stageAt D 0 [(0, .ref 124)] [] σ r σ' := by
  unfold W_X12_stageAt_0 at h
  refine E_aload_n 0 dX12_stageAt_0 rfl rfl ?_
  refine E_ldc2 (67173 : Int64) dX12_stageAt_1 cl_X12_322 ?_
  obtain ⟨d1, v6, σ2, hD3, hC4, h⟩ := h
  have hs5 := hC4.1.2.2.2.1 hs
  refine E_callV (As := [.long (67173 : Int64)]) (rest := []) (r1 := (some (.int v6))) (b := 124) dX12_stageAt_4 ok_X12_isWord in_X12_isWord se_X12_isWord ml_X12_243 hD3 rfl rfl (Nat.le_of_ble_eq_true rfl) (sk_124 hs) (sn hs (by decide)) (by decide) rfl (by decide +kernel) hC4 ?_
  refine E_if_eq 14 dX12_stageAt_7 (by decide) (fun c => ?_) (fun c => ?_)
  · rw [if_pos c] at h
    refine E_aload_n 0 dX12_stageAt_14 rfl rfl ?_
    refine E_ldc2 (20190604 : Int64) dX12_stageAt_15 cl_X12_324 ?_
    obtain ⟨d7, v12, σ8, hD9, hC10, h⟩ := h
    have hs11 := hC10.1.2.2.2.1 hs5
    refine E_callV (As := [.long (20190604 : Int64)]) (rest := []) (r1 := (some (.int v12))) (b := 124) dX12_stageAt_18 ok_X12_isWord in_X12_isWord se_X12_isWord ml_X12_243 hD9 rfl rfl (Nat.le_of_ble_eq_true rfl) (sk_124 hs5) (sn hs5 (by decide)) (by decide) rfl (by decide +kernel) hC10 ?_
    refine E_if_eq 28 dX12_stageAt_21 (by decide) (fun c => ?_) (fun c => ?_)
    · rw [if_pos c] at h
      refine E_aload_n 0 dX12_stageAt_28 rfl rfl ?_
      refine E_ldc2 (6452 : Int64) dX12_stageAt_29 cl_X12_326 ?_
      obtain ⟨d13, v18, σ14, hD15, hC16, h⟩ := h
      have hs17 := hC16.1.2.2.2.1 hs11
      refine E_callV (As := [.long (6452 : Int64)]) (rest := []) (r1 := (some (.int v18))) (b := 124) dX12_stageAt_32 ok_X12_isWord in_X12_isWord se_X12_isWord ml_X12_243 hD15 rfl rfl (Nat.le_of_ble_eq_true rfl) (sk_124 hs11) (sn hs11 (by decide)) (by decide) rfl (by decide +kernel) hC16 ?_
      refine E_if_eq 42 dX12_stageAt_35 (by decide) (fun c => ?_) (fun c => ?_)
      · rw [if_pos c] at h
        refine E_iconst (-1 : Int32) dX12_stageAt_42 (by decide) ?_
        obtain ⟨rfl, rfl⟩ := h
        exact E_iret dX12_stageAt_43 rfl
      · rw [if_neg c] at h
        refine E_iconst (2 : Int32) dX12_stageAt_38 (by decide) ?_
        refine E_goto 43 dX12_stageAt_39 (by decide) ?_
        obtain ⟨rfl, rfl⟩ := h
        exact E_iret dX12_stageAt_43 rfl
    · rw [if_neg c] at h
      refine E_iconst (1 : Int32) dX12_stageAt_24 (by decide) ?_
      refine E_goto 43 dX12_stageAt_25 (by decide) ?_
      obtain ⟨rfl, rfl⟩ := h
      exact E_iret dX12_stageAt_43 rfl
  · rw [if_neg c] at h
    refine E_iconst (0 : Int32) dX12_stageAt_10 (by decide) ?_
    refine E_goto 43 dX12_stageAt_11 (by decide) ?_
    obtain ⟨rfl, rfl⟩ := h
    exact E_iret dX12_stageAt_43 rfl
def W_X12_materialAt_0 (X : Sx) (l : Launch) (D : Nat) (σ : AH) (r : Option Value) (σ' : AH) : Prop := ∃ d1 : Nat, ∃ v6 : Int32, ∃ σ2 : AH, d1 + 1 ≤ D ∧ Call X l m_X12_isWord d1 [.ref 124, .long (86281587 : Int64)] σ (some (.int v6)) σ2 ∧ (if v6 = 0 then ∃ d7 : Nat, ∃ v12 : Int32, ∃ σ8 : AH, d7 + 1 ≤ D ∧ Call X l m_X12_isWord d7 [.ref 124, .long (680954034 : Int64)] σ2 (some (.int v12)) σ8 ∧ (if v12 = 0 then ∃ d13 : Nat, ∃ v18 : Int32, ∃ σ14 : AH, d13 + 1 ≤ D ∧ Call X l m_X12_isWord d13 [.ref 124, .long (20583596 : Int64)] σ8 (some (.int v18)) σ14 ∧ (if v18 = 0 then ∃ d19 : Nat, ∃ v24 : Int32, ∃ σ20 : AH, d19 + 1 ≤ D ∧ Call X l m_X12_isWord d19 [.ref 124, .long (113708 : Int64)] σ14 (some (.int v24)) σ20 ∧ (if v24 = 0 then ∃ d25 : Nat, ∃ v30 : Int32, ∃ σ26 : AH, d25 + 1 ≤ D ∧ Call X l m_X12_isWord d25 [.ref 124, .long (370323 : Int64)] σ20 (some (.int v30)) σ26 ∧ (if v30 = 0 then (r = some (.int (-1 : Int32)) ∧ σ' = σ26) else (r = some (.int (4 : Int32)) ∧ σ' = σ26)) else (r = some (.int (3 : Int32)) ∧ σ' = σ20)) else (r = some (.int (2 : Int32)) ∧ σ' = σ14)) else (r = some (.int (1 : Int32)) ∧ σ' = σ8)) else (r = some (.int (0 : Int32)) ∧ σ' = σ2))
set_option maxRecDepth 100000 in
theorem w_X12_materialAt_0 {X : Sx} {l : Launch} {D : Nat} {σ : AH} {r : Option Value} {σ' : AH} (hs : Sh σ) (h : W_X12_materialAt_0 X l D σ r σ') : E X l m_X12_materialAt D 0 [(0, .ref 124)] [] σ r σ' := by
  unfold W_X12_materialAt_0 at h
  refine E_aload_n 0 dX12_materialAt_0 rfl rfl ?_
  refine E_ldc2 (86281587 : Int64) dX12_materialAt_1 cl_X12_328 ?_
  obtain ⟨d1, v6, σ2, hD3, hC4, h⟩ := h
  have hs5 := hC4.1.2.2.2.1 hs
  refine E_callV (As := [.long (86281587 : Int64)]) (rest := []) (r1 := (some (.int v6))) (b := 124) dX12_materialAt_4 ok_X12_isWord in_X12_isWord se_X12_isWord ml_X12_243 hD3 rfl rfl (Nat.le_of_ble_eq_true rfl) (sk_124 hs) (sn hs (by decide)) (by decide) rfl (by decide +kernel) hC4 ?_
  refine E_if_eq 14 dX12_materialAt_7 (by decide) (fun c => ?_) (fun c => ?_)
  · rw [if_pos c] at h
    refine E_aload_n 0 dX12_materialAt_14 rfl rfl ?_
    refine E_ldc2 (680954034 : Int64) dX12_materialAt_15 cl_X12_330 ?_
    obtain ⟨d7, v12, σ8, hD9, hC10, h⟩ := h
    have hs11 := hC10.1.2.2.2.1 hs5
    refine E_callV (As := [.long (680954034 : Int64)]) (rest := []) (r1 := (some (.int v12))) (b := 124) dX12_materialAt_18 ok_X12_isWord in_X12_isWord se_X12_isWord ml_X12_243 hD9 rfl rfl (Nat.le_of_ble_eq_true rfl) (sk_124 hs5) (sn hs5 (by decide)) (by decide) rfl (by decide +kernel) hC10 ?_
    refine E_if_eq 28 dX12_materialAt_21 (by decide) (fun c => ?_) (fun c => ?_)
    · rw [if_pos c] at h
      refine E_aload_n 0 dX12_materialAt_28 rfl rfl ?_
      refine E_ldc2 (20583596 : Int64) dX12_materialAt_29 cl_X12_318 ?_
      obtain ⟨d13, v18, σ14, hD15, hC16, h⟩ := h
      have hs17 := hC16.1.2.2.2.1 hs11
      refine E_callV (As := [.long (20583596 : Int64)]) (rest := []) (r1 := (some (.int v18))) (b := 124) dX12_materialAt_32 ok_X12_isWord in_X12_isWord se_X12_isWord ml_X12_243 hD15 rfl rfl (Nat.le_of_ble_eq_true rfl) (sk_124 hs11) (sn hs11 (by decide)) (by decide) rfl (by decide +kernel) hC16 ?_
      refine E_if_eq 42 dX12_materialAt_35 (by decide) (fun c => ?_) (fun c => ?_)
      · rw [if_pos c] at h
        refine E_aload_n 0 dX12_materialAt_42 rfl rfl ?_
        refine E_ldc2 (113708 : Int64) dX12_materialAt_43 cl_X12_332 ?_
        obtain ⟨d19, v24, σ20, hD21, hC22, h⟩ := h
        have hs23 := hC22.1.2.2.2.1 hs17
        refine E_callV (As := [.long (113708 : Int64)]) (rest := []) (r1 := (some (.int v24))) (b := 124) dX12_materialAt_46 ok_X12_isWord in_X12_isWord se_X12_isWord ml_X12_243 hD21 rfl rfl (Nat.le_of_ble_eq_true rfl) (sk_124 hs17) (sn hs17 (by decide)) (by decide) rfl (by decide +kernel) hC22 ?_
        refine E_if_eq 56 dX12_materialAt_49 (by decide) (fun c => ?_) (fun c => ?_)
        · rw [if_pos c] at h
          refine E_aload_n 0 dX12_materialAt_56 rfl rfl ?_
          refine E_ldc2 (370323 : Int64) dX12_materialAt_57 cl_X12_334 ?_
          obtain ⟨d25, v30, σ26, hD27, hC28, h⟩ := h
          have hs29 := hC28.1.2.2.2.1 hs23
          refine E_callV (As := [.long (370323 : Int64)]) (rest := []) (r1 := (some (.int v30))) (b := 124) dX12_materialAt_60 ok_X12_isWord in_X12_isWord se_X12_isWord ml_X12_243 hD27 rfl rfl (Nat.le_of_ble_eq_true rfl) (sk_124 hs23) (sn hs23 (by decide)) (by decide) rfl (by decide +kernel) hC28 ?_
          refine E_if_eq 70 dX12_materialAt_63 (by decide) (fun c => ?_) (fun c => ?_)
          · rw [if_pos c] at h
            refine E_iconst (-1 : Int32) dX12_materialAt_70 (by decide) ?_
            obtain ⟨rfl, rfl⟩ := h
            exact E_iret dX12_materialAt_71 rfl
          · rw [if_neg c] at h
            refine E_iconst (4 : Int32) dX12_materialAt_66 (by decide) ?_
            refine E_goto 71 dX12_materialAt_67 (by decide) ?_
            obtain ⟨rfl, rfl⟩ := h
            exact E_iret dX12_materialAt_71 rfl
        · rw [if_neg c] at h
          refine E_iconst (3 : Int32) dX12_materialAt_52 (by decide) ?_
          refine E_goto 71 dX12_materialAt_53 (by decide) ?_
          obtain ⟨rfl, rfl⟩ := h
          exact E_iret dX12_materialAt_71 rfl
      · rw [if_neg c] at h
        refine E_iconst (2 : Int32) dX12_materialAt_38 (by decide) ?_
        refine E_goto 71 dX12_materialAt_39 (by decide) ?_
        obtain ⟨rfl, rfl⟩ := h
        exact E_iret dX12_materialAt_71 rfl
    · rw [if_neg c] at h
      refine E_iconst (1 : Int32) dX12_materialAt_24 (by decide) ?_
      refine E_goto 71 dX12_materialAt_25 (by decide) ?_
      obtain ⟨rfl, rfl⟩ := h
      exact E_iret dX12_materialAt_71 rfl
  · rw [if_neg c] at h
    refine E_iconst (0 : Int32) dX12_materialAt_10 (by decide) ?_
    refine E_goto 71 dX12_materialAt_11 (by decide) ?_
    obtain ⟨rfl, rfl⟩ := h
    exact E_iret dX12_materialAt_71 rfl
def W_X12_headAt_114 (X : Sx) (l : Launch) (D : Nat) (σ : AH) (r : Option Value) (σ' : AH) : Prop := ∃ d67 : Nat, ∃ v72 : Int32, ∃ σ68 : AH, d67 + 1 ≤ D ∧ Call X l m_X12_isWord d67 [.ref 124, .long (13190215781 : Int64)] σ (some (.int v72)) σ68 ∧ (if v72 = 0 then ∃ d73 : Nat, ∃ v78 : Int32, ∃ σ74 : AH, d73 + 1 ≤ D ∧ Call X l m_X12_isWord d73 [.ref 124, .long (595412 : Int64)] σ68 (some (.int v78)) σ74 ∧ (if v78 = 0 then (r = some (.int (6 : Int32)) ∧ σ' = σ74) else (r = some (.int (5 : Int32)) ∧ σ' = σ74)) else (r = some (.int (4 : Int32)) ∧ σ' = σ68))
set_option maxRecDepth 100000 in
theorem w_X12_headAt_114 {X : Sx} {l : Launch} {D : Nat} {σ : AH} {r : Option Value} {σ' : AH} (hs : Sh σ) (h : W_X12_headAt_114 X l D σ r σ') : E X l m_X12_headAt D 114 [(0, .ref 124)] [] σ r σ' := by
  unfold W_X12_headAt_114 at h
  refine E_aload_n 0 dX12_headAt_114 rfl rfl ?_
  refine E_ldc2 (13190215781 : Int64) dX12_headAt_115 cl_X12_344 ?_
  obtain ⟨d67, v72, σ68, hD69, hC70, h⟩ := h
  have hs71 := hC70.1.2.2.2.1 hs
  refine E_callV (As := [.long (13190215781 : Int64)]) (rest := []) (r1 := (some (.int v72))) (b := 124) dX12_headAt_118 ok_X12_isWord in_X12_isWord se_X12_isWord ml_X12_243 hD69 rfl rfl (Nat.le_of_ble_eq_true rfl) (sk_124 hs) (sn hs (by decide)) (by decide) rfl (by decide +kernel) hC70 ?_
  refine E_if_eq 128 dX12_headAt_121 (by decide) (fun c => ?_) (fun c => ?_)
  · rw [if_pos c] at h
    refine E_aload_n 0 dX12_headAt_128 rfl rfl ?_
    refine E_ldc2 (595412 : Int64) dX12_headAt_129 cl_X12_346 ?_
    obtain ⟨d73, v78, σ74, hD75, hC76, h⟩ := h
    have hs77 := hC76.1.2.2.2.1 hs71
    refine E_callV (As := [.long (595412 : Int64)]) (rest := []) (r1 := (some (.int v78))) (b := 124) dX12_headAt_132 ok_X12_isWord in_X12_isWord se_X12_isWord ml_X12_243 hD75 rfl rfl (Nat.le_of_ble_eq_true rfl) (sk_124 hs71) (sn hs71 (by decide)) (by decide) rfl (by decide +kernel) hC76 ?_
    refine E_if_eq 142 dX12_headAt_135 (by decide) (fun c => ?_) (fun c => ?_)
    · rw [if_pos c] at h
      refine E_bipush (6 : Int32) dX12_headAt_142 (by decide) ?_
      obtain ⟨rfl, rfl⟩ := h
      exact E_iret dX12_headAt_144 rfl
    · rw [if_neg c] at h
      refine E_iconst (5 : Int32) dX12_headAt_138 (by decide) ?_
      refine E_goto 144 dX12_headAt_139 (by decide) ?_
      obtain ⟨rfl, rfl⟩ := h
      exact E_iret dX12_headAt_144 rfl
  · rw [if_neg c] at h
    refine E_iconst (4 : Int32) dX12_headAt_124 (by decide) ?_
    refine E_goto 144 dX12_headAt_125 (by decide) ?_
    obtain ⟨rfl, rfl⟩ := h
    exact E_iret dX12_headAt_144 rfl
def W_X12_headAt_155 (X : Sx) (l : Launch) (D : Nat) (σ : AH) (r : Option Value) (σ' : AH) : Prop := (r = some (.int (7 : Int32)) ∧ σ' = σ)
set_option maxRecDepth 100000 in
theorem w_X12_headAt_155 {X : Sx} {l : Launch} {D : Nat} {σ : AH} {r : Option Value} {σ' : AH} (hs : Sh σ) (h : W_X12_headAt_155 X l D σ r σ') : E X l m_X12_headAt D 155 [] [] σ r σ' := by
  unfold W_X12_headAt_155 at h
  refine E_bipush (7 : Int32) dX12_headAt_155 (by decide) ?_
  refine E_goto 176 dX12_headAt_157 (by decide) ?_
  obtain ⟨rfl, rfl⟩ := h
  exact E_iret dX12_headAt_176 rfl
def W_X12_headAt_160 (X : Sx) (l : Launch) (D : Nat) (σ : AH) (r : Option Value) (σ' : AH) : Prop := ∃ d79 : Nat, ∃ v84 : Int32, ∃ σ80 : AH, d79 + 1 ≤ D ∧ Call X l m_X12_isWord d79 [.ref 124, .long (6605428 : Int64)] σ (some (.int v84)) σ80 ∧ (if v84 = 0 then (r = some (.int (-1 : Int32)) ∧ σ' = σ80) else (r = some (.int (8 : Int32)) ∧ σ' = σ80))
set_option maxRecDepth 100000 in
theorem w_X12_headAt_160 {X : Sx} {l : Launch} {D : Nat} {σ : AH} {r : Option Value} {σ' : AH} (hs : Sh σ) (h : W_X12_headAt_160 X l D σ r σ') : E X l m_X12_headAt D 160 [(0, .ref 124)] [] σ r σ' := by
  unfold W_X12_headAt_160 at h
  refine E_aload_n 0 dX12_headAt_160 rfl rfl ?_
  refine E_ldc2 (6605428 : Int64) dX12_headAt_161 cl_X12_352 ?_
  obtain ⟨d79, v84, σ80, hD81, hC82, h⟩ := h
  have hs83 := hC82.1.2.2.2.1 hs
  refine E_callV (As := [.long (6605428 : Int64)]) (rest := []) (r1 := (some (.int v84))) (b := 124) dX12_headAt_164 ok_X12_isWord in_X12_isWord se_X12_isWord ml_X12_243 hD81 rfl rfl (Nat.le_of_ble_eq_true rfl) (sk_124 hs) (sn hs (by decide)) (by decide) rfl (by decide +kernel) hC82 ?_
  refine E_if_eq 175 dX12_headAt_167 (by decide) (fun c => ?_) (fun c => ?_)
  · rw [if_pos c] at h
    refine E_iconst (-1 : Int32) dX12_headAt_175 (by decide) ?_
    obtain ⟨rfl, rfl⟩ := h
    exact E_iret dX12_headAt_176 rfl
  · rw [if_neg c] at h
    refine E_bipush (8 : Int32) dX12_headAt_170 (by decide) ?_
    refine E_goto 176 dX12_headAt_172 (by decide) ?_
    obtain ⟨rfl, rfl⟩ := h
    exact E_iret dX12_headAt_176 rfl
def W_X12_headAt_40 (X : Sx) (l : Launch) (D : Nat) (σ : AH) (r : Option Value) (σ' : AH) : Prop := ∃ d49 : Nat, ∃ v54 : Int32, ∃ σ50 : AH, d49 + 1 ≤ D ∧ Call X l m_X12_isWord d49 [.ref 124, .long (659105125 : Int64)] σ (some (.int v54)) σ50 ∧ (if v54 = 0 then ∃ d55 : Nat, ∃ v60 : Int32, ∃ σ56 : AH, d55 + 1 ≤ D ∧ Call X l m_X12_isWord d55 [.ref 124, .long (464036 : Int64)] σ50 (some (.int v60)) σ56 ∧ (if v60 = 0 then ∃ d61 : Nat, ∃ v66 : Int32, ∃ σ62 : AH, d61 + 1 ≤ D ∧ Call X l m_X12_isWord d61 [.ref 124, .long (769611 : Int64)] σ56 (some (.int v66)) σ62 ∧ (if v66 = 0 then (r = some (.int (3 : Int32)) ∧ σ' = σ62) else (r = some (.int (2 : Int32)) ∧ σ' = σ62)) else (r = some (.int (1 : Int32)) ∧ σ' = σ56)) else (r = some (.int (0 : Int32)) ∧ σ' = σ50))
set_option maxRecDepth 100000 in
theorem w_X12_headAt_40 {X : Sx} {l : Launch} {D : Nat} {σ : AH} {r : Option Value} {σ' : AH} (hs : Sh σ) (h : W_X12_headAt_40 X l D σ r σ') : E X l m_X12_headAt D 40 [(0, .ref 124)] [] σ r σ' := by
  unfold W_X12_headAt_40 at h
  refine E_aload_n 0 dX12_headAt_40 rfl rfl ?_
  refine E_ldc2 (659105125 : Int64) dX12_headAt_41 cl_X12_336 ?_
  obtain ⟨d49, v54, σ50, hD51, hC52, h⟩ := h
  have hs53 := hC52.1.2.2.2.1 hs
  refine E_callV (As := [.long (659105125 : Int64)]) (rest := []) (r1 := (some (.int v54))) (b := 124) dX12_headAt_44 ok_X12_isWord in_X12_isWord se_X12_isWord ml_X12_243 hD51 rfl rfl (Nat.le_of_ble_eq_true rfl) (sk_124 hs) (sn hs (by decide)) (by decide) rfl (by decide +kernel) hC52 ?_
  refine E_if_eq 54 dX12_headAt_47 (by decide) (fun c => ?_) (fun c => ?_)
  · rw [if_pos c] at h
    refine E_aload_n 0 dX12_headAt_54 rfl rfl ?_
    refine E_ldc2 (464036 : Int64) dX12_headAt_55 cl_X12_338 ?_
    obtain ⟨d55, v60, σ56, hD57, hC58, h⟩ := h
    have hs59 := hC58.1.2.2.2.1 hs53
    refine E_callV (As := [.long (464036 : Int64)]) (rest := []) (r1 := (some (.int v60))) (b := 124) dX12_headAt_58 ok_X12_isWord in_X12_isWord se_X12_isWord ml_X12_243 hD57 rfl rfl (Nat.le_of_ble_eq_true rfl) (sk_124 hs53) (sn hs53 (by decide)) (by decide) rfl (by decide +kernel) hC58 ?_
    refine E_if_eq 68 dX12_headAt_61 (by decide) (fun c => ?_) (fun c => ?_)
    · rw [if_pos c] at h
      refine E_aload_n 0 dX12_headAt_68 rfl rfl ?_
      refine E_ldc2 (769611 : Int64) dX12_headAt_69 cl_X12_340 ?_
      obtain ⟨d61, v66, σ62, hD63, hC64, h⟩ := h
      have hs65 := hC64.1.2.2.2.1 hs59
      refine E_callV (As := [.long (769611 : Int64)]) (rest := []) (r1 := (some (.int v66))) (b := 124) dX12_headAt_72 ok_X12_isWord in_X12_isWord se_X12_isWord ml_X12_243 hD63 rfl rfl (Nat.le_of_ble_eq_true rfl) (sk_124 hs59) (sn hs59 (by decide)) (by decide) rfl (by decide +kernel) hC64 ?_
      refine E_if_eq 82 dX12_headAt_75 (by decide) (fun c => ?_) (fun c => ?_)
      · rw [if_pos c] at h
        refine E_iconst (3 : Int32) dX12_headAt_82 (by decide) ?_
        obtain ⟨rfl, rfl⟩ := h
        exact E_iret dX12_headAt_83 rfl
      · rw [if_neg c] at h
        refine E_iconst (2 : Int32) dX12_headAt_78 (by decide) ?_
        refine E_goto 83 dX12_headAt_79 (by decide) ?_
        obtain ⟨rfl, rfl⟩ := h
        exact E_iret dX12_headAt_83 rfl
    · rw [if_neg c] at h
      refine E_iconst (1 : Int32) dX12_headAt_64 (by decide) ?_
      refine E_goto 83 dX12_headAt_65 (by decide) ?_
      obtain ⟨rfl, rfl⟩ := h
      exact E_iret dX12_headAt_83 rfl
  · rw [if_neg c] at h
    refine E_iconst (0 : Int32) dX12_headAt_50 (by decide) ?_
    refine E_goto 83 dX12_headAt_51 (by decide) ?_
    obtain ⟨rfl, rfl⟩ := h
    exact E_iret dX12_headAt_83 rfl
def W_X12_headAt_0 (X : Sx) (l : Launch) (D : Nat) (σ : AH) (r : Option Value) (σ' : AH) : Prop := ∃ d1 : Nat, ∃ v6 : Int32, ∃ σ2 : AH, d1 + 1 ≤ D ∧ Call X l m_X12_isWord d1 [.ref 124, .long (659105125 : Int64)] σ (some (.int v6)) σ2 ∧ (if v6 = 0 then ∃ d7 : Nat, ∃ v12 : Int32, ∃ σ8 : AH, d7 + 1 ≤ D ∧ Call X l m_X12_isWord d7 [.ref 124, .long (464036 : Int64)] σ2 (some (.int v12)) σ8 ∧ (if v12 = 0 then ∃ d13 : Nat, ∃ v18 : Int32, ∃ σ14 : AH, d13 + 1 ≤ D ∧ Call X l m_X12_isWord d13 [.ref 124, .long (769611 : Int64)] σ8 (some (.int v18)) σ14 ∧ (if v18 = 0 then ∃ d19 : Nat, ∃ v24 : Int32, ∃ σ20 : AH, d19 + 1 ≤ D ∧ Call X l m_X12_isWord d19 [.ref 124, .long (552909459 : Int64)] σ14 (some (.int v24)) σ20 ∧ (if v24 = 0 then ∃ d25 : Nat, ∃ v30 : Int32, ∃ σ26 : AH, d25 + 1 ≤ D ∧ Call X l m_X12_isWord d25 [.ref 124, .long (13190215781 : Int64)] σ20 (some (.int v30)) σ26 ∧ (if v30 = 0 then ∃ d31 : Nat, ∃ v36 : Int32, ∃ σ32 : AH, d31 + 1 ≤ D ∧ Call X l m_X12_isWord d31 [.ref 124, .long (595412 : Int64)] σ26 (some (.int v36)) σ32 ∧ (if v36 = 0 then ∃ d37 : Nat, ∃ v42 : Int32, ∃ σ38 : AH, d37 + 1 ≤ D ∧ Call X l m_X12_isWord d37 [.ref 124, .long (284307 : Int64)] σ32 (some (.int v42)) σ38 ∧ (if v42 = 0 then ∃ d43 : Nat, ∃ v48 : Int32, ∃ σ44 : AH, d43 + 1 ≤ D ∧ Call X l m_X12_isWord d43 [.ref 124, .long (20501556 : Int64)] σ38 (some (.int v48)) σ44 ∧ (if v48 = 0 then W_X12_headAt_160 X l D σ44 r σ' else W_X12_headAt_155 X l D σ44 r σ') else W_X12_headAt_114 X l D σ38 r σ') else W_X12_headAt_114 X l D σ32 r σ') else W_X12_headAt_114 X l D σ26 r σ') else W_X12_headAt_40 X l D σ20 r σ') else W_X12_headAt_40 X l D σ14 r σ') else W_X12_headAt_40 X l D σ8 r σ') else W_X12_headAt_40 X l D σ2 r σ')
set_option maxRecDepth 100000 in
theorem w_X12_headAt_0 {X : Sx} {l : Launch} {D : Nat} {σ : AH} {r : Option Value} {σ' : AH} (hs : Sh σ) (h : W_X12_headAt_0 X l D σ r σ') : E X l m_X12_headAt D 0 [(0, .ref 124)] [] σ r σ' := by
  unfold W_X12_headAt_0 at h
  refine E_aload_n 0 dX12_headAt_0 rfl rfl ?_
  refine E_ldc2 (659105125 : Int64) dX12_headAt_1 cl_X12_336 ?_
  obtain ⟨d1, v6, σ2, hD3, hC4, h⟩ := h
  have hs5 := hC4.1.2.2.2.1 hs
  refine E_callV (As := [.long (659105125 : Int64)]) (rest := []) (r1 := (some (.int v6))) (b := 124) dX12_headAt_4 ok_X12_isWord in_X12_isWord se_X12_isWord ml_X12_243 hD3 rfl rfl (Nat.le_of_ble_eq_true rfl) (sk_124 hs) (sn hs (by decide)) (by decide) rfl (by decide +kernel) hC4 ?_
  refine E_if_ne 40 dX12_headAt_7 (by decide) (fun c => ?_) (fun c => ?_)
  · rw [if_neg c] at h
    exact E_lv [0] rfl (w_X12_headAt_40 hs5 h)
  · rw [if_pos c] at h
    refine E_aload_n 0 dX12_headAt_10 rfl rfl ?_
    refine E_ldc2 (464036 : Int64) dX12_headAt_11 cl_X12_338 ?_
    obtain ⟨d7, v12, σ8, hD9, hC10, h⟩ := h
    have hs11 := hC10.1.2.2.2.1 hs5
    refine E_callV (As := [.long (464036 : Int64)]) (rest := []) (r1 := (some (.int v12))) (b := 124) dX12_headAt_14 ok_X12_isWord in_X12_isWord se_X12_isWord ml_X12_243 hD9 rfl rfl (Nat.le_of_ble_eq_true rfl) (sk_124 hs5) (sn hs5 (by decide)) (by decide) rfl (by decide +kernel) hC10 ?_
    refine E_if_ne 40 dX12_headAt_17 (by decide) (fun c => ?_) (fun c => ?_)
    · rw [if_neg c] at h
      exact E_lv [0] rfl (w_X12_headAt_40 hs11 h)
    · rw [if_pos c] at h
      refine E_aload_n 0 dX12_headAt_20 rfl rfl ?_
      refine E_ldc2 (769611 : Int64) dX12_headAt_21 cl_X12_340 ?_
      obtain ⟨d13, v18, σ14, hD15, hC16, h⟩ := h
      have hs17 := hC16.1.2.2.2.1 hs11
      refine E_callV (As := [.long (769611 : Int64)]) (rest := []) (r1 := (some (.int v18))) (b := 124) dX12_headAt_24 ok_X12_isWord in_X12_isWord se_X12_isWord ml_X12_243 hD15 rfl rfl (Nat.le_of_ble_eq_true rfl) (sk_124 hs11) (sn hs11 (by decide)) (by decide) rfl (by decide +kernel) hC16 ?_
      refine E_if_ne 40 dX12_headAt_27 (by decide) (fun c => ?_) (fun c => ?_)
      · rw [if_neg c] at h
        exact E_lv [0] rfl (w_X12_headAt_40 hs17 h)
      · rw [if_pos c] at h
        refine E_aload_n 0 dX12_headAt_30 rfl rfl ?_
        refine E_ldc2 (552909459 : Int64) dX12_headAt_31 cl_X12_342 ?_
        obtain ⟨d19, v24, σ20, hD21, hC22, h⟩ := h
        have hs23 := hC22.1.2.2.2.1 hs17
        refine E_callV (As := [.long (552909459 : Int64)]) (rest := []) (r1 := (some (.int v24))) (b := 124) dX12_headAt_34 ok_X12_isWord in_X12_isWord se_X12_isWord ml_X12_243 hD21 rfl rfl (Nat.le_of_ble_eq_true rfl) (sk_124 hs17) (sn hs17 (by decide)) (by decide) rfl (by decide +kernel) hC22 ?_
        refine E_if_eq 84 dX12_headAt_37 (by decide) (fun c => ?_) (fun c => ?_)
        · rw [if_pos c] at h
          refine E_aload_n 0 dX12_headAt_84 rfl rfl ?_
          refine E_ldc2 (13190215781 : Int64) dX12_headAt_85 cl_X12_344 ?_
          obtain ⟨d25, v30, σ26, hD27, hC28, h⟩ := h
          have hs29 := hC28.1.2.2.2.1 hs23
          refine E_callV (As := [.long (13190215781 : Int64)]) (rest := []) (r1 := (some (.int v30))) (b := 124) dX12_headAt_88 ok_X12_isWord in_X12_isWord se_X12_isWord ml_X12_243 hD27 rfl rfl (Nat.le_of_ble_eq_true rfl) (sk_124 hs23) (sn hs23 (by decide)) (by decide) rfl (by decide +kernel) hC28 ?_
          refine E_if_ne 114 dX12_headAt_91 (by decide) (fun c => ?_) (fun c => ?_)
          · rw [if_neg c] at h
            exact E_lv [0] rfl (w_X12_headAt_114 hs29 h)
          · rw [if_pos c] at h
            refine E_aload_n 0 dX12_headAt_94 rfl rfl ?_
            refine E_ldc2 (595412 : Int64) dX12_headAt_95 cl_X12_346 ?_
            obtain ⟨d31, v36, σ32, hD33, hC34, h⟩ := h
            have hs35 := hC34.1.2.2.2.1 hs29
            refine E_callV (As := [.long (595412 : Int64)]) (rest := []) (r1 := (some (.int v36))) (b := 124) dX12_headAt_98 ok_X12_isWord in_X12_isWord se_X12_isWord ml_X12_243 hD33 rfl rfl (Nat.le_of_ble_eq_true rfl) (sk_124 hs29) (sn hs29 (by decide)) (by decide) rfl (by decide +kernel) hC34 ?_
            refine E_if_ne 114 dX12_headAt_101 (by decide) (fun c => ?_) (fun c => ?_)
            · rw [if_neg c] at h
              exact E_lv [0] rfl (w_X12_headAt_114 hs35 h)
            · rw [if_pos c] at h
              refine E_aload_n 0 dX12_headAt_104 rfl rfl ?_
              refine E_ldc2 (284307 : Int64) dX12_headAt_105 cl_X12_348 ?_
              obtain ⟨d37, v42, σ38, hD39, hC40, h⟩ := h
              have hs41 := hC40.1.2.2.2.1 hs35
              refine E_callV (As := [.long (284307 : Int64)]) (rest := []) (r1 := (some (.int v42))) (b := 124) dX12_headAt_108 ok_X12_isWord in_X12_isWord se_X12_isWord ml_X12_243 hD39 rfl rfl (Nat.le_of_ble_eq_true rfl) (sk_124 hs35) (sn hs35 (by decide)) (by decide) rfl (by decide +kernel) hC40 ?_
              refine E_if_eq 145 dX12_headAt_111 (by decide) (fun c => ?_) (fun c => ?_)
              · rw [if_pos c] at h
                refine E_aload_n 0 dX12_headAt_145 rfl rfl ?_
                refine E_ldc2 (20501556 : Int64) dX12_headAt_146 cl_X12_350 ?_
                obtain ⟨d43, v48, σ44, hD45, hC46, h⟩ := h
                have hs47 := hC46.1.2.2.2.1 hs41
                refine E_callV (As := [.long (20501556 : Int64)]) (rest := []) (r1 := (some (.int v48))) (b := 124) dX12_headAt_149 ok_X12_isWord in_X12_isWord se_X12_isWord ml_X12_243 hD45 rfl rfl (Nat.le_of_ble_eq_true rfl) (sk_124 hs41) (sn hs41 (by decide)) (by decide) rfl (by decide +kernel) hC46 ?_
                refine E_if_eq 160 dX12_headAt_152 (by decide) (fun c => ?_) (fun c => ?_)
                · rw [if_pos c] at h
                  exact E_lv [0] rfl (w_X12_headAt_160 hs47 h)
                · rw [if_neg c] at h
                  exact E_lv [] rfl (w_X12_headAt_155 hs47 h)
              · rw [if_neg c] at h
                exact E_lv [0] rfl (w_X12_headAt_114 hs41 h)
        · rw [if_neg c] at h
          exact E_lv [0] rfl (w_X12_headAt_40 hs23 h)
def W_X12_choice_11 (X : Sx) (l : Launch) (D : Nat) (x1 : Int32) (y0 : Int32) (σ : AH) (r : Option Value) (σ' : AH) : Prop := ∃ d1 : Nat, ∃ σ2 : AH, d1 + 1 ≤ D ∧ Call X l m_X12_must d1 [.ref 124, .int y0] σ none σ2 ∧ (r = some (.int x1) ∧ σ' = σ2)
set_option maxRecDepth 100000 in
theorem w_X12_choice_11 {X : Sx} {l : Launch} {D : Nat} {x1 : Int32} {y0 : Int32} {σ : AH} {r : Option Value} {σ' : AH} (hs : Sh σ) (h : W_X12_choice_11 X l D x1 y0 σ r σ') : E X l m_X12_choice D 11 [(1, .int x1)] [.int y0, .ref 124] σ r σ' := by
  unfold W_X12_choice_11 at h
  obtain ⟨d1, σ2, hD3, hC4, h⟩ := h
  have hs5 := hC4.1.2.2.2.1 hs
  refine E_callV (As := [.int y0]) (rest := []) (r1 := none) (b := 124) dX12_choice_11 ok_X12_must in_X12_must se_X12_must ml_X12_216 hD3 rfl rfl (Nat.le_of_ble_eq_true rfl) (sk_124 hs) (sn hs (by decide)) (by decide) rfl (by decide +kernel) hC4 ?_
  refine E_iload_n 0 dX12_choice_14 rfl rfl ?_
  obtain ⟨rfl, rfl⟩ := h
  exact E_iret dX12_choice_15 rfl
def W_X12_choice_0 (X : Sx) (l : Launch) (D : Nat) (x1 : Int32) (σ : AH) (r : Option Value) (σ' : AH) : Prop := (if x1 = (-1 : Int32) then W_X12_choice_11 X l D x1 (0 : Int32) σ r σ' else W_X12_choice_11 X l D x1 (1 : Int32) σ r σ')
set_option maxRecDepth 100000 in
theorem w_X12_choice_0 {X : Sx} {l : Launch} {D : Nat} {x1 : Int32} {σ : AH} {r : Option Value} {σ' : AH} (hs : Sh σ) (h : W_X12_choice_0 X l D x1 σ r σ') : E X l m_X12_choice D 0 [(0, .ref 124), (1, .int x1)] [] σ r σ' := by
  unfold W_X12_choice_0 at h
  refine E_aload_n 0 dX12_choice_0 rfl rfl ?_
  refine E_iload_n 1 dX12_choice_1 rfl rfl ?_
  refine E_iconst (-1 : Int32) dX12_choice_2 (by decide) ?_
  refine E_icmp_eq 10 dX12_choice_3 (by decide) (fun c => ?_) (fun c => ?_)
  · rw [if_pos c] at h
    refine E_iconst (0 : Int32) dX12_choice_10 (by decide) ?_
    exact E_lv [1] rfl (w_X12_choice_11 hs h)
  · rw [if_neg c] at h
    refine E_iconst (1 : Int32) dX12_choice_6 (by decide) ?_
    refine E_goto 11 dX12_choice_7 (by decide) ?_
    exact E_lv [1] rfl (w_X12_choice_11 hs h)
def W_X12_readClause_25 (X : Sx) (l : Launch) (D : Nat) (x1 : Int32) (y0 : Int32) (σ : AH) (r : Option Value) (σ' : AH) : Prop := ∃ d7 : Nat, ∃ σ8 : AH, d7 + 1 ≤ D ∧ Call X l m_X12_must d7 [.ref 124, .int y0] σ none σ8 ∧ (if (gI σ8 124 12) = 0 then E X l m_X12_readClause D 46 [(0, .ref 124), (1, .int x1), (2, .int ((9 : Int32) * (gI σ8 124 13))), (3, .int (0 : Int32))] [] σ8 r σ' else (r = none ∧ σ' = σ8))
set_option maxRecDepth 100000 in
theorem w_X12_readClause_25 {X : Sx} {l : Launch} {D : Nat} {x1 : Int32} {y0 : Int32} {σ : AH} {r : Option Value} {σ' : AH} (hs : Sh σ) (h : W_X12_readClause_25 X l D x1 y0 σ r σ') : E X l m_X12_readClause D 25 [(0, .ref 124), (1, .int x1)] [.int y0, .ref 124] σ r σ' := by
  unfold W_X12_readClause_25 at h
  obtain ⟨d7, σ8, hD9, hC10, h⟩ := h
  have hs11 := hC10.1.2.2.2.1 hs
  refine E_callV (As := [.int y0]) (rest := []) (r1 := none) (b := 124) dX12_readClause_25 ok_X12_must in_X12_must se_X12_must ml_X12_216 hD9 rfl rfl (Nat.le_of_ble_eq_true rfl) (sk_124 hs) (sn hs (by decide)) (by decide) rfl (by decide +kernel) hC10 ?_
  refine E_aload_n 0 dX12_readClause_28 rfl rfl ?_
  refine E_getI dX12_readClause_29 fl_X12_180 rfl (sk_124 hs11) (sn hs11 (by decide)) ?_
  refine E_if_eq 36 dX12_readClause_32 (by decide) (fun c => ?_) (fun c => ?_)
  · rw [if_pos c] at h
    refine E_bipush (9 : Int32) dX12_readClause_36 (by decide) ?_
    refine E_aload_n 0 dX12_readClause_38 rfl rfl ?_
    refine E_getI dX12_readClause_39 fl_X12_357 rfl (sk_124 hs11) (sn hs11 (by decide)) ?_
    refine E_imul dX12_readClause_42 ?_
    refine E_istore_n [(2, .int ((9 : Int32) * (gI σ8 124 13))), (0, .ref 124), (1, .int x1)] dX12_readClause_43 rfl (by decide) rfl ?_
    refine E_iconst (0 : Int32) dX12_readClause_44 (by decide) ?_
    refine E_istore_n [(3, .int (0 : Int32)), (2, .int ((9 : Int32) * (gI σ8 124 13))), (0, .ref 124), (1, .int x1)] dX12_readClause_45 rfl (by decide) rfl ?_
    exact E_lv [2, 3, 1, 0] rfl h
  · rw [if_neg c] at h
    obtain ⟨rfl, rfl⟩ := h
    exact E_vret dX12_readClause_35 rfl
def W_X12_readClause_24 (X : Sx) (l : Launch) (D : Nat) (x1 : Int32) (σ : AH) (r : Option Value) (σ' : AH) : Prop := W_X12_readClause_25 X l D x1 (0 : Int32) σ r σ'
set_option maxRecDepth 100000 in
theorem w_X12_readClause_24 {X : Sx} {l : Launch} {D : Nat} {x1 : Int32} {σ : AH} {r : Option Value} {σ' : AH} (hs : Sh σ) (h : W_X12_readClause_24 X l D x1 σ r σ') : E X l m_X12_readClause D 24 [(0, .ref 124), (1, .int x1)] [.ref 124] σ r σ' := by
  unfold W_X12_readClause_24 at h
  refine E_iconst (0 : Int32) dX12_readClause_24 (by decide) ?_
  exact E_lv [0, 1] rfl (w_X12_readClause_25 hs h)
def W_X12_readClause_0 (X : Sx) (l : Launch) (D : Nat) (σ : AH) (r : Option Value) (σ' : AH) : Prop := ∃ d1 : Nat, ∃ v6 : Int32, ∃ σ2 : AH, d1 + 1 ≤ D ∧ Call X l m_X12_headAt d1 [.ref 124] σ (some (.int v6)) σ2 ∧ (if v6 = (-1 : Int32) then W_X12_readClause_24 X l D v6 σ2 r σ' else (if (16 : Int32) ≤ (gI σ2 124 13) then W_X12_readClause_24 X l D v6 σ2 r σ' else W_X12_readClause_25 X l D v6 (1 : Int32) σ2 r σ'))
set_option maxRecDepth 100000 in
theorem w_X12_readClause_0 {X : Sx} {l : Launch} {D : Nat} {σ : AH} {r : Option Value} {σ' : AH} (hs : Sh σ) (h : W_X12_readClause_0 X l D σ r σ') : E X l m_X12_readClause D 0 [(0, .ref 124)] [] σ r σ' := by
  unfold W_X12_readClause_0 at h
  refine E_aload_n 0 dX12_readClause_0 rfl rfl ?_
  obtain ⟨d1, v6, σ2, hD3, hC4, h⟩ := h
  have hs5 := hC4.1.2.2.2.1 hs
  refine E_callV (As := []) (rest := []) (r1 := (some (.int v6))) (b := 124) dX12_readClause_1 ok_X12_headAt in_X12_headAt se_X12_headAt ml_X12_354 hD3 rfl rfl (Nat.le_of_ble_eq_true rfl) (sk_124 hs) (sn hs (by decide)) (by decide) rfl (by decide +kernel) hC4 ?_
  refine E_istore_n [(1, .int v6), (0, .ref 124)] dX12_readClause_4 rfl (by decide) rfl ?_
  refine E_aload_n 1 dX12_readClause_5 rfl rfl ?_
  refine E_iload_n 0 dX12_readClause_6 rfl rfl ?_
  refine E_iconst (-1 : Int32) dX12_readClause_7 (by decide) ?_
  refine E_icmp_eq 24 dX12_readClause_8 (by decide) (fun c => ?_) (fun c => ?_)
  · rw [if_pos c] at h
    exact E_lv [1, 0] rfl (w_X12_readClause_24 hs5 h)
  · rw [if_neg c] at h
    refine E_aload_n 1 dX12_readClause_11 rfl rfl ?_
    refine E_getI dX12_readClause_12 fl_X12_357 rfl (sk_124 hs5) (sn hs5 (by decide)) ?_
    refine E_bipush (16 : Int32) dX12_readClause_15 (by decide) ?_
    refine E_icmp_ge 24 dX12_readClause_17 (by decide) (fun c => ?_) (fun c => ?_)
    · rw [if_pos c] at h
      exact E_lv [1, 0] rfl (w_X12_readClause_24 hs5 h)
    · rw [if_neg c] at h
      refine E_iconst (1 : Int32) dX12_readClause_20 (by decide) ?_
      refine E_goto 25 dX12_readClause_21 (by decide) ?_
      exact E_lv [1, 0] rfl (w_X12_readClause_25 hs5 h)
def W_X12_readClause_317 (X : Sx) (l : Launch) (D : Nat) (x2 : Int32) (σ : AH) (r : Option Value) (σ' : AH) : Prop := vp_in (x2 + (7 : Int32)) 144 ∧ (r = none ∧ σ' = (sI σ 129 ((x2 + (7 : Int32)).toNatClampNeg) (gI σ 124 15)))
set_option maxRecDepth 100000 in
theorem w_X12_readClause_317 {X : Sx} {l : Launch} {D : Nat} {x2 : Int32} {σ : AH} {r : Option Value} {σ' : AH} (hs : Sh σ) (h : W_X12_readClause_317 X l D x2 σ r σ') : E X l m_X12_readClause D 317 [(0, .ref 124), (2, .int x2)] [] σ r σ' := by
  unfold W_X12_readClause_317 at h
  refine E_aload_n 0 dX12_readClause_317 rfl rfl ?_
  refine E_getR 129 dX12_readClause_318 fl_X12_29 rfl (sk_124 hs) (sn hs (by decide)) (sr_124_14 hs) ?_
  refine E_iload_n 1 dX12_readClause_321 rfl rfl ?_
  refine E_bipush (7 : Int32) dX12_readClause_322 (by decide) ?_
  refine E_iadd dX12_readClause_324 ?_
  refine E_aload_n 0 dX12_readClause_325 rfl rfl ?_
  refine E_getI dX12_readClause_326 fl_X12_220 rfl (sk_124 hs) (sn hs (by decide)) ?_
  obtain ⟨g105, h⟩ := h
  refine E_iast2 ((x2 + (7 : Int32)).toNatClampNeg) dX12_readClause_329 (sk_129 hs) (sn hs (by decide)) (Or.inl (by decide)) g105 rfl ?_
  obtain ⟨rfl, rfl⟩ := h
  exact E_vret dX12_readClause_330 rfl
def W_X12_readClause_266 (X : Sx) (l : Launch) (D : Nat) (x2 : Int32) (σ : AH) (r : Option Value) (σ' : AH) : Prop := vp_in (x2 + (5 : Int32)) 144 ∧ vp_in (x2 + (6 : Int32)) 144 ∧ (∀ τ86 : AH, τ86 = (sI (sI σ 129 ((x2 + (5 : Int32)).toNatClampNeg) (gI σ 124 15)) 129 ((x2 + (6 : Int32)).toNatClampNeg) (gI (sI σ 129 ((x2 + (5 : Int32)).toNatClampNeg) (gI σ 124 15)) 124 15)) → (if (gI τ86 124 12) = 0 then ∃ d89 : Nat, ∃ v94 : Int32, ∃ σ90 : AH, d89 + 1 ≤ D ∧ Call X l m_X12_isWord d89 [.ref 124, .long (294 : Int64)] τ86 (some (.int v94)) σ90 ∧ (if v94 = 0 then W_X12_readClause_317 X l D x2 σ90 r σ' else ∃ d95 : Nat, ∃ σ96 : AH, d95 + 1 ≤ D ∧ Call X l m_X12_next d95 [.ref 124] σ90 none σ96 ∧ ∃ d100 : Nat, ∃ σ101 : AH, d100 + 1 ≤ D ∧ Call X l m_X12_readExpression d100 [.ref 124, .int (1 : Int32)] σ96 none σ101 ∧ W_X12_readClause_317 X l D x2 σ101 r σ') else W_X12_readClause_317 X l D x2 τ86 r σ'))
set_option maxRecDepth 100000 in
theorem w_X12_readClause_266 {X : Sx} {l : Launch} {D : Nat} {x2 : Int32} {σ : AH} {r : Option Value} {σ' : AH} (hs : Sh σ) (h : W_X12_readClause_266 X l D x2 σ r σ') : E X l m_X12_readClause D 266 [(0, .ref 124), (2, .int x2)] [] σ r σ' := by
  unfold W_X12_readClause_266 at h
  refine E_aload_n 0 dX12_readClause_266 rfl rfl ?_
  refine E_getR 129 dX12_readClause_267 fl_X12_29 rfl (sk_124 hs) (sn hs (by decide)) (sr_124_14 hs) ?_
  refine E_iload_n 1 dX12_readClause_270 rfl rfl ?_
  refine E_iconst (5 : Int32) dX12_readClause_271 (by decide) ?_
  refine E_iadd dX12_readClause_272 ?_
  refine E_aload_n 0 dX12_readClause_273 rfl rfl ?_
  refine E_getI dX12_readClause_274 fl_X12_220 rfl (sk_124 hs) (sn hs (by decide)) ?_
  obtain ⟨g84, h⟩ := h
  refine E_iast2 ((x2 + (5 : Int32)).toNatClampNeg) dX12_readClause_277 (sk_129 hs) (sn hs (by decide)) (Or.inl (by decide)) g84 rfl ?_
  refine E_aload_n 0 dX12_readClause_278 rfl rfl ?_
  refine E_getR 129 dX12_readClause_279 fl_X12_29 rfl (sk_124 hs) (sn hs (by decide)) (sr_124_14 hs) ?_
  refine E_iload_n 1 dX12_readClause_282 rfl rfl ?_
  refine E_bipush (6 : Int32) dX12_readClause_283 (by decide) ?_
  refine E_iadd dX12_readClause_285 ?_
  refine E_aload_n 0 dX12_readClause_286 rfl rfl ?_
  refine E_getI dX12_readClause_287 fl_X12_220 rfl (sk_124 hs) (sn hs (by decide)) ?_
  obtain ⟨g85, h⟩ := h
  refine E_iast2 ((x2 + (6 : Int32)).toNatClampNeg) dX12_readClause_290 (sk_129 hs) (sn hs (by decide)) (Or.inl (by decide)) g85 rfl ?_
  obtain ⟨τ86, e87⟩ : ∃ τ : AH, τ = (sI (sI σ 129 ((x2 + (5 : Int32)).toNatClampNeg) (gI σ 124 15)) 129 ((x2 + (6 : Int32)).toNatClampNeg) (gI (sI σ 129 ((x2 + (5 : Int32)).toNatClampNeg) (gI σ 124 15)) 124 15)) := ⟨_, rfl⟩
  replace h := h τ86 e87
  rw [← e87]
  have hs88 : Sh τ86 := by rw [e87]; exact hs
  refine E_aload_n 0 dX12_readClause_291 rfl rfl ?_
  refine E_getI dX12_readClause_292 fl_X12_180 rfl (sk_124 hs88) (sn hs88 (by decide)) ?_
  refine E_if_ne 317 dX12_readClause_295 (by decide) (fun c => ?_) (fun c => ?_)
  · rw [if_neg c] at h
    exact E_lv [0, 1] rfl (w_X12_readClause_317 hs88 h)
  · rw [if_pos c] at h
    refine E_aload_n 0 dX12_readClause_298 rfl rfl ?_
    refine E_ldc2 (294 : Int64) dX12_readClause_299 cl_X12_385 ?_
    obtain ⟨d89, v94, σ90, hD91, hC92, h⟩ := h
    have hs93 := hC92.1.2.2.2.1 hs88
    refine E_callV (As := [.long (294 : Int64)]) (rest := []) (r1 := (some (.int v94))) (b := 124) dX12_readClause_302 ok_X12_isWord in_X12_isWord se_X12_isWord ml_X12_243 hD91 rfl rfl (Nat.le_of_ble_eq_true rfl) (sk_124 hs88) (sn hs88 (by decide)) (by decide) rfl (by decide +kernel) hC92 ?_
    refine E_if_eq 317 dX12_readClause_305 (by decide) (fun c => ?_) (fun c => ?_)
    · rw [if_pos c] at h
      exact E_lv [0, 1] rfl (w_X12_readClause_317 hs93 h)
    · rw [if_neg c] at h
      refine E_aload_n 0 dX12_readClause_308 rfl rfl ?_
      obtain ⟨d95, σ96, hD97, hC98, h⟩ := h
      have hs99 := hC98.1.2.2.2.1 hs93
      refine E_callV (As := []) (rest := []) (r1 := none) (b := 124) dX12_readClause_309 ok_X12_next in_X12_next se_X12_next ml_X12_184 hD97 rfl rfl (Nat.le_of_ble_eq_true rfl) (sk_124 hs93) (sn hs93 (by decide)) (by decide) rfl (by decide +kernel) hC98 ?_
      refine E_aload_n 0 dX12_readClause_312 rfl rfl ?_
      refine E_iconst (1 : Int32) dX12_readClause_313 (by decide) ?_
      obtain ⟨d100, σ101, hD102, hC103, h⟩ := h
      have hs104 := hC103.1.2.2.2.1 hs99
      refine E_callV (As := [.int (1 : Int32)]) (rest := []) (r1 := none) (b := 124) dX12_readClause_314 ok_X12_readExpression in_X12_readExpression se_X12_readExpression ml_X12_382 hD102 rfl rfl (Nat.le_of_ble_eq_true rfl) (sk_124 hs99) (sn hs99 (by decide)) (by decide) rfl (by decide +kernel) hC103 ?_
      exact E_lv [0, 1] rfl (w_X12_readClause_317 hs104 h)
def W_X12_readClause_235 (X : Sx) (l : Launch) (D : Nat) (x1 : Int32) (x2 : Int32) (y0 : Int32) (y1 : Int32) (σ : AH) (r : Option Value) (σ' : AH) : Prop := vp_in y1 144 ∧ vp_in (x2 + (4 : Int32)) 144 ∧ (if x1 = (8 : Int32) then W_X12_readClause_266 X l D x2 (sI (sI σ 129 y1.toNatClampNeg y0) 129 ((x2 + (4 : Int32)).toNatClampNeg) (gI (sI σ 129 y1.toNatClampNeg y0) 124 15)) r σ' else (if (gI (sI (sI σ 129 y1.toNatClampNeg y0) 129 ((x2 + (4 : Int32)).toNatClampNeg) (gI (sI σ 129 y1.toNatClampNeg y0) 124 15)) 124 12) = 0 then ∃ d79 : Nat, ∃ σ80 : AH, d79 + 1 ≤ D ∧ Call X l m_X12_readExpression d79 [.ref 124, .int (0 : Int32)] (sI (sI σ 129 y1.toNatClampNeg y0) 129 ((x2 + (4 : Int32)).toNatClampNeg) (gI (sI σ 129 y1.toNatClampNeg y0) 124 15)) none σ80 ∧ W_X12_readClause_266 X l D x2 σ80 r σ' else W_X12_readClause_266 X l D x2 (sI (sI σ 129 y1.toNatClampNeg y0) 129 ((x2 + (4 : Int32)).toNatClampNeg) (gI (sI σ 129 y1.toNatClampNeg y0) 124 15)) r σ'))
set_option maxRecDepth 100000 in
theorem w_X12_readClause_235 {X : Sx} {l : Launch} {D : Nat} {x1 : Int32} {x2 : Int32} {y0 : Int32} {y1 : Int32} {σ : AH} {r : Option Value} {σ' : AH} (hs : Sh σ) (h : W_X12_readClause_235 X l D x1 x2 y0 y1 σ r σ') : E X l m_X12_readClause D 235 [(0, .ref 124), (1, .int x1), (2, .int x2)] [.int y0, .int y1, .ref 129] σ r σ' := by
  unfold W_X12_readClause_235 at h
  obtain ⟨g77, h⟩ := h
  refine E_iast2 (y1.toNatClampNeg) dX12_readClause_235 (sk_129 hs) (sn hs (by decide)) (Or.inl (by decide)) g77 rfl ?_
  refine E_aload_n 0 dX12_readClause_236 rfl rfl ?_
  refine E_getR 129 dX12_readClause_237 fl_X12_29 rfl (sk_124 hs) (sn hs (by decide)) (sr_124_14 hs) ?_
  refine E_iload_n 2 dX12_readClause_240 rfl rfl ?_
  refine E_iconst (4 : Int32) dX12_readClause_241 (by decide) ?_
  refine E_iadd dX12_readClause_242 ?_
  refine E_aload_n 0 dX12_readClause_243 rfl rfl ?_
  refine E_getI dX12_readClause_244 fl_X12_220 rfl (sk_124 hs) (sn hs (by decide)) ?_
  obtain ⟨g78, h⟩ := h
  refine E_iast2 ((x2 + (4 : Int32)).toNatClampNeg) dX12_readClause_247 (sk_129 hs) (sn hs (by decide)) (Or.inl (by decide)) g78 rfl ?_
  refine E_iload_n 1 dX12_readClause_248 rfl rfl ?_
  refine E_bipush (8 : Int32) dX12_readClause_249 (by decide) ?_
  refine E_icmp_eq 266 dX12_readClause_251 (by decide) (fun c => ?_) (fun c => ?_)
  · rw [if_pos c] at h
    exact E_lv [0, 2] rfl (w_X12_readClause_266 hs h)
  · rw [if_neg c] at h
    refine E_aload_n 0 dX12_readClause_254 rfl rfl ?_
    refine E_getI dX12_readClause_255 fl_X12_180 rfl (sk_124 hs) (sn hs (by decide)) ?_
    refine E_if_ne 266 dX12_readClause_258 (by decide) (fun c => ?_) (fun c => ?_)
    · rw [if_neg c] at h
      exact E_lv [0, 2] rfl (w_X12_readClause_266 hs h)
    · rw [if_pos c] at h
      refine E_aload_n 0 dX12_readClause_261 rfl rfl ?_
      refine E_iconst (0 : Int32) dX12_readClause_262 (by decide) ?_
      obtain ⟨d79, σ80, hD81, hC82, h⟩ := h
      have hs83 := hC82.1.2.2.2.1 hs
      refine E_callV (As := [.int (0 : Int32)]) (rest := []) (r1 := none) (b := 124) dX12_readClause_263 ok_X12_readExpression in_X12_readExpression se_X12_readExpression ml_X12_382 hD81 rfl rfl (Nat.le_of_ble_eq_true rfl) (sk_124 hs) (sn hs (by decide)) (by decide) rfl (by decide +kernel) hC82 ?_
      exact E_lv [0, 2] rfl (w_X12_readClause_266 hs83 h)
def W_X12_readClause_210 (X : Sx) (l : Launch) (D : Nat) (x1 : Int32) (x2 : Int32) (y0 : Int32) (y1 : Int32) (σ : AH) (r : Option Value) (σ' : AH) : Prop := vp_in y1 144 ∧ (if x1 = (1 : Int32) then ∃ d65 : Nat, ∃ v70 : Int32, ∃ σ66 : AH, d65 + 1 ≤ D ∧ Call X l m_X12_materialAt d65 [.ref 124] (sI σ 129 y1.toNatClampNeg y0) (some (.int v70)) σ66 ∧ ∃ d71 : Nat, ∃ v76 : Int32, ∃ σ72 : AH, d71 + 1 ≤ D ∧ Call X l m_X12_choice d71 [.ref 124, .int v70] σ66 (some (.int v76)) σ72 ∧ W_X12_readClause_235 X l D x1 x2 v76 (x2 + (3 : Int32)) σ72 r σ' else W_X12_readClause_235 X l D x1 x2 (0 : Int32) (x2 + (3 : Int32)) (sI σ 129 y1.toNatClampNeg y0) r σ')
set_option maxRecDepth 100000 in
theorem w_X12_readClause_210 {X : Sx} {l : Launch} {D : Nat} {x1 : Int32} {x2 : Int32} {y0 : Int32} {y1 : Int32} {σ : AH} {r : Option Value} {σ' : AH} (hs : Sh σ) (h : W_X12_readClause_210 X l D x1 x2 y0 y1 σ r σ') : E X l m_X12_readClause D 210 [(0, .ref 124), (1, .int x1), (2, .int x2)] [.int y0, .int y1, .ref 129] σ r σ' := by
  unfold W_X12_readClause_210 at h
  obtain ⟨g64, h⟩ := h
  refine E_iast2 (y1.toNatClampNeg) dX12_readClause_210 (sk_129 hs) (sn hs (by decide)) (Or.inl (by decide)) g64 rfl ?_
  refine E_aload_n 0 dX12_readClause_211 rfl rfl ?_
  refine E_getR 129 dX12_readClause_212 fl_X12_29 rfl (sk_124 hs) (sn hs (by decide)) (sr_124_14 hs) ?_
  refine E_iload_n 2 dX12_readClause_215 rfl rfl ?_
  refine E_iconst (3 : Int32) dX12_readClause_216 (by decide) ?_
  refine E_iadd dX12_readClause_217 ?_
  refine E_iload_n 1 dX12_readClause_218 rfl rfl ?_
  refine E_iconst (1 : Int32) dX12_readClause_219 (by decide) ?_
  refine E_icmp_ne 234 dX12_readClause_220 (by decide) (fun c => ?_) (fun c => ?_)
  · rw [if_neg c] at h
    refine E_iconst (0 : Int32) dX12_readClause_234 (by decide) ?_
    exact E_lv [0, 1, 2] rfl (w_X12_readClause_235 hs h)
  · rw [if_pos c] at h
    refine E_aload_n 0 dX12_readClause_223 rfl rfl ?_
    refine E_aload_n 0 dX12_readClause_224 rfl rfl ?_
    obtain ⟨d65, v70, σ66, hD67, hC68, h⟩ := h
    have hs69 := hC68.1.2.2.2.1 hs
    refine E_callV (As := []) (rest := [.ref 124, .int (x2 + (3 : Int32)), .ref 129]) (r1 := (some (.int v70))) (b := 124) dX12_readClause_225 ok_X12_materialAt in_X12_materialAt se_X12_materialAt ml_X12_379 hD67 rfl rfl (Nat.le_of_ble_eq_true rfl) (sk_124 hs) (sn hs (by decide)) (by decide) rfl (by decide +kernel) hC68 ?_
    obtain ⟨d71, v76, σ72, hD73, hC74, h⟩ := h
    have hs75 := hC74.1.2.2.2.1 hs69
    refine E_callV (As := [.int v70]) (rest := [.int (x2 + (3 : Int32)), .ref 129]) (r1 := (some (.int v76))) (b := 124) dX12_readClause_228 ok_X12_choice in_X12_choice se_X12_choice ml_X12_373 hD73 rfl rfl (Nat.le_of_ble_eq_true rfl) (sk_124 hs69) (sn hs69 (by decide)) (by decide) rfl (by decide +kernel) hC74 ?_
    refine E_goto 235 dX12_readClause_231 (by decide) ?_
    exact E_lv [0, 1, 2] rfl (w_X12_readClause_235 hs75 h)
def W_X12_readClause_198 (X : Sx) (l : Launch) (D : Nat) (x1 : Int32) (x2 : Int32) (y0 : Int32) (σ : AH) (r : Option Value) (σ' : AH) : Prop := ∃ d52 : Nat, ∃ v57 : Int32, ∃ σ53 : AH, d52 + 1 ≤ D ∧ Call X l m_X12_stageAt d52 [.ref 124] σ (some (.int v57)) σ53 ∧ ∃ d58 : Nat, ∃ v63 : Int32, ∃ σ59 : AH, d58 + 1 ≤ D ∧ Call X l m_X12_choice d58 [.ref 124, .int v57] σ53 (some (.int v63)) σ59 ∧ W_X12_readClause_210 X l D x1 x2 v63 y0 σ59 r σ'
set_option maxRecDepth 100000 in
theorem w_X12_readClause_198 {X : Sx} {l : Launch} {D : Nat} {x1 : Int32} {x2 : Int32} {y0 : Int32} {σ : AH} {r : Option Value} {σ' : AH} (hs : Sh σ) (h : W_X12_readClause_198 X l D x1 x2 y0 σ r σ') : E X l m_X12_readClause D 198 [(0, .ref 124), (1, .int x1), (2, .int x2)] [.int y0, .ref 129] σ r σ' := by
  unfold W_X12_readClause_198 at h
  refine E_aload_n 0 dX12_readClause_198 rfl rfl ?_
  refine E_aload_n 0 dX12_readClause_199 rfl rfl ?_
  obtain ⟨d52, v57, σ53, hD54, hC55, h⟩ := h
  have hs56 := hC55.1.2.2.2.1 hs
  refine E_callV (As := []) (rest := [.ref 124, .int y0, .ref 129]) (r1 := (some (.int v57))) (b := 124) dX12_readClause_200 ok_X12_stageAt in_X12_stageAt se_X12_stageAt ml_X12_376 hD54 rfl rfl (Nat.le_of_ble_eq_true rfl) (sk_124 hs) (sn hs (by decide)) (by decide) rfl (by decide +kernel) hC55 ?_
  obtain ⟨d58, v63, σ59, hD60, hC61, h⟩ := h
  have hs62 := hC61.1.2.2.2.1 hs56
  refine E_callV (As := [.int v57]) (rest := [.int y0, .ref 129]) (r1 := (some (.int v63))) (b := 124) dX12_readClause_203 ok_X12_choice in_X12_choice se_X12_choice ml_X12_373 hD60 rfl rfl (Nat.le_of_ble_eq_true rfl) (sk_124 hs56) (sn hs56 (by decide)) (by decide) rfl (by decide +kernel) hC61 ?_
  refine E_goto 210 dX12_readClause_206 (by decide) ?_
  exact E_lv [0, 1, 2] rfl (w_X12_readClause_210 hs62 h)
def W_X12_readClause_180 (X : Sx) (l : Launch) (D : Nat) (x1 : Int32) (x2 : Int32) (y0 : Int32) (y1 : Int32) (σ : AH) (r : Option Value) (σ' : AH) : Prop := vp_in y1 144 ∧ (if x1 = (1 : Int32) then W_X12_readClause_198 X l D x1 x2 (x2 + (2 : Int32)) (sI σ 129 y1.toNatClampNeg y0) r σ' else (if x1 = (2 : Int32) then W_X12_readClause_198 X l D x1 x2 (x2 + (2 : Int32)) (sI σ 129 y1.toNatClampNeg y0) r σ' else W_X12_readClause_210 X l D x1 x2 (0 : Int32) (x2 + (2 : Int32)) (sI σ 129 y1.toNatClampNeg y0) r σ'))
set_option maxRecDepth 100000 in
theorem w_X12_readClause_180 {X : Sx} {l : Launch} {D : Nat} {x1 : Int32} {x2 : Int32} {y0 : Int32} {y1 : Int32} {σ : AH} {r : Option Value} {σ' : AH} (hs : Sh σ) (h : W_X12_readClause_180 X l D x1 x2 y0 y1 σ r σ') : E X l m_X12_readClause D 180 [(0, .ref 124), (1, .int x1), (2, .int x2)] [.int y0, .int y1, .ref 129] σ r σ' := by
  unfold W_X12_readClause_180 at h
  obtain ⟨g51, h⟩ := h
  refine E_iast2 (y1.toNatClampNeg) dX12_readClause_180 (sk_129 hs) (sn hs (by decide)) (Or.inl (by decide)) g51 rfl ?_
  refine E_aload_n 0 dX12_readClause_181 rfl rfl ?_
  refine E_getR 129 dX12_readClause_182 fl_X12_29 rfl (sk_124 hs) (sn hs (by decide)) (sr_124_14 hs) ?_
  refine E_iload_n 2 dX12_readClause_185 rfl rfl ?_
  refine E_iconst (2 : Int32) dX12_readClause_186 (by decide) ?_
  refine E_iadd dX12_readClause_187 ?_
  refine E_iload_n 1 dX12_readClause_188 rfl rfl ?_
  refine E_iconst (1 : Int32) dX12_readClause_189 (by decide) ?_
  refine E_icmp_eq 198 dX12_readClause_190 (by decide) (fun c => ?_) (fun c => ?_)
  · rw [if_pos c] at h
    exact E_lv [0, 1, 2] rfl (w_X12_readClause_198 hs h)
  · rw [if_neg c] at h
    refine E_iload_n 1 dX12_readClause_193 rfl rfl ?_
    refine E_iconst (2 : Int32) dX12_readClause_194 (by decide) ?_
    refine E_icmp_ne 209 dX12_readClause_195 (by decide) (fun c => ?_) (fun c => ?_)
    · rw [if_neg c] at h
      refine E_iconst (0 : Int32) dX12_readClause_209 (by decide) ?_
      exact E_lv [0, 1, 2] rfl (w_X12_readClause_210 hs h)
    · rw [if_pos c] at h
      exact E_lv [0, 1, 2] rfl (w_X12_readClause_198 hs h)
def W_X12_readClause_156 (X : Sx) (l : Launch) (D : Nat) (x1 : Int32) (x2 : Int32) (y0 : Int32) (σ : AH) (r : Option Value) (σ' : AH) : Prop := (if y0 = 0 then W_X12_readClause_180 X l D x1 x2 (0 : Int32) (x2 + (1 : Int32)) σ r σ' else ∃ d39 : Nat, ∃ v44 : Int32, ∃ σ40 : AH, d39 + 1 ≤ D ∧ Call X l m_X12_kindAt d39 [.ref 124] σ (some (.int v44)) σ40 ∧ ∃ d45 : Nat, ∃ v50 : Int32, ∃ σ46 : AH, d45 + 1 ≤ D ∧ Call X l m_X12_choice d45 [.ref 124, .int v44] σ40 (some (.int v50)) σ46 ∧ W_X12_readClause_180 X l D x1 x2 v50 (x2 + (1 : Int32)) σ46 r σ')
set_option maxRecDepth 100000 in
theorem w_X12_readClause_156 {X : Sx} {l : Launch} {D : Nat} {x1 : Int32} {x2 : Int32} {y0 : Int32} {σ : AH} {r : Option Value} {σ' : AH} (hs : Sh σ) (h : W_X12_readClause_156 X l D x1 x2 y0 σ r σ') : E X l m_X12_readClause D 156 [(0, .ref 124), (1, .int x1), (2, .int x2)] [.int y0] σ r σ' := by
  unfold W_X12_readClause_156 at h
  refine E_istore_n [(3, .int y0), (0, .ref 124), (1, .int x1), (2, .int x2)] dX12_readClause_156 rfl (by decide) rfl ?_
  refine E_aload_n 1 dX12_readClause_157 rfl rfl ?_
  refine E_getR 129 dX12_readClause_158 fl_X12_29 rfl (sk_124 hs) (sn hs (by decide)) (sr_124_14 hs) ?_
  refine E_iload_n 3 dX12_readClause_161 rfl rfl ?_
  refine E_iconst (1 : Int32) dX12_readClause_162 (by decide) ?_
  refine E_iadd dX12_readClause_163 ?_
  refine E_iload_n 0 dX12_readClause_164 rfl rfl ?_
  refine E_if_eq 179 dX12_readClause_165 (by decide) (fun c => ?_) (fun c => ?_)
  · rw [if_pos c] at h
    refine E_iconst (0 : Int32) dX12_readClause_179 (by decide) ?_
    exact E_lv [1, 2, 3] rfl (w_X12_readClause_180 hs h)
  · rw [if_neg c] at h
    refine E_aload_n 1 dX12_readClause_168 rfl rfl ?_
    refine E_aload_n 1 dX12_readClause_169 rfl rfl ?_
    obtain ⟨d39, v44, σ40, hD41, hC42, h⟩ := h
    have hs43 := hC42.1.2.2.2.1 hs
    refine E_callV (As := []) (rest := [.ref 124, .int (x2 + (1 : Int32)), .ref 129]) (r1 := (some (.int v44))) (b := 124) dX12_readClause_170 ok_X12_kindAt in_X12_kindAt se_X12_kindAt ml_X12_370 hD41 rfl rfl (Nat.le_of_ble_eq_true rfl) (sk_124 hs) (sn hs (by decide)) (by decide) rfl (by decide +kernel) hC42 ?_
    obtain ⟨d45, v50, σ46, hD47, hC48, h⟩ := h
    have hs49 := hC48.1.2.2.2.1 hs43
    refine E_callV (As := [.int v44]) (rest := [.int (x2 + (1 : Int32)), .ref 129]) (r1 := (some (.int v50))) (b := 124) dX12_readClause_173 ok_X12_choice in_X12_choice se_X12_choice ml_X12_373 hD47 rfl rfl (Nat.le_of_ble_eq_true rfl) (sk_124 hs43) (sn hs43 (by decide)) (by decide) rfl (by decide +kernel) hC48 ?_
    refine E_goto 180 dX12_readClause_176 (by decide) ?_
    exact E_lv [1, 2, 3] rfl (w_X12_readClause_180 hs49 h)
def W_X12_readClause_151 (X : Sx) (l : Launch) (D : Nat) (x1 : Int32) (x2 : Int32) (σ : AH) (r : Option Value) (σ' : AH) : Prop := W_X12_readClause_156 X l D x1 x2 (1 : Int32) σ r σ'
set_option maxRecDepth 100000 in
theorem w_X12_readClause_151 {X : Sx} {l : Launch} {D : Nat} {x1 : Int32} {x2 : Int32} {σ : AH} {r : Option Value} {σ' : AH} (hs : Sh σ) (h : W_X12_readClause_151 X l D x1 x2 σ r σ') : E X l m_X12_readClause D 151 [(0, .ref 124), (1, .int x1), (2, .int x2)] [] σ r σ' := by
  unfold W_X12_readClause_151 at h
  refine E_iconst (1 : Int32) dX12_readClause_151 (by decide) ?_
  refine E_goto 156 dX12_readClause_152 (by decide) ?_
  exact E_lv [0, 1, 2] rfl (w_X12_readClause_156 hs h)
def W_X12_readClause_46 (X : Sx) (l : Launch) (D : Nat) (x1 : Int32) (x2 : Int32) (x3 : Int32) (σ : AH) (r : Option Value) (σ' : AH) : Prop := (if (9 : Int32) ≤ x3 then vp_in x2 144 ∧ (if x1 = 0 then ∃ d13 : Nat, ∃ v18 : Int32, ∃ σ14 : AH, d13 + 1 ≤ D ∧ Call X l m_X12_number d13 [.ref 124, .long (23 : Int64)] (sI (sI σ 129 x2.toNatClampNeg x1) 124 13 ((gI (sI σ 129 x2.toNatClampNeg x1) 124 13) + (1 : Int32))) (some (.int v18)) σ14 ∧ vp_in (x2 + (1 : Int32)) 144 ∧ ∃ d20 : Nat, ∃ v25 : Int32, ∃ σ21 : AH, d20 + 1 ≤ D ∧ Call X l m_X12_isWord d20 [.ref 124, .long (113301093 : Int64)] (sI σ14 129 ((x2 + (1 : Int32)).toNatClampNeg) v18) (some (.int v25)) σ21 ∧ ∃ d26 : Nat, ∃ σ27 : AH, d26 + 1 ≤ D ∧ Call X l m_X12_must d26 [.ref 124, .int v25] σ21 none σ27 ∧ ∃ d31 : Nat, ∃ v36 : Int32, ∃ σ32 : AH, d31 + 1 ≤ D ∧ Call X l m_X12_number d31 [.ref 124, .long (15 : Int64)] σ27 (some (.int v36)) σ32 ∧ vp_in (x2 + (2 : Int32)) 144 ∧ (r = none ∧ σ' = (sI σ32 129 ((x2 + (2 : Int32)).toNatClampNeg) v36)) else (if x1 = (1 : Int32) then W_X12_readClause_151 X l D x1 x2 (sI (sI σ 129 x2.toNatClampNeg x1) 124 13 ((gI (sI σ 129 x2.toNatClampNeg x1) 124 13) + (1 : Int32))) r σ' else (if x1 = (2 : Int32) then W_X12_readClause_151 X l D x1 x2 (sI (sI σ 129 x2.toNatClampNeg x1) 124 13 ((gI (sI σ 129 x2.toNatClampNeg x1) 124 13) + (1 : Int32))) r σ' else (if x1 = (4 : Int32) then W_X12_readClause_151 X l D x1 x2 (sI (sI σ 129 x2.toNatClampNeg x1) 124 13 ((gI (sI σ 129 x2.toNatClampNeg x1) 124 13) + (1 : Int32))) r σ' else (if x1 = (8 : Int32) then W_X12_readClause_151 X l D x1 x2 (sI (sI σ 129 x2.toNatClampNeg x1) 124 13 ((gI (sI σ 129 x2.toNatClampNeg x1) 124 13) + (1 : Int32))) r σ' else W_X12_readClause_156 X l D x1 x2 (0 : Int32) (sI (sI σ 129 x2.toNatClampNeg x1) 124 13 ((gI (sI σ 129 x2.toNatClampNeg x1) 124 13) + (1 : Int32))) r σ'))))) else vp_in (x2 + x3) 144 ∧ E X l m_X12_readClause D 46 [(0, .ref 124), (1, .int x1), (2, .int x2), (3, .int (x3 + 1))] [] (sI σ 129 ((x2 + x3).toNatClampNeg) (0 : Int32)) r σ')
set_option maxRecDepth 100000 in
theorem w_X12_readClause_46 {X : Sx} {l : Launch} {D : Nat} {x1 : Int32} {x2 : Int32} {x3 : Int32} {σ : AH} {r : Option Value} {σ' : AH} (hs : Sh σ) (h : W_X12_readClause_46 X l D x1 x2 x3 σ r σ') : E X l m_X12_readClause D 46 [(0, .ref 124), (1, .int x1), (2, .int x2), (3, .int x3)] [] σ r σ' := by
  unfold W_X12_readClause_46 at h
  refine E_iload_n 3 dX12_readClause_46 rfl rfl ?_
  refine E_bipush (9 : Int32) dX12_readClause_47 (by decide) ?_
  refine E_icmp_ge 67 dX12_readClause_49 (by decide) (fun c => ?_) (fun c => ?_)
  · rw [if_pos c] at h
    refine E_aload_n 0 dX12_readClause_67 rfl rfl ?_
    refine E_getR 129 dX12_readClause_68 fl_X12_29 rfl (sk_124 hs) (sn hs (by decide)) (sr_124_14 hs) ?_
    refine E_iload_n 2 dX12_readClause_71 rfl rfl ?_
    refine E_iload_n 1 dX12_readClause_72 rfl rfl ?_
    obtain ⟨g12, h⟩ := h
    refine E_iast2 (x2.toNatClampNeg) dX12_readClause_73 (sk_129 hs) (sn hs (by decide)) (Or.inl (by decide)) g12 rfl ?_
    refine E_aload_n 0 dX12_readClause_74 rfl rfl ?_
    refine E_dup dX12_readClause_75 rfl ?_
    refine E_getI dX12_readClause_76 fl_X12_357 rfl (sk_124 hs) (sn hs (by decide)) ?_
    refine E_iconst (1 : Int32) dX12_readClause_79 (by decide) ?_
    refine E_iadd dX12_readClause_80 ?_
    refine E_putI dX12_readClause_81 fl_X12_357 rfl (Or.inl rfl) (sk_124 hs) (sn hs (by decide)) (Or.inl (by decide)) rfl rfl ?_
    refine E_iload_n 1 dX12_readClause_84 rfl rfl ?_
    refine E_if_ne 130 dX12_readClause_85 (by decide) (fun c => ?_) (fun c => ?_)
    · rw [if_neg c] at h
      refine E_iload_n 1 dX12_readClause_130 rfl rfl ?_
      refine E_iconst (1 : Int32) dX12_readClause_131 (by decide) ?_
      refine E_icmp_eq 151 dX12_readClause_132 (by decide) (fun c => ?_) (fun c => ?_)
      · rw [if_pos c] at h
        exact E_lv [0, 1, 2] rfl (w_X12_readClause_151 hs h)
      · rw [if_neg c] at h
        refine E_iload_n 1 dX12_readClause_135 rfl rfl ?_
        refine E_iconst (2 : Int32) dX12_readClause_136 (by decide) ?_
        refine E_icmp_eq 151 dX12_readClause_137 (by decide) (fun c => ?_) (fun c => ?_)
        · rw [if_pos c] at h
          exact E_lv [0, 1, 2] rfl (w_X12_readClause_151 hs h)
        · rw [if_neg c] at h
          refine E_iload_n 1 dX12_readClause_140 rfl rfl ?_
          refine E_iconst (4 : Int32) dX12_readClause_141 (by decide) ?_
          refine E_icmp_eq 151 dX12_readClause_142 (by decide) (fun c => ?_) (fun c => ?_)
          · rw [if_pos c] at h
            exact E_lv [0, 1, 2] rfl (w_X12_readClause_151 hs h)
          · rw [if_neg c] at h
            refine E_iload_n 1 dX12_readClause_145 rfl rfl ?_
            refine E_bipush (8 : Int32) dX12_readClause_146 (by decide) ?_
            refine E_icmp_ne 155 dX12_readClause_148 (by decide) (fun c => ?_) (fun c => ?_)
            · rw [if_neg c] at h
              refine E_iconst (0 : Int32) dX12_readClause_155 (by decide) ?_
              exact E_lv [0, 1, 2] rfl (w_X12_readClause_156 hs h)
            · rw [if_pos c] at h
              exact E_lv [0, 1, 2] rfl (w_X12_readClause_151 hs h)
    · rw [if_pos c] at h
      refine E_aload_n 0 dX12_readClause_88 rfl rfl ?_
      refine E_getR 129 dX12_readClause_89 fl_X12_29 rfl (sk_124 hs) (sn hs (by decide)) (sr_124_14 hs) ?_
      refine E_iload_n 2 dX12_readClause_92 rfl rfl ?_
      refine E_iconst (1 : Int32) dX12_readClause_93 (by decide) ?_
      refine E_iadd dX12_readClause_94 ?_
      refine E_aload_n 0 dX12_readClause_95 rfl rfl ?_
      refine E_ldc2 (23 : Int64) dX12_readClause_96 cl_X12_360 ?_
      obtain ⟨d13, v18, σ14, hD15, hC16, h⟩ := h
      have hs17 := hC16.1.2.2.2.1 hs
      refine E_callV (As := [.long (23 : Int64)]) (rest := [.int (x2 + (1 : Int32)), .ref 129]) (r1 := (some (.int v18))) (b := 124) dX12_readClause_99 ok_X12_number in_X12_number se_X12_number ml_X12_362 hD15 rfl rfl (Nat.le_of_ble_eq_true rfl) (sk_124 hs) (sn hs (by decide)) (by decide) rfl (by decide +kernel) hC16 ?_
      obtain ⟨g19, h⟩ := h
      refine E_iast2 ((x2 + (1 : Int32)).toNatClampNeg) dX12_readClause_102 (sk_129 hs17) (sn hs17 (by decide)) (Or.inl (by decide)) g19 rfl ?_
      refine E_aload_n 0 dX12_readClause_103 rfl rfl ?_
      refine E_aload_n 0 dX12_readClause_104 rfl rfl ?_
      refine E_ldc2 (113301093 : Int64) dX12_readClause_105 cl_X12_366 ?_
      obtain ⟨d20, v25, σ21, hD22, hC23, h⟩ := h
      have hs24 := hC23.1.2.2.2.1 hs17
      refine E_callV (As := [.long (113301093 : Int64)]) (rest := [.ref 124]) (r1 := (some (.int v25))) (b := 124) dX12_readClause_108 ok_X12_isWord in_X12_isWord se_X12_isWord ml_X12_243 hD22 rfl rfl (Nat.le_of_ble_eq_true rfl) (sk_124 hs17) (sn hs17 (by decide)) (by decide) rfl (by decide +kernel) hC23 ?_
      obtain ⟨d26, σ27, hD28, hC29, h⟩ := h
      have hs30 := hC29.1.2.2.2.1 hs24
      refine E_callV (As := [.int v25]) (rest := []) (r1 := none) (b := 124) dX12_readClause_111 ok_X12_must in_X12_must se_X12_must ml_X12_216 hD28 rfl rfl (Nat.le_of_ble_eq_true rfl) (sk_124 hs24) (sn hs24 (by decide)) (by decide) rfl (by decide +kernel) hC29 ?_
      refine E_aload_n 0 dX12_readClause_114 rfl rfl ?_
      refine E_getR 129 dX12_readClause_115 fl_X12_29 rfl (sk_124 hs30) (sn hs30 (by decide)) (sr_124_14 hs30) ?_
      refine E_iload_n 2 dX12_readClause_118 rfl rfl ?_
      refine E_iconst (2 : Int32) dX12_readClause_119 (by decide) ?_
      refine E_iadd dX12_readClause_120 ?_
      refine E_aload_n 0 dX12_readClause_121 rfl rfl ?_
      refine E_ldc2 (15 : Int64) dX12_readClause_122 cl_X12_368 ?_
      obtain ⟨d31, v36, σ32, hD33, hC34, h⟩ := h
      have hs35 := hC34.1.2.2.2.1 hs30
      refine E_callV (As := [.long (15 : Int64)]) (rest := [.int (x2 + (2 : Int32)), .ref 129]) (r1 := (some (.int v36))) (b := 124) dX12_readClause_125 ok_X12_number in_X12_number se_X12_number ml_X12_362 hD33 rfl rfl (Nat.le_of_ble_eq_true rfl) (sk_124 hs30) (sn hs30 (by decide)) (by decide) rfl (by decide +kernel) hC34 ?_
      obtain ⟨g37, h⟩ := h
      refine E_iast2 ((x2 + (2 : Int32)).toNatClampNeg) dX12_readClause_128 (sk_129 hs35) (sn hs35 (by decide)) (Or.inl (by decide)) g37 rfl ?_
      obtain ⟨rfl, rfl⟩ := h
      exact E_vret dX12_readClause_129 rfl
  · rw [if_neg c] at h
    refine E_aload_n 0 dX12_readClause_52 rfl rfl ?_
    refine E_getR 129 dX12_readClause_53 fl_X12_29 rfl (sk_124 hs) (sn hs (by decide)) (sr_124_14 hs) ?_
    refine E_iload_n 2 dX12_readClause_56 rfl rfl ?_
    refine E_iload_n 3 dX12_readClause_57 rfl rfl ?_
    refine E_iadd dX12_readClause_58 ?_
    refine E_iconst (0 : Int32) dX12_readClause_59 (by decide) ?_
    obtain ⟨g38, h⟩ := h
    refine E_iast2 ((x2 + x3).toNatClampNeg) dX12_readClause_60 (sk_129 hs) (sn hs (by decide)) (Or.inl (by decide)) g38 rfl ?_
    refine E_iinc 3 (x3 + 1) [(3, .int (x3 + 1)), (0, .ref 124), (1, .int x1), (2, .int x2)] dX12_readClause_61 rfl (congrArg (x3 + ·) (by decide : Int32.ofInt 1 = 1)) (by decide) rfl ?_
    refine E_goto 46 dX12_readClause_64 (by decide) ?_
    exact E_lv [1, 2, 3, 0] rfl h
def W_X12_act_56 (X : Sx) (l : Launch) (D : Nat) (y0 : Int32) (σ : AH) (r : Option Value) (σ' : AH) : Prop := ∃ d39 : Nat, ∃ v44 : Int32, ∃ σ40 : AH, d39 + 1 ≤ D ∧ Call X l m_X12_told d39 [.ref 124, .int y0] σ (some (.int v44)) σ40 ∧ (r = some (.int v44) ∧ σ' = σ40)
set_option maxRecDepth 100000 in
theorem w_X12_act_56 {X : Sx} {l : Launch} {D : Nat} {y0 : Int32} {σ : AH} {r : Option Value} {σ' : AH} (hs : Sh σ) (h : W_X12_act_56 X l D y0 σ r σ') : E X l m_X12_act D 56 [] [.int y0, .ref 124] σ r σ' := by
  unfold W_X12_act_56 at h
  obtain ⟨d39, v44, σ40, hD41, hC42, h⟩ := h
  have hs43 := hC42.1.2.2.2.1 hs
  refine E_callV (As := [.int y0]) (rest := []) (r1 := (some (.int v44))) (b := 124) dX12_act_56 ok_X12_told in_X12_told se_X12_told ml_X12_163 hD41 rfl rfl (Nat.le_of_ble_eq_true rfl) (sk_124 hs) (sn hs (by decide)) (by decide) rfl (by decide +kernel) hC42 ?_
  obtain ⟨rfl, rfl⟩ := h
  exact E_iret dX12_act_59 rfl
def W_X12_act_40 (X : Sx) (l : Launch) (D : Nat) (x3 : Int32) (σ : AH) (r : Option Value) (σ' : AH) : Prop := (if x3 = 0 then W_X12_act_56 X l D (-1 : Int32) (sI σ 124 6 (0 : Int32)) r σ' else W_X12_act_56 X l D (-5 : Int32) (sI σ 124 6 (0 : Int32)) r σ')
set_option maxRecDepth 100000 in
theorem w_X12_act_40 {X : Sx} {l : Launch} {D : Nat} {x3 : Int32} {σ : AH} {r : Option Value} {σ' : AH} (hs : Sh σ) (h : W_X12_act_40 X l D x3 σ r σ') : E X l m_X12_act D 40 [(0, .ref 124), (3, .int x3)] [] σ r σ' := by
  unfold W_X12_act_40 at h
  refine E_aload_n 0 dX12_act_40 rfl rfl ?_
  refine E_iconst (0 : Int32) dX12_act_41 (by decide) ?_
  refine E_putI dX12_act_42 fl_X12_167 rfl (Or.inl rfl) (sk_124 hs) (sn hs (by decide)) (Or.inl (by decide)) rfl rfl ?_
  refine E_aload_n 0 dX12_act_45 rfl rfl ?_
  refine E_iload_n 1 dX12_act_46 rfl rfl ?_
  refine E_if_eq 55 dX12_act_47 (by decide) (fun c => ?_) (fun c => ?_)
  · rw [if_pos c] at h
    refine E_iconst (-1 : Int32) dX12_act_55 (by decide) ?_
    exact E_lv [] rfl (w_X12_act_56 hs h)
  · rw [if_neg c] at h
    refine E_bipush (-5 : Int32) dX12_act_50 (by decide) ?_
    refine E_goto 56 dX12_act_52 (by decide) ?_
    exact E_lv [] rfl (w_X12_act_56 hs h)
def W_X12_act_24 (X : Sx) (l : Launch) (D : Nat) (x1 : Int32) (x2 : Int32) (y0 : Int32) (σ : AH) (r : Option Value) (σ' : AH) : Prop := (if y0 = 0 then W_X12_act_40 X l D y0 σ r σ' else (if (gI σ 125 0) = (24 : Int32) then W_X12_act_40 X l D y0 σ r σ' else ∃ d13 : Nat, ∃ σ14 : AH, d13 + 1 ≤ D ∧ Call X l m_X12_begin d13 [.ref 124] σ none σ14 ∧ ∃ d18 : Nat, ∃ σ19 : AH, d18 + 1 ≤ D ∧ Call X l m_X12_readClause d18 [.ref 124] (sI (sI (sI σ14 124 13 (0 : Int32)) 124 15 (0 : Int32)) 124 18 (0 : Int32)) none σ19 ∧ E X l m_X12_act D 83 [(0, .ref 124), (1, .int x1), (2, .int x2)] [] σ19 r σ'))
set_option maxRecDepth 100000 in
theorem w_X12_act_24 {X : Sx} {l : Launch} {D : Nat} {x1 : Int32} {x2 : Int32} {y0 : Int32} {σ : AH} {r : Option Value} {σ' : AH} (hs : Sh σ) (h : W_X12_act_24 X l D x1 x2 y0 σ r σ') : E X l m_X12_act D 24 [(0, .ref 124), (1, .int x1), (2, .int x2)] [.int y0] σ r σ' := by
  unfold W_X12_act_24 at h
  refine E_istore_n [(3, .int y0), (0, .ref 124), (1, .int x1), (2, .int x2)] dX12_act_24 rfl (by decide) rfl ?_
  refine E_iload_n 0 dX12_act_25 rfl rfl ?_
  refine E_if_eq 40 dX12_act_26 (by decide) (fun c => ?_) (fun c => ?_)
  · rw [if_pos c] at h
    exact E_lv [1, 0] rfl (w_X12_act_40 hs h)
  · rw [if_neg c] at h
    refine E_aload_n 1 dX12_act_29 rfl rfl ?_
    refine E_getR 125 dX12_act_30 fl_X12_8 rfl (sk_124 hs) (sn hs (by decide)) (sr_124_2 hs) ?_
    refine E_iconst (0 : Int32) dX12_act_33 (by decide) ?_
    refine E_iald2 0 dX12_act_34 (sk_125 hs) (sn hs (by decide)) (vp_lit (by decide)) (by decide) ?_
    refine E_bipush (24 : Int32) dX12_act_35 (by decide) ?_
    refine E_icmp_ne 60 dX12_act_37 (by decide) (fun c => ?_) (fun c => ?_)
    · rw [if_neg c] at h
      refine E_aload_n 1 dX12_act_60 rfl rfl ?_
      obtain ⟨d13, σ14, hD15, hC16, h⟩ := h
      have hs17 := hC16.1.2.2.2.1 hs
      refine E_callV (As := []) (rest := []) (r1 := none) (b := 124) dX12_act_61 ok_X12_begin in_X12_begin se_X12_begin ml_X12_390 hD15 rfl rfl (Nat.le_of_ble_eq_true rfl) (sk_124 hs) (sn hs (by decide)) (by decide) rfl (by decide +kernel) hC16 ?_
      refine E_aload_n 1 dX12_act_64 rfl rfl ?_
      refine E_iconst (0 : Int32) dX12_act_65 (by decide) ?_
      refine E_putI dX12_act_66 fl_X12_357 rfl (Or.inl rfl) (sk_124 hs17) (sn hs17 (by decide)) (Or.inl (by decide)) rfl rfl ?_
      refine E_aload_n 1 dX12_act_69 rfl rfl ?_
      refine E_iconst (0 : Int32) dX12_act_70 (by decide) ?_
      refine E_putI dX12_act_71 fl_X12_220 rfl (Or.inl rfl) (sk_124 hs17) (sn hs17 (by decide)) (Or.inl (by decide)) rfl rfl ?_
      refine E_aload_n 1 dX12_act_74 rfl rfl ?_
      refine E_iconst (0 : Int32) dX12_act_75 (by decide) ?_
      refine E_putI dX12_act_76 fl_X12_281 rfl (Or.inl rfl) (sk_124 hs17) (sn hs17 (by decide)) (Or.inl (by decide)) rfl rfl ?_
      refine E_aload_n 1 dX12_act_79 rfl rfl ?_
      obtain ⟨d18, σ19, hD20, hC21, h⟩ := h
      have hs22 := hC21.1.2.2.2.1 hs17
      refine E_callV (As := []) (rest := []) (r1 := none) (b := 124) dX12_act_80 ok_X12_readClause in_X12_readClause se_X12_readClause ml_X12_393 hD20 rfl rfl (Nat.le_of_ble_eq_true rfl) (sk_124 hs17) (sn hs17 (by decide)) (by decide) rfl (by decide +kernel) hC21 ?_
      exact E_lv [1, 2, 3] rfl h
    · rw [if_pos c] at h
      exact E_lv [1, 0] rfl (w_X12_act_40 hs h)
def W_X12_act_23 (X : Sx) (l : Launch) (D : Nat) (x1 : Int32) (x2 : Int32) (σ : AH) (r : Option Value) (σ' : AH) : Prop := W_X12_act_24 X l D x1 x2 (0 : Int32) σ r σ'
set_option maxRecDepth 100000 in
theorem w_X12_act_23 {X : Sx} {l : Launch} {D : Nat} {x1 : Int32} {x2 : Int32} {σ : AH} {r : Option Value} {σ' : AH} (hs : Sh σ) (h : W_X12_act_23 X l D x1 x2 σ r σ') : E X l m_X12_act D 23 [(0, .ref 124), (1, .int x1), (2, .int x2)] [] σ r σ' := by
  unfold W_X12_act_23 at h
  refine E_iconst (0 : Int32) dX12_act_23 (by decide) ?_
  exact E_lv [0, 1, 2] rfl (w_X12_act_24 hs h)
def W_X12_act_0 (X : Sx) (l : Launch) (D : Nat) (x1 : Int32) (x2 : Int32) (σ : AH) (r : Option Value) (σ' : AH) : Prop := ∃ d1 : Nat, ∃ v6 : Int32, ∃ σ2 : AH, d1 + 1 ≤ D ∧ Call X l m_X12_isWeek d1 [.int x1] (sI σ 124 0 (0 : Int32)) (some (.int v6)) σ2 ∧ (if v6 = 0 then W_X12_act_23 X l D x1 x2 σ2 r σ' else ∃ d7 : Nat, ∃ v12 : Int32, ∃ σ8 : AH, d7 + 1 ≤ D ∧ Call X l m_X12_isWeek d7 [.int x2] σ2 (some (.int v12)) σ8 ∧ (if v12 = 0 then W_X12_act_23 X l D x1 x2 σ8 r σ' else W_X12_act_24 X l D x1 x2 (1 : Int32) σ8 r σ'))
set_option maxRecDepth 100000 in
theorem w_X12_act_0 {X : Sx} {l : Launch} {D : Nat} {x1 : Int32} {x2 : Int32} {σ : AH} {r : Option Value} {σ' : AH} (hs : Sh σ) (h : W_X12_act_0 X l D x1 x2 σ r σ') : E X l m_X12_act D 0 [(0, .ref 124), (1, .int x1), (2, .int x2)] [] σ r σ' := by
  unfold W_X12_act_0 at h
  refine E_aload_n 0 dX12_act_0 rfl rfl ?_
  refine E_iconst (0 : Int32) dX12_act_1 (by decide) ?_
  refine E_putI dX12_act_2 fl_X12_145 rfl (Or.inl rfl) (sk_124 hs) (sn hs (by decide)) (Or.inl (by decide)) rfl rfl ?_
  refine E_iload_n 1 dX12_act_5 rfl rfl ?_
  obtain ⟨d1, v6, σ2, hD3, hC4, h⟩ := h
  have hs5 := hC4.1.2.2.2.1 hs
  refine E_callS (As := [.int x1]) (rest := []) (r1 := (some (.int v6))) dX12_act_6 ok_X12_isWeek is_X12_isWeek ml_X12_387 hD3 rfl rfl (Nat.le_of_ble_eq_true rfl) (by decide +kernel) hC4 ?_
  refine E_if_eq 23 dX12_act_9 (by decide) (fun c => ?_) (fun c => ?_)
  · rw [if_pos c] at h
    exact E_lv [0, 1, 2] rfl (w_X12_act_23 hs5 h)
  · rw [if_neg c] at h
    refine E_iload_n 2 dX12_act_12 rfl rfl ?_
    obtain ⟨d7, v12, σ8, hD9, hC10, h⟩ := h
    have hs11 := hC10.1.2.2.2.1 hs5
    refine E_callS (As := [.int x2]) (rest := []) (r1 := (some (.int v12))) dX12_act_13 ok_X12_isWeek is_X12_isWeek ml_X12_387 hD9 rfl rfl (Nat.le_of_ble_eq_true rfl) (by decide +kernel) hC10 ?_
    refine E_if_eq 23 dX12_act_16 (by decide) (fun c => ?_) (fun c => ?_)
    · rw [if_pos c] at h
      exact E_lv [0, 1, 2] rfl (w_X12_act_23 hs11 h)
    · rw [if_neg c] at h
      refine E_iconst (1 : Int32) dX12_act_19 (by decide) ?_
      refine E_goto 24 dX12_act_20 (by decide) ?_
      exact E_lv [0, 1, 2] rfl (w_X12_act_24 hs11 h)
def W_X12_act_129 (X : Sx) (l : Launch) (D : Nat) (x1 : Int32) (x2 : Int32) (σ : AH) (r : Option Value) (σ' : AH) : Prop := (if (gI (sI σ 124 6 (0 : Int32)) 124 12) = 0 then ∃ d50 : Nat, ∃ v55 : Int32, ∃ σ51 : AH, d50 + 1 ≤ D ∧ Call X l m_X12_actAt d50 [.int (gI (sI σ 124 6 (0 : Int32)) 125 0)] (sI σ 124 6 (0 : Int32)) (some (.int v55)) σ51 ∧ vp_in v55 269832 ∧ vp_in (v55 + (1 : Int32)) 269832 ∧ vp_in (v55 + (2 : Int32)) 269832 ∧ (∀ τ59 : AH, τ59 = (sI (sI (sI σ51 125 v55.toNatClampNeg x1) 125 ((v55 + (1 : Int32)).toNatClampNeg) x2) 125 ((v55 + (2 : Int32)).toNatClampNeg) (gI (sI (sI σ51 125 v55.toNatClampNeg x1) 125 ((v55 + (1 : Int32)).toNatClampNeg) x2) 124 13)) → E X l m_X12_act D 193 [(0, .ref 124), (4, .int v55), (5, .int (0 : Int32))] [] τ59 r σ') else ∃ d62 : Nat, ∃ v67 : Int32, ∃ σ63 : AH, d62 + 1 ≤ D ∧ Call X l m_X12_told d62 [.ref 124, .int (-6 : Int32)] (sI σ 124 6 (0 : Int32)) (some (.int v67)) σ63 ∧ (r = some (.int v67) ∧ σ' = σ63))
set_option maxRecDepth 100000 in
theorem w_X12_act_129 {X : Sx} {l : Launch} {D : Nat} {x1 : Int32} {x2 : Int32} {σ : AH} {r : Option Value} {σ' : AH} (hs : Sh σ) (h : W_X12_act_129 X l D x1 x2 σ r σ') : E X l m_X12_act D 129 [(0, .ref 124), (1, .int x1), (2, .int x2)] [] σ r σ' := by
  unfold W_X12_act_129 at h
  refine E_aload_n 0 dX12_act_129 rfl rfl ?_
  refine E_iconst (0 : Int32) dX12_act_130 (by decide) ?_
  refine E_putI dX12_act_131 fl_X12_167 rfl (Or.inl rfl) (sk_124 hs) (sn hs (by decide)) (Or.inl (by decide)) rfl rfl ?_
  refine E_aload_n 0 dX12_act_134 rfl rfl ?_
  refine E_getI dX12_act_135 fl_X12_180 rfl (sk_124 hs) (sn hs (by decide)) ?_
  refine E_if_eq 148 dX12_act_138 (by decide) (fun c => ?_) (fun c => ?_)
  · rw [if_pos c] at h
    refine E_aload_n 0 dX12_act_148 rfl rfl ?_
    refine E_getR 125 dX12_act_149 fl_X12_8 rfl (sk_124 hs) (sn hs (by decide)) (sr_124_2 hs) ?_
    refine E_iconst (0 : Int32) dX12_act_152 (by decide) ?_
    refine E_iald2 0 dX12_act_153 (sk_125 hs) (sn hs (by decide)) (vp_lit (by decide)) (by decide) ?_
    obtain ⟨d50, v55, σ51, hD52, hC53, h⟩ := h
    have hs54 := hC53.1.2.2.2.1 hs
    refine E_callS (As := [.int (gI (sI σ 124 6 (0 : Int32)) 125 0)]) (rest := []) (r1 := (some (.int v55))) dX12_act_154 ok_X12_actAt is_X12_actAt ml_X12_396 hD52 rfl rfl (Nat.le_of_ble_eq_true rfl) (by decide +kernel) hC53 ?_
    refine E_istore [(4, .int v55), (0, .ref 124), (1, .int x1), (2, .int x2)] dX12_act_157 (by decide) rfl ?_
    refine E_aload_n 1 dX12_act_159 rfl rfl ?_
    refine E_getR 125 dX12_act_160 fl_X12_8 rfl (sk_124 hs54) (sn hs54 (by decide)) (sr_124_2 hs54) ?_
    refine E_iload 0 dX12_act_163 rfl ?_
    refine E_iload_n 2 dX12_act_165 rfl rfl ?_
    obtain ⟨g56, h⟩ := h
    refine E_iast2 (v55.toNatClampNeg) dX12_act_166 (sk_125 hs54) (sn hs54 (by decide)) (Or.inl (by decide)) g56 rfl ?_
    refine E_aload_n 1 dX12_act_167 rfl rfl ?_
    refine E_getR 125 dX12_act_168 fl_X12_8 rfl (sk_124 hs54) (sn hs54 (by decide)) (sr_124_2 hs54) ?_
    refine E_iload 0 dX12_act_171 rfl ?_
    refine E_iconst (1 : Int32) dX12_act_173 (by decide) ?_
    refine E_iadd dX12_act_174 ?_
    refine E_iload_n 3 dX12_act_175 rfl rfl ?_
    obtain ⟨g57, h⟩ := h
    refine E_iast2 ((v55 + (1 : Int32)).toNatClampNeg) dX12_act_176 (sk_125 hs54) (sn hs54 (by decide)) (Or.inl (by decide)) g57 rfl ?_
    refine E_aload_n 1 dX12_act_177 rfl rfl ?_
    refine E_getR 125 dX12_act_178 fl_X12_8 rfl (sk_124 hs54) (sn hs54 (by decide)) (sr_124_2 hs54) ?_
    refine E_iload 0 dX12_act_181 rfl ?_
    refine E_iconst (2 : Int32) dX12_act_183 (by decide) ?_
    refine E_iadd dX12_act_184 ?_
    refine E_aload_n 1 dX12_act_185 rfl rfl ?_
    refine E_getI dX12_act_186 fl_X12_357 rfl (sk_124 hs54) (sn hs54 (by decide)) ?_
    obtain ⟨g58, h⟩ := h
    refine E_iast2 ((v55 + (2 : Int32)).toNatClampNeg) dX12_act_189 (sk_125 hs54) (sn hs54 (by decide)) (Or.inl (by decide)) g58 rfl ?_
    obtain ⟨τ59, e60⟩ : ∃ τ : AH, τ = (sI (sI (sI σ51 125 v55.toNatClampNeg x1) 125 ((v55 + (1 : Int32)).toNatClampNeg) x2) 125 ((v55 + (2 : Int32)).toNatClampNeg) (gI (sI (sI σ51 125 v55.toNatClampNeg x1) 125 ((v55 + (1 : Int32)).toNatClampNeg) x2) 124 13)) := ⟨_, rfl⟩
    replace h := h τ59 e60
    rw [← e60]
    have hs61 : Sh τ59 := by rw [e60]; exact hs54
    refine E_iconst (0 : Int32) dX12_act_190 (by decide) ?_
    refine E_istore [(5, .int (0 : Int32)), (4, .int v55), (0, .ref 124), (1, .int x1), (2, .int x2)] dX12_act_191 (by decide) rfl ?_
    exact E_lv [2, 1, 0] rfl h
  · rw [if_neg c] at h
    refine E_aload_n 0 dX12_act_141 rfl rfl ?_
    refine E_bipush (-6 : Int32) dX12_act_142 (by decide) ?_
    obtain ⟨d62, v67, σ63, hD64, hC65, h⟩ := h
    have hs66 := hC65.1.2.2.2.1 hs
    refine E_callV (As := [.int (-6 : Int32)]) (rest := []) (r1 := (some (.int v67))) (b := 124) dX12_act_144 ok_X12_told in_X12_told se_X12_told ml_X12_163 hD64 rfl rfl (Nat.le_of_ble_eq_true rfl) (sk_124 hs) (sn hs (by decide)) (by decide) rfl (by decide +kernel) hC65 ?_
    obtain ⟨rfl, rfl⟩ := h
    exact E_iret dX12_act_147 rfl
def W_X12_act_110 (X : Sx) (l : Launch) (D : Nat) (x1 : Int32) (x2 : Int32) (σ : AH) (r : Option Value) (σ' : AH) : Prop := (if (gI σ 124 12) = 0 then (if (gI σ 124 9) = 0 then W_X12_act_129 X l D x1 x2 σ r σ' else ∃ d45 : Nat, ∃ σ46 : AH, d45 + 1 ≤ D ∧ Call X l m_X12_must d45 [.ref 124, .int (0 : Int32)] σ none σ46 ∧ W_X12_act_129 X l D x1 x2 σ46 r σ') else W_X12_act_129 X l D x1 x2 σ r σ')
set_option maxRecDepth 100000 in
theorem w_X12_act_110 {X : Sx} {l : Launch} {D : Nat} {x1 : Int32} {x2 : Int32} {σ : AH} {r : Option Value} {σ' : AH} (hs : Sh σ) (h : W_X12_act_110 X l D x1 x2 σ r σ') : E X l m_X12_act D 110 [(0, .ref 124), (1, .int x1), (2, .int x2)] [] σ r σ' := by
  unfold W_X12_act_110 at h
  refine E_aload_n 0 dX12_act_110 rfl rfl ?_
  refine E_getI dX12_act_111 fl_X12_180 rfl (sk_124 hs) (sn hs (by decide)) ?_
  refine E_if_ne 129 dX12_act_114 (by decide) (fun c => ?_) (fun c => ?_)
  · rw [if_neg c] at h
    exact E_lv [0, 1, 2] rfl (w_X12_act_129 hs h)
  · rw [if_pos c] at h
    refine E_aload_n 0 dX12_act_117 rfl rfl ?_
    refine E_getI dX12_act_118 fl_X12_201 rfl (sk_124 hs) (sn hs (by decide)) ?_
    refine E_if_eq 129 dX12_act_121 (by decide) (fun c => ?_) (fun c => ?_)
    · rw [if_pos c] at h
      exact E_lv [0, 1, 2] rfl (w_X12_act_129 hs h)
    · rw [if_neg c] at h
      refine E_aload_n 0 dX12_act_124 rfl rfl ?_
      refine E_iconst (0 : Int32) dX12_act_125 (by decide) ?_
      obtain ⟨d45, σ46, hD47, hC48, h⟩ := h
      have hs49 := hC48.1.2.2.2.1 hs
      refine E_callV (As := [.int (0 : Int32)]) (rest := []) (r1 := none) (b := 124) dX12_act_126 ok_X12_must in_X12_must se_X12_must ml_X12_216 hD47 rfl rfl (Nat.le_of_ble_eq_true rfl) (sk_124 hs) (sn hs (by decide)) (by decide) rfl (by decide +kernel) hC48 ?_
      exact E_lv [0, 1, 2] rfl (w_X12_act_129 hs49 h)
def W_X12_act_83 (X : Sx) (l : Launch) (D : Nat) (x1 : Int32) (x2 : Int32) (σ : AH) (r : Option Value) (σ' : AH) : Prop := (if (gI σ 124 12) = 0 then ∃ d23 : Nat, ∃ v28 : Int32, ∃ σ24 : AH, d23 + 1 ≤ D ∧ Call X l m_X12_isSign d23 [.ref 124, .int (59 : Int32)] σ (some (.int v28)) σ24 ∧ (if v28 = 0 then W_X12_act_110 X l D x1 x2 σ24 r σ' else ∃ d29 : Nat, ∃ σ30 : AH, d29 + 1 ≤ D ∧ Call X l m_X12_next d29 [.ref 124] σ24 none σ30 ∧ ∃ d34 : Nat, ∃ σ35 : AH, d34 + 1 ≤ D ∧ Call X l m_X12_readClause d34 [.ref 124] σ30 none σ35 ∧ E X l m_X12_act D 83 [(0, .ref 124), (1, .int x1), (2, .int x2)] [] σ35 r σ') else W_X12_act_110 X l D x1 x2 σ r σ')
set_option maxRecDepth 100000 in
theorem w_X12_act_83 {X : Sx} {l : Launch} {D : Nat} {x1 : Int32} {x2 : Int32} {σ : AH} {r : Option Value} {σ' : AH} (hs : Sh σ) (h : W_X12_act_83 X l D x1 x2 σ r σ') : E X l m_X12_act D 83 [(0, .ref 124), (1, .int x1), (2, .int x2)] [] σ r σ' := by
  unfold W_X12_act_83 at h
  refine E_aload_n 0 dX12_act_83 rfl rfl ?_
  refine E_getI dX12_act_84 fl_X12_180 rfl (sk_124 hs) (sn hs (by decide)) ?_
  refine E_if_ne 110 dX12_act_87 (by decide) (fun c => ?_) (fun c => ?_)
  · rw [if_neg c] at h
    exact E_lv [0, 1, 2] rfl (w_X12_act_110 hs h)
  · rw [if_pos c] at h
    refine E_aload_n 0 dX12_act_90 rfl rfl ?_
    refine E_bipush (59 : Int32) dX12_act_91 (by decide) ?_
    obtain ⟨d23, v28, σ24, hD25, hC26, h⟩ := h
    have hs27 := hC26.1.2.2.2.1 hs
    refine E_callV (As := [.int (59 : Int32)]) (rest := []) (r1 := (some (.int v28))) (b := 124) dX12_act_93 ok_X12_isSign in_X12_isSign se_X12_isSign ml_X12_265 hD25 rfl rfl (Nat.le_of_ble_eq_true rfl) (sk_124 hs) (sn hs (by decide)) (by decide) rfl (by decide +kernel) hC26 ?_
    refine E_if_eq 110 dX12_act_96 (by decide) (fun c => ?_) (fun c => ?_)
    · rw [if_pos c] at h
      exact E_lv [0, 1, 2] rfl (w_X12_act_110 hs27 h)
    · rw [if_neg c] at h
      refine E_aload_n 0 dX12_act_99 rfl rfl ?_
      obtain ⟨d29, σ30, hD31, hC32, h⟩ := h
      have hs33 := hC32.1.2.2.2.1 hs27
      refine E_callV (As := []) (rest := []) (r1 := none) (b := 124) dX12_act_100 ok_X12_next in_X12_next se_X12_next ml_X12_184 hD31 rfl rfl (Nat.le_of_ble_eq_true rfl) (sk_124 hs27) (sn hs27 (by decide)) (by decide) rfl (by decide +kernel) hC32 ?_
      refine E_aload_n 0 dX12_act_103 rfl rfl ?_
      obtain ⟨d34, σ35, hD36, hC37, h⟩ := h
      have hs38 := hC37.1.2.2.2.1 hs33
      refine E_callV (As := []) (rest := []) (r1 := none) (b := 124) dX12_act_104 ok_X12_readClause in_X12_readClause se_X12_readClause ml_X12_393 hD36 rfl rfl (Nat.le_of_ble_eq_true rfl) (sk_124 hs33) (sn hs33 (by decide)) (by decide) rfl (by decide +kernel) hC37 ?_
      refine E_goto 83 dX12_act_107 (by decide) ?_
      exact E_lv [0, 1, 2] rfl h
def W_X12_act_193 (X : Sx) (l : Launch) (D : Nat) (x4 : Int32) (x5 : Int32) (σ : AH) (r : Option Value) (σ' : AH) : Prop := (if ((9 : Int32) * (gI σ 124 13)) ≤ x5 then E X l m_X12_act D 233 [(0, .ref 124), (4, .int x4), (5, .int (0 : Int32))] [] σ r σ' else vp_in x5 144 ∧ vp_in ((x4 + (3 : Int32)) + x5) 269832 ∧ E X l m_X12_act D 193 [(0, .ref 124), (4, .int x4), (5, .int (x5 + 1))] [] (sI σ 125 (((x4 + (3 : Int32)) + x5).toNatClampNeg) (gI σ 129 x5.toNatClampNeg)) r σ')
set_option maxRecDepth 100000 in
theorem w_X12_act_193 {X : Sx} {l : Launch} {D : Nat} {x4 : Int32} {x5 : Int32} {σ : AH} {r : Option Value} {σ' : AH} (hs : Sh σ) (h : W_X12_act_193 X l D x4 x5 σ r σ') : E X l m_X12_act D 193 [(0, .ref 124), (4, .int x4), (5, .int x5)] [] σ r σ' := by
  unfold W_X12_act_193 at h
  refine E_iload 2 dX12_act_193 rfl ?_
  refine E_bipush (9 : Int32) dX12_act_195 (by decide) ?_
  refine E_aload_n 0 dX12_act_197 rfl rfl ?_
  refine E_getI dX12_act_198 fl_X12_357 rfl (sk_124 hs) (sn hs (by decide)) ?_
  refine E_imul dX12_act_201 ?_
  refine E_icmp_ge 230 dX12_act_202 (by decide) (fun c => ?_) (fun c => ?_)
  · rw [if_pos c] at h
    refine E_iconst (0 : Int32) dX12_act_230 (by decide) ?_
    refine E_istore [(5, .int (0 : Int32)), (0, .ref 124), (4, .int x4)] dX12_act_231 (by decide) rfl ?_
    exact E_lv [1, 2, 0] rfl h
  · rw [if_neg c] at h
    refine E_aload_n 0 dX12_act_205 rfl rfl ?_
    refine E_getR 125 dX12_act_206 fl_X12_8 rfl (sk_124 hs) (sn hs (by decide)) (sr_124_2 hs) ?_
    refine E_iload 1 dX12_act_209 rfl ?_
    refine E_iconst (3 : Int32) dX12_act_211 (by decide) ?_
    refine E_iadd dX12_act_212 ?_
    refine E_iload 2 dX12_act_213 rfl ?_
    refine E_iadd dX12_act_215 ?_
    refine E_aload_n 0 dX12_act_216 rfl rfl ?_
    refine E_getR 129 dX12_act_217 fl_X12_29 rfl (sk_124 hs) (sn hs (by decide)) (sr_124_14 hs) ?_
    refine E_iload 2 dX12_act_220 rfl ?_
    obtain ⟨g68, h⟩ := h
    refine E_iald2 (x5.toNatClampNeg) dX12_act_222 (sk_129 hs) (sn hs (by decide)) g68 rfl ?_
    obtain ⟨g69, h⟩ := h
    refine E_iast2 (((x4 + (3 : Int32)) + x5).toNatClampNeg) dX12_act_223 (sk_125 hs) (sn hs (by decide)) (Or.inl (by decide)) g69 rfl ?_
    refine E_iinc 2 (x5 + 1) [(5, .int (x5 + 1)), (0, .ref 124), (4, .int x4)] dX12_act_224 rfl (congrArg (x5 + ·) (by decide : Int32.ofInt 1 = 1)) (by decide) rfl ?_
    refine E_goto 193 dX12_act_227 (by decide) ?_
    exact E_lv [1, 2, 0] rfl h
def W_X12_act_233 (X : Sx) (l : Launch) (D : Nat) (x4 : Int32) (x5 : Int32) (σ : AH) (r : Option Value) (σ' : AH) : Prop := (if (gI σ 124 15) ≤ x5 then ∃ d70 : Nat, ∃ v75 : Int32, ∃ σ71 : AH, d70 + 1 ≤ D ∧ Call X l m_X12_told d70 [.ref 124, .int ((gI (sI σ 125 0 ((gI σ 125 0) + (1 : Int32))) 125 0) - (1 : Int32))] (sI σ 125 0 ((gI σ 125 0) + (1 : Int32))) (some (.int v75)) σ71 ∧ (r = some (.int v75) ∧ σ' = σ71) else vp_in x5 400 ∧ vp_in ((x4 + (147 : Int32)) + ((2 : Int32) * x5)) 269832 ∧ vp_in x5 400 ∧ vp_in (((x4 + (147 : Int32)) + ((2 : Int32) * x5)) + (1 : Int32)) 269832 ∧ (∀ τ80 : AH, τ80 = (sI (sI σ 125 (((x4 + (147 : Int32)) + ((2 : Int32) * x5)).toNatClampNeg) (gI σ 130 x5.toNatClampNeg)) 125 ((((x4 + (147 : Int32)) + ((2 : Int32) * x5)) + (1 : Int32)).toNatClampNeg) (gI (sI σ 125 (((x4 + (147 : Int32)) + ((2 : Int32) * x5)).toNatClampNeg) (gI σ 130 x5.toNatClampNeg)) 131 x5.toNatClampNeg)) → E X l m_X12_act D 233 [(0, .ref 124), (4, .int x4), (5, .int (x5 + 1))] [] τ80 r σ'))
set_option maxRecDepth 100000 in
theorem w_X12_act_233 {X : Sx} {l : Launch} {D : Nat} {x4 : Int32} {x5 : Int32} {σ : AH} {r : Option Value} {σ' : AH} (hs : Sh σ) (h : W_X12_act_233 X l D x4 x5 σ r σ') : E X l m_X12_act D 233 [(0, .ref 124), (4, .int x4), (5, .int x5)] [] σ r σ' := by
  unfold W_X12_act_233 at h
  refine E_iload 2 dX12_act_233 rfl ?_
  refine E_aload_n 0 dX12_act_235 rfl rfl ?_
  refine E_getI dX12_act_236 fl_X12_220 rfl (sk_124 hs) (sn hs (by decide)) ?_
  refine E_icmp_ge 296 dX12_act_239 (by decide) (fun c => ?_) (fun c => ?_)
  · rw [if_pos c] at h
    refine E_aload_n 0 dX12_act_296 rfl rfl ?_
    refine E_getR 125 dX12_act_297 fl_X12_8 rfl (sk_124 hs) (sn hs (by decide)) (sr_124_2 hs) ?_
    refine E_iconst (0 : Int32) dX12_act_300 (by decide) ?_
    refine E_dup2 dX12_act_301 rfl rfl ?_
    refine E_iald2 0 dX12_act_302 (sk_125 hs) (sn hs (by decide)) (vp_lit (by decide)) (by decide) ?_
    refine E_iconst (1 : Int32) dX12_act_303 (by decide) ?_
    refine E_iadd dX12_act_304 ?_
    refine E_iast2 0 dX12_act_305 (sk_125 hs) (sn hs (by decide)) (Or.inl (by decide)) (vp_lit (by decide)) (by decide) ?_
    refine E_aload_n 0 dX12_act_306 rfl rfl ?_
    refine E_aload_n 0 dX12_act_307 rfl rfl ?_
    refine E_getR 125 dX12_act_308 fl_X12_8 rfl (sk_124 hs) (sn hs (by decide)) (sr_124_2 hs) ?_
    refine E_iconst (0 : Int32) dX12_act_311 (by decide) ?_
    refine E_iald2 0 dX12_act_312 (sk_125 hs) (sn hs (by decide)) (vp_lit (by decide)) (by decide) ?_
    refine E_iconst (1 : Int32) dX12_act_313 (by decide) ?_
    refine E_isub dX12_act_314 ?_
    obtain ⟨d70, v75, σ71, hD72, hC73, h⟩ := h
    have hs74 := hC73.1.2.2.2.1 hs
    refine E_callV (As := [.int ((gI (sI σ 125 0 ((gI σ 125 0) + (1 : Int32))) 125 0) - (1 : Int32))]) (rest := []) (r1 := (some (.int v75))) (b := 124) dX12_act_315 ok_X12_told in_X12_told se_X12_told ml_X12_163 hD72 rfl rfl (Nat.le_of_ble_eq_true rfl) (sk_124 hs) (sn hs (by decide)) (by decide) rfl (by decide +kernel) hC73 ?_
    obtain ⟨rfl, rfl⟩ := h
    exact E_iret dX12_act_318 rfl
  · rw [if_neg c] at h
    refine E_aload_n 0 dX12_act_242 rfl rfl ?_
    refine E_getR 125 dX12_act_243 fl_X12_8 rfl (sk_124 hs) (sn hs (by decide)) (sr_124_2 hs) ?_
    refine E_iload 1 dX12_act_246 rfl ?_
    refine E_sipush (147 : Int32) dX12_act_248 (by decide) ?_
    refine E_iadd dX12_act_251 ?_
    refine E_iconst (2 : Int32) dX12_act_252 (by decide) ?_
    refine E_iload 2 dX12_act_253 rfl ?_
    refine E_imul dX12_act_255 ?_
    refine E_iadd dX12_act_256 ?_
    refine E_aload_n 0 dX12_act_257 rfl rfl ?_
    refine E_getR 130 dX12_act_258 fl_X12_32 rfl (sk_124 hs) (sn hs (by decide)) (sr_124_16 hs) ?_
    refine E_iload 2 dX12_act_261 rfl ?_
    obtain ⟨g76, h⟩ := h
    refine E_iald2 (x5.toNatClampNeg) dX12_act_263 (sk_130 hs) (sn hs (by decide)) g76 rfl ?_
    obtain ⟨g77, h⟩ := h
    refine E_iast2 (((x4 + (147 : Int32)) + ((2 : Int32) * x5)).toNatClampNeg) dX12_act_264 (sk_125 hs) (sn hs (by decide)) (Or.inl (by decide)) g77 rfl ?_
    refine E_aload_n 0 dX12_act_265 rfl rfl ?_
    refine E_getR 125 dX12_act_266 fl_X12_8 rfl (sk_124 hs) (sn hs (by decide)) (sr_124_2 hs) ?_
    refine E_iload 1 dX12_act_269 rfl ?_
    refine E_sipush (147 : Int32) dX12_act_271 (by decide) ?_
    refine E_iadd dX12_act_274 ?_
    refine E_iconst (2 : Int32) dX12_act_275 (by decide) ?_
    refine E_iload 2 dX12_act_276 rfl ?_
    refine E_imul dX12_act_278 ?_
    refine E_iadd dX12_act_279 ?_
    refine E_iconst (1 : Int32) dX12_act_280 (by decide) ?_
    refine E_iadd dX12_act_281 ?_
    refine E_aload_n 0 dX12_act_282 rfl rfl ?_
    refine E_getR 131 dX12_act_283 fl_X12_35 rfl (sk_124 hs) (sn hs (by decide)) (sr_124_17 hs) ?_
    refine E_iload 2 dX12_act_286 rfl ?_
    obtain ⟨g78, h⟩ := h
    refine E_iald2 (x5.toNatClampNeg) dX12_act_288 (sk_131 hs) (sn hs (by decide)) g78 rfl ?_
    obtain ⟨g79, h⟩ := h
    refine E_iast2 ((((x4 + (147 : Int32)) + ((2 : Int32) * x5)) + (1 : Int32)).toNatClampNeg) dX12_act_289 (sk_125 hs) (sn hs (by decide)) (Or.inl (by decide)) g79 rfl ?_
    obtain ⟨τ80, e81⟩ : ∃ τ : AH, τ = (sI (sI σ 125 (((x4 + (147 : Int32)) + ((2 : Int32) * x5)).toNatClampNeg) (gI σ 130 x5.toNatClampNeg)) 125 ((((x4 + (147 : Int32)) + ((2 : Int32) * x5)) + (1 : Int32)).toNatClampNeg) (gI (sI σ 125 (((x4 + (147 : Int32)) + ((2 : Int32) * x5)).toNatClampNeg) (gI σ 130 x5.toNatClampNeg)) 131 x5.toNatClampNeg)) := ⟨_, rfl⟩
    replace h := h τ80 e81
    rw [← e81]
    have hs82 : Sh τ80 := by rw [e81]; exact hs
    refine E_iinc 2 (x5 + 1) [(5, .int (x5 + 1)), (0, .ref 124), (4, .int x4)] dX12_act_290 rfl (congrArg (x5 + ·) (by decide : Int32.ofInt 1 = 1)) (by decide) rfl ?_
    refine E_goto 233 dX12_act_293 (by decide) ?_
    exact E_lv [1, 2, 0] rfl h
def W_X12_actAt_0 (X : Sx) (l : Launch) (D : Nat) (x0 : Int32) (σ : AH) (r : Option Value) (σ' : AH) : Prop := (r = some (.int ((20 : Int32) + ((947 : Int32) * x0))) ∧ σ' = σ)
set_option maxRecDepth 100000 in
theorem w_X12_actAt_0 {X : Sx} {l : Launch} {D : Nat} {x0 : Int32} {σ : AH} {r : Option Value} {σ' : AH} (hs : Sh σ) (h : W_X12_actAt_0 X l D x0 σ r σ') : E X l m_X12_actAt D 0 [(0, .int x0)] [] σ r σ' := by
  unfold W_X12_actAt_0 at h
  refine E_bipush (20 : Int32) dX12_actAt_0 (by decide) ?_
  refine E_sipush (947 : Int32) dX12_actAt_2 (by decide) ?_
  refine E_iload_n 0 dX12_actAt_5 rfl rfl ?_
  refine E_imul dX12_actAt_6 ?_
  refine E_iadd dX12_actAt_7 ?_
  obtain ⟨rfl, rfl⟩ := h
  exact E_iret dX12_actAt_8 rfl
def W_X12_clauseAt_0 (X : Sx) (l : Launch) (D : Nat) (x0 : Int32) (x1 : Int32) (σ : AH) (r : Option Value) (σ' : AH) : Prop := ∃ d1 : Nat, ∃ v6 : Int32, ∃ σ2 : AH, d1 + 1 ≤ D ∧ Call X l m_X12_actAt d1 [.int x0] σ (some (.int v6)) σ2 ∧ (r = some (.int ((v6 + (3 : Int32)) + ((9 : Int32) * x1))) ∧ σ' = σ2)
set_option maxRecDepth 100000 in
theorem w_X12_clauseAt_0 {X : Sx} {l : Launch} {D : Nat} {x0 : Int32} {x1 : Int32} {σ : AH} {r : Option Value} {σ' : AH} (hs : Sh σ) (h : W_X12_clauseAt_0 X l D x0 x1 σ r σ') : E X l m_X12_clauseAt D 0 [(0, .int x0), (1, .int x1)] [] σ r σ' := by
  unfold W_X12_clauseAt_0 at h
  refine E_iload_n 0 dX12_clauseAt_0 rfl rfl ?_
  obtain ⟨d1, v6, σ2, hD3, hC4, h⟩ := h
  have hs5 := hC4.1.2.2.2.1 hs
  refine E_callS (As := [.int x0]) (rest := []) (r1 := (some (.int v6))) dX12_clauseAt_1 ok_X12_actAt is_X12_actAt ml_X12_396 hD3 rfl rfl (Nat.le_of_ble_eq_true rfl) (by decide +kernel) hC4 ?_
  refine E_iconst (3 : Int32) dX12_clauseAt_4 (by decide) ?_
  refine E_iadd dX12_clauseAt_5 ?_
  refine E_bipush (9 : Int32) dX12_clauseAt_6 (by decide) ?_
  refine E_iload_n 1 dX12_clauseAt_8 rfl rfl ?_
  refine E_imul dX12_clauseAt_9 ?_
  refine E_iadd dX12_clauseAt_10 ?_
  obtain ⟨rfl, rfl⟩ := h
  exact E_iret dX12_clauseAt_11 rfl
