theorem dX12_findForce_0 : decode cX12_findForce 0 = .ok (.aload_n 0, 1) := by decide +kernel
theorem dX12_findForce_1 : decode cX12_findForce 1 = .ok (.getfield 44, 3) := by decide +kernel
theorem dX12_findForce_4 : decode cX12_findForce 4 = .ok (.iload_n 1, 1) := by decide +kernel
theorem dX12_findForce_5 : decode cX12_findForce 5 = .ok (.if_icmp .ne 4, 3) := by decide +kernel
theorem dX12_findForce_8 : decode cX12_findForce 8 = .ok (.return_, 1) := by decide +kernel
theorem dX12_findForce_9 : decode cX12_findForce 9 = .ok (.aload_n 0, 1) := by decide +kernel
theorem dX12_findForce_10 : decode cX12_findForce 10 = .ok (.iload_n 1, 1) := by decide +kernel
theorem dX12_findForce_11 : decode cX12_findForce 11 = .ok (.putfield 44, 3) := by decide +kernel
theorem dX12_findForce_14 : decode cX12_findForce 14 = .ok (.iconst 0, 1) := by decide +kernel
theorem dX12_findForce_15 : decode cX12_findForce 15 = .ok (.istore_n 2, 1) := by decide +kernel
theorem dX12_findForce_16 : decode cX12_findForce 16 = .ok (.iload_n 2, 1) := by decide +kernel
theorem dX12_findForce_17 : decode cX12_findForce 17 = .ok (.sipush 384, 3) := by decide +kernel
theorem dX12_findForce_20 : decode cX12_findForce 20 = .ok (.if_icmp .ge 16, 3) := by decide +kernel
theorem dX12_findForce_23 : decode cX12_findForce 23 = .ok (.aload_n 0, 1) := by decide +kernel
theorem dX12_findForce_24 : decode cX12_findForce 24 = .ok (.getfield 50, 3) := by decide +kernel
theorem dX12_findForce_27 : decode cX12_findForce 27 = .ok (.iload_n 2, 1) := by decide +kernel
theorem dX12_findForce_28 : decode cX12_findForce 28 = .ok (.iconst 0, 1) := by decide +kernel
theorem dX12_findForce_29 : decode cX12_findForce 29 = .ok (.bastore, 1) := by decide +kernel
theorem dX12_findForce_30 : decode cX12_findForce 30 = .ok (.iinc 2 1, 3) := by decide +kernel
theorem dX12_findForce_33 : decode cX12_findForce 33 = .ok (.goto (-17), 3) := by decide +kernel
theorem dX12_findForce_36 : decode cX12_findForce 36 = .ok (.aload_n 0, 1) := by decide +kernel
theorem dX12_findForce_37 : decode cX12_findForce 37 = .ok (.getfield 8, 3) := by decide +kernel
theorem dX12_findForce_40 : decode cX12_findForce 40 = .ok (.iconst 0, 1) := by decide +kernel
theorem dX12_findForce_41 : decode cX12_findForce 41 = .ok (.iaload, 1) := by decide +kernel
theorem dX12_findForce_42 : decode cX12_findForce 42 = .ok (.iconst 1, 1) := by decide +kernel
theorem dX12_findForce_43 : decode cX12_findForce 43 = .ok (.isub, 1) := by decide +kernel
theorem dX12_findForce_44 : decode cX12_findForce 44 = .ok (.istore_n 2, 1) := by decide +kernel
theorem dX12_findForce_45 : decode cX12_findForce 45 = .ok (.iload_n 2, 1) := by decide +kernel
theorem dX12_findForce_46 : decode cX12_findForce 46 = .ok (.ifCond .lt 155, 3) := by decide +kernel
theorem dX12_findForce_49 : decode cX12_findForce 49 = .ok (.iload_n 2, 1) := by decide +kernel
theorem dX12_findForce_50 : decode cX12_findForce 50 = .ok (.invokestatic 396, 3) := by decide +kernel
theorem dX12_findForce_53 : decode cX12_findForce 53 = .ok (.istore_n 3, 1) := by decide +kernel
theorem dX12_findForce_54 : decode cX12_findForce 54 = .ok (.aload_n 0, 1) := by decide +kernel
theorem dX12_findForce_55 : decode cX12_findForce 55 = .ok (.getfield 47, 3) := by decide +kernel
theorem dX12_findForce_58 : decode cX12_findForce 58 = .ok (.iload_n 2, 1) := by decide +kernel
theorem dX12_findForce_59 : decode cX12_findForce 59 = .ok (.aload_n 0, 1) := by decide +kernel
theorem dX12_findForce_60 : decode cX12_findForce 60 = .ok (.getfield 8, 3) := by decide +kernel
theorem dX12_findForce_63 : decode cX12_findForce 63 = .ok (.iload_n 3, 1) := by decide +kernel
theorem dX12_findForce_64 : decode cX12_findForce 64 = .ok (.iconst 1, 1) := by decide +kernel
theorem dX12_findForce_65 : decode cX12_findForce 65 = .ok (.iadd, 1) := by decide +kernel
theorem dX12_findForce_66 : decode cX12_findForce 66 = .ok (.iaload, 1) := by decide +kernel
theorem dX12_findForce_67 : decode cX12_findForce 67 = .ok (.aload_n 0, 1) := by decide +kernel
theorem dX12_findForce_68 : decode cX12_findForce 68 = .ok (.getfield 399, 3) := by decide +kernel
theorem dX12_findForce_71 : decode cX12_findForce 71 = .ok (.if_icmp .gt 17, 3) := by decide +kernel
theorem dX12_findForce_74 : decode cX12_findForce 74 = .ok (.aload_n 0, 1) := by decide +kernel
theorem dX12_findForce_75 : decode cX12_findForce 75 = .ok (.getfield 8, 3) := by decide +kernel
theorem dX12_findForce_78 : decode cX12_findForce 78 = .ok (.iload_n 3, 1) := by decide +kernel
theorem dX12_findForce_79 : decode cX12_findForce 79 = .ok (.iaload, 1) := by decide +kernel
theorem dX12_findForce_80 : decode cX12_findForce 80 = .ok (.iload_n 1, 1) := by decide +kernel
theorem dX12_findForce_81 : decode cX12_findForce 81 = .ok (.if_icmp .gt 7, 3) := by decide +kernel
theorem dX12_findForce_84 : decode cX12_findForce 84 = .ok (.iconst 1, 1) := by decide +kernel
theorem dX12_findForce_85 : decode cX12_findForce 85 = .ok (.goto 4, 3) := by decide +kernel
theorem dX12_findForce_88 : decode cX12_findForce 88 = .ok (.iconst 0, 1) := by decide +kernel
theorem dX12_findForce_89 : decode cX12_findForce 89 = .ok (.bastore, 1) := by decide +kernel
theorem dX12_findForce_90 : decode cX12_findForce 90 = .ok (.iconst 0, 1) := by decide +kernel
theorem dX12_findForce_91 : decode cX12_findForce 91 = .ok (.istore 4, 2) := by decide +kernel
theorem dX12_findForce_93 : decode cX12_findForce 93 = .ok (.iload 4, 2) := by decide +kernel
theorem dX12_findForce_95 : decode cX12_findForce 95 = .ok (.aload_n 0, 1) := by decide +kernel
theorem dX12_findForce_96 : decode cX12_findForce 96 = .ok (.getfield 8, 3) := by decide +kernel
theorem dX12_findForce_99 : decode cX12_findForce 99 = .ok (.iload_n 3, 1) := by decide +kernel
theorem dX12_findForce_100 : decode cX12_findForce 100 = .ok (.iconst 2, 1) := by decide +kernel
theorem dX12_findForce_101 : decode cX12_findForce 101 = .ok (.iadd, 1) := by decide +kernel
theorem dX12_findForce_102 : decode cX12_findForce 102 = .ok (.iaload, 1) := by decide +kernel
theorem dX12_findForce_103 : decode cX12_findForce 103 = .ok (.if_icmp .ge 92, 3) := by decide +kernel
theorem dX12_findForce_106 : decode cX12_findForce 106 = .ok (.aload_n 0, 1) := by decide +kernel
theorem dX12_findForce_107 : decode cX12_findForce 107 = .ok (.getfield 47, 3) := by decide +kernel
theorem dX12_findForce_110 : decode cX12_findForce 110 = .ok (.iload_n 2, 1) := by decide +kernel
theorem dX12_findForce_111 : decode cX12_findForce 111 = .ok (.baload, 1) := by decide +kernel
theorem dX12_findForce_112 : decode cX12_findForce 112 = .ok (.ifCond .eq 83, 3) := by decide +kernel
theorem dX12_findForce_115 : decode cX12_findForce 115 = .ok (.iload_n 2, 1) := by decide +kernel
theorem dX12_findForce_116 : decode cX12_findForce 116 = .ok (.iload 4, 2) := by decide +kernel
theorem dX12_findForce_118 : decode cX12_findForce 118 = .ok (.invokestatic 402, 3) := by decide +kernel
theorem dX12_findForce_121 : decode cX12_findForce 121 = .ok (.istore 5, 2) := by decide +kernel
theorem dX12_findForce_123 : decode cX12_findForce 123 = .ok (.aload_n 0, 1) := by decide +kernel
theorem dX12_findForce_124 : decode cX12_findForce 124 = .ok (.getfield 8, 3) := by decide +kernel
theorem dX12_findForce_127 : decode cX12_findForce 127 = .ok (.iload 5, 2) := by decide +kernel
theorem dX12_findForce_129 : decode cX12_findForce 129 = .ok (.iaload, 1) := by decide +kernel
theorem dX12_findForce_130 : decode cX12_findForce 130 = .ok (.ifCond .ne 59, 3) := by decide +kernel
theorem dX12_findForce_133 : decode cX12_findForce 133 = .ok (.aload_n 0, 1) := by decide +kernel
theorem dX12_findForce_134 : decode cX12_findForce 134 = .ok (.getfield 50, 3) := by decide +kernel
theorem dX12_findForce_137 : decode cX12_findForce 137 = .ok (.bipush 16, 2) := by decide +kernel
theorem dX12_findForce_139 : decode cX12_findForce 139 = .ok (.iload_n 2, 1) := by decide +kernel
theorem dX12_findForce_140 : decode cX12_findForce 140 = .ok (.imul, 1) := by decide +kernel
theorem dX12_findForce_141 : decode cX12_findForce 141 = .ok (.iload 4, 2) := by decide +kernel
theorem dX12_findForce_143 : decode cX12_findForce 143 = .ok (.iadd, 1) := by decide +kernel
theorem dX12_findForce_144 : decode cX12_findForce 144 = .ok (.baload, 1) := by decide +kernel
theorem dX12_findForce_145 : decode cX12_findForce 145 = .ok (.ifCond .ne 44, 3) := by decide +kernel
theorem dX12_findForce_148 : decode cX12_findForce 148 = .ok (.aload_n 0, 1) := by decide +kernel
theorem dX12_findForce_149 : decode cX12_findForce 149 = .ok (.getfield 8, 3) := by decide +kernel
theorem dX12_findForce_152 : decode cX12_findForce 152 = .ok (.iload 5, 2) := by decide +kernel
theorem dX12_findForce_154 : decode cX12_findForce 154 = .ok (.iconst 1, 1) := by decide +kernel
theorem dX12_findForce_155 : decode cX12_findForce 155 = .ok (.iadd, 1) := by decide +kernel
theorem dX12_findForce_156 : decode cX12_findForce 156 = .ok (.iaload, 1) := by decide +kernel
theorem dX12_findForce_157 : decode cX12_findForce 157 = .ok (.iload_n 2, 1) := by decide +kernel
theorem dX12_findForce_158 : decode cX12_findForce 158 = .ok (.if_icmp .ge 31, 3) := by decide +kernel
theorem dX12_findForce_161 : decode cX12_findForce 161 = .ok (.aload_n 0, 1) := by decide +kernel
theorem dX12_findForce_162 : decode cX12_findForce 162 = .ok (.getfield 50, 3) := by decide +kernel
theorem dX12_findForce_165 : decode cX12_findForce 165 = .ok (.bipush 16, 2) := by decide +kernel
theorem dX12_findForce_167 : decode cX12_findForce 167 = .ok (.aload_n 0, 1) := by decide +kernel
theorem dX12_findForce_168 : decode cX12_findForce 168 = .ok (.getfield 8, 3) := by decide +kernel
theorem dX12_findForce_171 : decode cX12_findForce 171 = .ok (.iload 5, 2) := by decide +kernel
theorem dX12_findForce_173 : decode cX12_findForce 173 = .ok (.iconst 1, 1) := by decide +kernel
theorem dX12_findForce_174 : decode cX12_findForce 174 = .ok (.iadd, 1) := by decide +kernel
theorem dX12_findForce_175 : decode cX12_findForce 175 = .ok (.iaload, 1) := by decide +kernel
theorem dX12_findForce_176 : decode cX12_findForce 176 = .ok (.imul, 1) := by decide +kernel
theorem dX12_findForce_177 : decode cX12_findForce 177 = .ok (.aload_n 0, 1) := by decide +kernel
theorem dX12_findForce_178 : decode cX12_findForce 178 = .ok (.getfield 8, 3) := by decide +kernel
theorem dX12_findForce_181 : decode cX12_findForce 181 = .ok (.iload 5, 2) := by decide +kernel
theorem dX12_findForce_183 : decode cX12_findForce 183 = .ok (.iconst 2, 1) := by decide +kernel
theorem dX12_findForce_184 : decode cX12_findForce 184 = .ok (.iadd, 1) := by decide +kernel
theorem dX12_findForce_185 : decode cX12_findForce 185 = .ok (.iaload, 1) := by decide +kernel
theorem dX12_findForce_186 : decode cX12_findForce 186 = .ok (.iadd, 1) := by decide +kernel
theorem dX12_findForce_187 : decode cX12_findForce 187 = .ok (.iconst 1, 1) := by decide +kernel
theorem dX12_findForce_188 : decode cX12_findForce 188 = .ok (.bastore, 1) := by decide +kernel
theorem dX12_findForce_189 : decode cX12_findForce 189 = .ok (.iinc 4 1, 3) := by decide +kernel
theorem dX12_findForce_192 : decode cX12_findForce 192 = .ok (.goto (-99), 3) := by decide +kernel
theorem dX12_findForce_195 : decode cX12_findForce 195 = .ok (.iinc 2 (-1), 3) := by decide +kernel
theorem dX12_findForce_198 : decode cX12_findForce 198 = .ok (.goto (-153), 3) := by decide +kernel
theorem dX12_findForce_201 : decode cX12_findForce 201 = .ok (.return_, 1) := by decide +kernel
theorem dX12_knowBy_0 : decode cX12_knowBy 0 = .ok (.aload_n 0, 1) := by decide +kernel
theorem dX12_knowBy_1 : decode cX12_knowBy 1 = .ok (.iload_n 1, 1) := by decide +kernel
theorem dX12_knowBy_2 : decode cX12_knowBy 2 = .ok (.putfield 399, 3) := by decide +kernel
theorem dX12_knowBy_5 : decode cX12_knowBy 5 = .ok (.aload_n 0, 1) := by decide +kernel
theorem dX12_knowBy_6 : decode cX12_knowBy 6 = .ok (.iconst (-1), 1) := by decide +kernel
theorem dX12_knowBy_7 : decode cX12_knowBy 7 = .ok (.putfield 44, 3) := by decide +kernel
theorem dX12_knowBy_10 : decode cX12_knowBy 10 = .ok (.iconst 0, 1) := by decide +kernel
theorem dX12_knowBy_11 : decode cX12_knowBy 11 = .ok (.istore_n 2, 1) := by decide +kernel
theorem dX12_knowBy_12 : decode cX12_knowBy 12 = .ok (.iload_n 2, 1) := by decide +kernel
theorem dX12_knowBy_13 : decode cX12_knowBy 13 = .ok (.ldc 60, 2) := by decide +kernel
theorem dX12_knowBy_15 : decode cX12_knowBy 15 = .ok (.if_icmp .ge 17, 3) := by decide +kernel
theorem dX12_knowBy_18 : decode cX12_knowBy 18 = .ok (.aload_n 0, 1) := by decide +kernel
theorem dX12_knowBy_19 : decode cX12_knowBy 19 = .ok (.getfield 61, 3) := by decide +kernel
theorem dX12_knowBy_22 : decode cX12_knowBy 22 = .ok (.iload_n 2, 1) := by decide +kernel
theorem dX12_knowBy_23 : decode cX12_knowBy 23 = .ok (.bipush (-2), 2) := by decide +kernel
theorem dX12_knowBy_25 : decode cX12_knowBy 25 = .ok (.iastore, 1) := by decide +kernel
theorem dX12_knowBy_26 : decode cX12_knowBy 26 = .ok (.iinc 2 1, 3) := by decide +kernel
theorem dX12_knowBy_29 : decode cX12_knowBy 29 = .ok (.goto (-17), 3) := by decide +kernel
theorem dX12_knowBy_32 : decode cX12_knowBy 32 = .ok (.iconst 0, 1) := by decide +kernel
theorem dX12_knowBy_33 : decode cX12_knowBy 33 = .ok (.istore_n 2, 1) := by decide +kernel
theorem dX12_knowBy_34 : decode cX12_knowBy 34 = .ok (.iload_n 2, 1) := by decide +kernel
theorem dX12_knowBy_35 : decode cX12_knowBy 35 = .ok (.sipush 260, 3) := by decide +kernel
theorem dX12_knowBy_38 : decode cX12_knowBy 38 = .ok (.if_icmp .ge 17, 3) := by decide +kernel
theorem dX12_knowBy_41 : decode cX12_knowBy 41 = .ok (.aload_n 0, 1) := by decide +kernel
theorem dX12_knowBy_42 : decode cX12_knowBy 42 = .ok (.getfield 64, 3) := by decide +kernel
theorem dX12_knowBy_45 : decode cX12_knowBy 45 = .ok (.iload_n 2, 1) := by decide +kernel
theorem dX12_knowBy_46 : decode cX12_knowBy 46 = .ok (.bipush (-2), 2) := by decide +kernel
theorem dX12_knowBy_48 : decode cX12_knowBy 48 = .ok (.iastore, 1) := by decide +kernel
theorem dX12_knowBy_49 : decode cX12_knowBy 49 = .ok (.iinc 2 1, 3) := by decide +kernel
theorem dX12_knowBy_52 : decode cX12_knowBy 52 = .ok (.goto (-18), 3) := by decide +kernel
theorem dX12_knowBy_55 : decode cX12_knowBy 55 = .ok (.return_, 1) := by decide +kernel
theorem dX12_force_0 : decode cX12_force 0 = .ok (.aload_n 0, 1) := by decide +kernel
theorem dX12_force_1 : decode cX12_force 1 = .ok (.iconst 0, 1) := by decide +kernel
theorem dX12_force_2 : decode cX12_force 2 = .ok (.putfield 145, 3) := by decide +kernel
theorem dX12_force_5 : decode cX12_force 5 = .ok (.iload_n 1, 1) := by decide +kernel
theorem dX12_force_6 : decode cX12_force 6 = .ok (.i2l, 1) := by decide +kernel
theorem dX12_force_7 : decode cX12_force 7 = .ok (.lconst 0, 1) := by decide +kernel
theorem dX12_force_8 : decode cX12_force 8 = .ok (.aload_n 0, 1) := by decide +kernel
theorem dX12_force_9 : decode cX12_force 9 = .ok (.getfield 8, 3) := by decide +kernel
theorem dX12_force_12 : decode cX12_force 12 = .ok (.iconst 0, 1) := by decide +kernel
theorem dX12_force_13 : decode cX12_force 13 = .ok (.iaload, 1) := by decide +kernel
theorem dX12_force_14 : decode cX12_force 14 = .ok (.i2l, 1) := by decide +kernel
theorem dX12_force_15 : decode cX12_force 15 = .ok (.lconst 1, 1) := by decide +kernel
theorem dX12_force_16 : decode cX12_force 16 = .ok (.lsub, 1) := by decide +kernel
theorem dX12_force_17 : decode cX12_force 17 = .ok (.invokestatic 153, 3) := by decide +kernel
theorem dX12_force_20 : decode cX12_force 20 = .ok (.ifCond .eq 41, 3) := by decide +kernel
theorem dX12_force_23 : decode cX12_force 23 = .ok (.iload_n 2, 1) := by decide +kernel
theorem dX12_force_24 : decode cX12_force 24 = .ok (.i2l, 1) := by decide +kernel
theorem dX12_force_25 : decode cX12_force 25 = .ok (.lconst 0, 1) := by decide +kernel
theorem dX12_force_26 : decode cX12_force 26 = .ok (.aload_n 0, 1) := by decide +kernel
theorem dX12_force_27 : decode cX12_force 27 = .ok (.getfield 8, 3) := by decide +kernel
theorem dX12_force_30 : decode cX12_force 30 = .ok (.iload_n 1, 1) := by decide +kernel
theorem dX12_force_31 : decode cX12_force 31 = .ok (.invokestatic 396, 3) := by decide +kernel
theorem dX12_force_34 : decode cX12_force 34 = .ok (.iconst 2, 1) := by decide +kernel
theorem dX12_force_35 : decode cX12_force 35 = .ok (.iadd, 1) := by decide +kernel
theorem dX12_force_36 : decode cX12_force 36 = .ok (.iaload, 1) := by decide +kernel
theorem dX12_force_37 : decode cX12_force 37 = .ok (.i2l, 1) := by decide +kernel
theorem dX12_force_38 : decode cX12_force 38 = .ok (.lconst 1, 1) := by decide +kernel
theorem dX12_force_39 : decode cX12_force 39 = .ok (.lsub, 1) := by decide +kernel
theorem dX12_force_40 : decode cX12_force 40 = .ok (.invokestatic 153, 3) := by decide +kernel
theorem dX12_force_43 : decode cX12_force 43 = .ok (.ifCond .eq 18, 3) := by decide +kernel
theorem dX12_force_46 : decode cX12_force 46 = .ok (.iload_n 3, 1) := by decide +kernel
theorem dX12_force_47 : decode cX12_force 47 = .ok (.invokestatic 387, 3) := by decide +kernel
theorem dX12_force_50 : decode cX12_force 50 = .ok (.ifCond .eq 11, 3) := by decide +kernel
theorem dX12_force_53 : decode cX12_force 53 = .ok (.iload 4, 2) := by decide +kernel
theorem dX12_force_55 : decode cX12_force 55 = .ok (.invokestatic 387, 3) := by decide +kernel
theorem dX12_force_58 : decode cX12_force 58 = .ok (.ifCond .ne 5, 3) := by decide +kernel
theorem dX12_force_61 : decode cX12_force 61 = .ok (.iconst (-1), 1) := by decide +kernel
theorem dX12_force_62 : decode cX12_force 62 = .ok (.ireturn, 1) := by decide +kernel
theorem dX12_force_63 : decode cX12_force 63 = .ok (.aload_n 0, 1) := by decide +kernel
theorem dX12_force_64 : decode cX12_force 64 = .ok (.iload 4, 2) := by decide +kernel
theorem dX12_force_66 : decode cX12_force 66 = .ok (.invokevirtual 406, 3) := by decide +kernel
theorem dX12_force_69 : decode cX12_force 69 = .ok (.aload_n 0, 1) := by decide +kernel
theorem dX12_force_70 : decode cX12_force 70 = .ok (.iload_n 3, 1) := by decide +kernel
theorem dX12_force_71 : decode cX12_force 71 = .ok (.invokevirtual 409, 3) := by decide +kernel
theorem dX12_force_74 : decode cX12_force 74 = .ok (.aload_n 0, 1) := by decide +kernel
theorem dX12_force_75 : decode cX12_force 75 = .ok (.getfield 47, 3) := by decide +kernel
theorem dX12_force_78 : decode cX12_force 78 = .ok (.iload_n 1, 1) := by decide +kernel
theorem dX12_force_79 : decode cX12_force 79 = .ok (.baload, 1) := by decide +kernel
theorem dX12_force_80 : decode cX12_force 80 = .ok (.ifCond .eq 21, 3) := by decide +kernel
theorem dX12_force_83 : decode cX12_force 83 = .ok (.aload_n 0, 1) := by decide +kernel
theorem dX12_force_84 : decode cX12_force 84 = .ok (.getfield 50, 3) := by decide +kernel
theorem dX12_force_87 : decode cX12_force 87 = .ok (.bipush 16, 2) := by decide +kernel
theorem dX12_force_89 : decode cX12_force 89 = .ok (.iload_n 1, 1) := by decide +kernel
theorem dX12_force_90 : decode cX12_force 90 = .ok (.imul, 1) := by decide +kernel
theorem dX12_force_91 : decode cX12_force 91 = .ok (.iload_n 2, 1) := by decide +kernel
theorem dX12_force_92 : decode cX12_force 92 = .ok (.iadd, 1) := by decide +kernel
theorem dX12_force_93 : decode cX12_force 93 = .ok (.baload, 1) := by decide +kernel
theorem dX12_force_94 : decode cX12_force 94 = .ok (.ifCond .ne 7, 3) := by decide +kernel
theorem dX12_force_97 : decode cX12_force 97 = .ok (.iconst 1, 1) := by decide +kernel
theorem dX12_force_98 : decode cX12_force 98 = .ok (.goto 4, 3) := by decide +kernel
theorem dX12_force_101 : decode cX12_force 101 = .ok (.iconst 0, 1) := by decide +kernel
theorem dX12_force_102 : decode cX12_force 102 = .ok (.ireturn, 1) := by decide +kernel
theorem dX12_setOnly_0 : decode cX12_setOnly 0 = .ok (.iconst 0, 1) := by decide +kernel
theorem dX12_setOnly_1 : decode cX12_setOnly 1 = .ok (.istore_n 3, 1) := by decide +kernel
theorem dX12_setOnly_2 : decode cX12_setOnly 2 = .ok (.iload_n 3, 1) := by decide +kernel
theorem dX12_setOnly_3 : decode cX12_setOnly 3 = .ok (.bipush 8, 2) := by decide +kernel
theorem dX12_setOnly_5 : decode cX12_setOnly 5 = .ok (.if_icmp .ge 16, 3) := by decide +kernel
theorem dX12_setOnly_8 : decode cX12_setOnly 8 = .ok (.aload_n 0, 1) := by decide +kernel
theorem dX12_setOnly_9 : decode cX12_setOnly 9 = .ok (.getfield 53, 3) := by decide +kernel
theorem dX12_setOnly_12 : decode cX12_setOnly 12 = .ok (.iload_n 3, 1) := by decide +kernel
theorem dX12_setOnly_13 : decode cX12_setOnly 13 = .ok (.iconst 0, 1) := by decide +kernel
theorem dX12_setOnly_14 : decode cX12_setOnly 14 = .ok (.iastore, 1) := by decide +kernel
theorem dX12_setOnly_15 : decode cX12_setOnly 15 = .ok (.iinc 3 1, 3) := by decide +kernel
theorem dX12_setOnly_18 : decode cX12_setOnly 18 = .ok (.goto (-16), 3) := by decide +kernel
theorem dX12_setOnly_21 : decode cX12_setOnly 21 = .ok (.aload_n 0, 1) := by decide +kernel
theorem dX12_setOnly_22 : decode cX12_setOnly 22 = .ok (.getfield 53, 3) := by decide +kernel
theorem dX12_setOnly_25 : decode cX12_setOnly 25 = .ok (.iconst 1, 1) := by decide +kernel
theorem dX12_setOnly_26 : decode cX12_setOnly 26 = .ok (.iload_n 1, 1) := by decide +kernel
theorem dX12_setOnly_27 : decode cX12_setOnly 27 = .ok (.iastore, 1) := by decide +kernel
theorem dX12_setOnly_28 : decode cX12_setOnly 28 = .ok (.aload_n 0, 1) := by decide +kernel
theorem dX12_setOnly_29 : decode cX12_setOnly 29 = .ok (.getfield 53, 3) := by decide +kernel
theorem dX12_setOnly_32 : decode cX12_setOnly 32 = .ok (.bipush 7, 2) := by decide +kernel
theorem dX12_setOnly_34 : decode cX12_setOnly 34 = .ok (.iload_n 2, 1) := by decide +kernel
theorem dX12_setOnly_35 : decode cX12_setOnly 35 = .ok (.iastore, 1) := by decide +kernel
theorem dX12_setOnly_36 : decode cX12_setOnly 36 = .ok (.return_, 1) := by decide +kernel
theorem dX12_reckon_0 : decode cX12_reckon 0 = .ok (.iload_n 1, 1) := by decide +kernel
theorem dX12_reckon_1 : decode cX12_reckon 1 = .ok (.tableswitch 147 8 15 #[47, 52, 57, 62, 94, 107, 120, 133], 47) := by decide +kernel
theorem dX12_reckon_48 : decode cX12_reckon 48 = .ok (.lload_n 2, 1) := by decide +kernel
theorem dX12_reckon_49 : decode cX12_reckon 49 = .ok (.lload 4, 2) := by decide +kernel
theorem dX12_reckon_51 : decode cX12_reckon 51 = .ok (.ladd, 1) := by decide +kernel
theorem dX12_reckon_52 : decode cX12_reckon 52 = .ok (.lreturn, 1) := by decide +kernel
theorem dX12_reckon_53 : decode cX12_reckon 53 = .ok (.lload_n 2, 1) := by decide +kernel
theorem dX12_reckon_54 : decode cX12_reckon 54 = .ok (.lload 4, 2) := by decide +kernel
theorem dX12_reckon_56 : decode cX12_reckon 56 = .ok (.lsub, 1) := by decide +kernel
theorem dX12_reckon_57 : decode cX12_reckon 57 = .ok (.lreturn, 1) := by decide +kernel
theorem dX12_reckon_58 : decode cX12_reckon 58 = .ok (.lload_n 2, 1) := by decide +kernel
theorem dX12_reckon_59 : decode cX12_reckon 59 = .ok (.lload 4, 2) := by decide +kernel
theorem dX12_reckon_61 : decode cX12_reckon 61 = .ok (.lmul, 1) := by decide +kernel
theorem dX12_reckon_62 : decode cX12_reckon 62 = .ok (.lreturn, 1) := by decide +kernel
theorem dX12_reckon_63 : decode cX12_reckon 63 = .ok (.aload_n 0, 1) := by decide +kernel
theorem dX12_reckon_64 : decode cX12_reckon 64 = .ok (.lload 4, 2) := by decide +kernel
theorem dX12_reckon_66 : decode cX12_reckon 66 = .ok (.lconst 0, 1) := by decide +kernel
theorem dX12_reckon_67 : decode cX12_reckon 67 = .ok (.lcmp, 1) := by decide +kernel
theorem dX12_reckon_68 : decode cX12_reckon 68 = .ok (.ifCond .ne 7, 3) := by decide +kernel
theorem dX12_reckon_71 : decode cX12_reckon 71 = .ok (.iconst 1, 1) := by decide +kernel
theorem dX12_reckon_72 : decode cX12_reckon 72 = .ok (.goto 4, 3) := by decide +kernel
theorem dX12_reckon_75 : decode cX12_reckon 75 = .ok (.iconst 0, 1) := by decide +kernel
theorem dX12_reckon_76 : decode cX12_reckon 76 = .ok (.putfield 412, 3) := by decide +kernel
theorem dX12_reckon_79 : decode cX12_reckon 79 = .ok (.aload_n 0, 1) := by decide +kernel
theorem dX12_reckon_80 : decode cX12_reckon 80 = .ok (.getfield 412, 3) := by decide +kernel
theorem dX12_reckon_83 : decode cX12_reckon 83 = .ok (.ifCond .eq 7, 3) := by decide +kernel
theorem dX12_reckon_86 : decode cX12_reckon 86 = .ok (.lconst 0, 1) := by decide +kernel
theorem dX12_reckon_87 : decode cX12_reckon 87 = .ok (.goto 7, 3) := by decide +kernel
theorem dX12_reckon_90 : decode cX12_reckon 90 = .ok (.lload_n 2, 1) := by decide +kernel
theorem dX12_reckon_91 : decode cX12_reckon 91 = .ok (.lload 4, 2) := by decide +kernel
theorem dX12_reckon_93 : decode cX12_reckon 93 = .ok (.ldiv, 1) := by decide +kernel
theorem dX12_reckon_94 : decode cX12_reckon 94 = .ok (.lreturn, 1) := by decide +kernel
theorem dX12_reckon_95 : decode cX12_reckon 95 = .ok (.lload_n 2, 1) := by decide +kernel
theorem dX12_reckon_96 : decode cX12_reckon 96 = .ok (.lload 4, 2) := by decide +kernel
theorem dX12_reckon_98 : decode cX12_reckon 98 = .ok (.lcmp, 1) := by decide +kernel
theorem dX12_reckon_99 : decode cX12_reckon 99 = .ok (.ifCond .ge 7, 3) := by decide +kernel
theorem dX12_reckon_102 : decode cX12_reckon 102 = .ok (.lconst 1, 1) := by decide +kernel
theorem dX12_reckon_103 : decode cX12_reckon 103 = .ok (.goto 4, 3) := by decide +kernel
theorem dX12_reckon_106 : decode cX12_reckon 106 = .ok (.lconst 0, 1) := by decide +kernel
theorem dX12_reckon_107 : decode cX12_reckon 107 = .ok (.lreturn, 1) := by decide +kernel
theorem dX12_reckon_108 : decode cX12_reckon 108 = .ok (.lload_n 2, 1) := by decide +kernel
theorem dX12_reckon_109 : decode cX12_reckon 109 = .ok (.lload 4, 2) := by decide +kernel
theorem dX12_reckon_111 : decode cX12_reckon 111 = .ok (.lcmp, 1) := by decide +kernel
theorem dX12_reckon_112 : decode cX12_reckon 112 = .ok (.ifCond .le 7, 3) := by decide +kernel
theorem dX12_reckon_115 : decode cX12_reckon 115 = .ok (.lconst 1, 1) := by decide +kernel
theorem dX12_reckon_116 : decode cX12_reckon 116 = .ok (.goto 4, 3) := by decide +kernel
theorem dX12_reckon_119 : decode cX12_reckon 119 = .ok (.lconst 0, 1) := by decide +kernel
theorem dX12_reckon_120 : decode cX12_reckon 120 = .ok (.lreturn, 1) := by decide +kernel
theorem dX12_reckon_121 : decode cX12_reckon 121 = .ok (.lload_n 2, 1) := by decide +kernel
theorem dX12_reckon_122 : decode cX12_reckon 122 = .ok (.lload 4, 2) := by decide +kernel
theorem dX12_reckon_124 : decode cX12_reckon 124 = .ok (.lcmp, 1) := by decide +kernel
theorem dX12_reckon_125 : decode cX12_reckon 125 = .ok (.ifCond .ne 7, 3) := by decide +kernel
theorem dX12_reckon_128 : decode cX12_reckon 128 = .ok (.lconst 1, 1) := by decide +kernel
theorem dX12_reckon_129 : decode cX12_reckon 129 = .ok (.goto 4, 3) := by decide +kernel
theorem dX12_reckon_132 : decode cX12_reckon 132 = .ok (.lconst 0, 1) := by decide +kernel
theorem dX12_reckon_133 : decode cX12_reckon 133 = .ok (.lreturn, 1) := by decide +kernel
theorem dX12_reckon_134 : decode cX12_reckon 134 = .ok (.lload_n 2, 1) := by decide +kernel
theorem dX12_reckon_135 : decode cX12_reckon 135 = .ok (.lload 4, 2) := by decide +kernel
theorem dX12_reckon_137 : decode cX12_reckon 137 = .ok (.lcmp, 1) := by decide +kernel
theorem dX12_reckon_138 : decode cX12_reckon 138 = .ok (.ifCond .ge 7, 3) := by decide +kernel
theorem dX12_reckon_141 : decode cX12_reckon 141 = .ok (.lload_n 2, 1) := by decide +kernel
theorem dX12_reckon_142 : decode cX12_reckon 142 = .ok (.goto 5, 3) := by decide +kernel
theorem dX12_reckon_145 : decode cX12_reckon 145 = .ok (.lload 4, 2) := by decide +kernel
theorem dX12_reckon_147 : decode cX12_reckon 147 = .ok (.lreturn, 1) := by decide +kernel
theorem dX12_reckon_148 : decode cX12_reckon 148 = .ok (.lload_n 2, 1) := by decide +kernel
theorem dX12_reckon_149 : decode cX12_reckon 149 = .ok (.lload 4, 2) := by decide +kernel
theorem dX12_reckon_151 : decode cX12_reckon 151 = .ok (.lcmp, 1) := by decide +kernel
theorem dX12_reckon_152 : decode cX12_reckon 152 = .ok (.ifCond .le 7, 3) := by decide +kernel
theorem dX12_reckon_155 : decode cX12_reckon 155 = .ok (.lload_n 2, 1) := by decide +kernel
theorem dX12_reckon_156 : decode cX12_reckon 156 = .ok (.goto 5, 3) := by decide +kernel
theorem dX12_reckon_159 : decode cX12_reckon 159 = .ok (.lload 4, 2) := by decide +kernel
theorem dX12_reckon_161 : decode cX12_reckon 161 = .ok (.lreturn, 1) := by decide +kernel
theorem dX12_run_0 : decode cX12_run 0 = .ok (.aload_n 0, 1) := by decide +kernel
theorem dX12_run_1 : decode cX12_run 1 = .ok (.iconst 0, 1) := by decide +kernel
theorem dX12_run_2 : decode cX12_run 2 = .ok (.putfield 412, 3) := by decide +kernel
theorem dX12_run_5 : decode cX12_run 5 = .ok (.iconst 0, 1) := by decide +kernel
theorem dX12_run_6 : decode cX12_run 6 = .ok (.istore 4, 2) := by decide +kernel
theorem dX12_run_8 : decode cX12_run 8 = .ok (.iload_n 2, 1) := by decide +kernel
theorem dX12_run_9 : decode cX12_run 9 = .ok (.istore 5, 2) := by decide +kernel
theorem dX12_run_11 : decode cX12_run 11 = .ok (.iload 5, 2) := by decide +kernel
theorem dX12_run_13 : decode cX12_run 13 = .ok (.iload_n 3, 1) := by decide +kernel
theorem dX12_run_14 : decode cX12_run 14 = .ok (.if_icmp .ge 240, 3) := by decide +kernel
theorem dX12_run_17 : decode cX12_run 17 = .ok (.aload_n 0, 1) := by decide +kernel
theorem dX12_run_18 : decode cX12_run 18 = .ok (.getfield 412, 3) := by decide +kernel
theorem dX12_run_21 : decode cX12_run 21 = .ok (.ifCond .ne 233, 3) := by decide +kernel
theorem dX12_run_24 : decode cX12_run 24 = .ok (.aload_n 0, 1) := by decide +kernel
theorem dX12_run_25 : decode cX12_run 25 = .ok (.getfield 8, 3) := by decide +kernel
theorem dX12_run_28 : decode cX12_run 28 = .ok (.iload_n 1, 1) := by decide +kernel
theorem dX12_run_29 : decode cX12_run 29 = .ok (.invokestatic 396, 3) := by decide +kernel
theorem dX12_run_32 : decode cX12_run 32 = .ok (.sipush 147, 3) := by decide +kernel
theorem dX12_run_35 : decode cX12_run 35 = .ok (.iadd, 1) := by decide +kernel
theorem dX12_run_36 : decode cX12_run 36 = .ok (.iconst 2, 1) := by decide +kernel
theorem dX12_run_37 : decode cX12_run 37 = .ok (.iload 5, 2) := by decide +kernel
theorem dX12_run_39 : decode cX12_run 39 = .ok (.imul, 1) := by decide +kernel
theorem dX12_run_40 : decode cX12_run 40 = .ok (.iadd, 1) := by decide +kernel
theorem dX12_run_41 : decode cX12_run 41 = .ok (.iaload, 1) := by decide +kernel
theorem dX12_run_42 : decode cX12_run 42 = .ok (.istore 6, 2) := by decide +kernel
theorem dX12_run_44 : decode cX12_run 44 = .ok (.aload_n 0, 1) := by decide +kernel
theorem dX12_run_45 : decode cX12_run 45 = .ok (.getfield 8, 3) := by decide +kernel
theorem dX12_run_48 : decode cX12_run 48 = .ok (.iload_n 1, 1) := by decide +kernel
theorem dX12_run_49 : decode cX12_run 49 = .ok (.invokestatic 396, 3) := by decide +kernel
theorem dX12_run_52 : decode cX12_run 52 = .ok (.sipush 147, 3) := by decide +kernel
theorem dX12_run_55 : decode cX12_run 55 = .ok (.iadd, 1) := by decide +kernel
theorem dX12_run_56 : decode cX12_run 56 = .ok (.iconst 2, 1) := by decide +kernel
theorem dX12_run_57 : decode cX12_run 57 = .ok (.iload 5, 2) := by decide +kernel
theorem dX12_run_59 : decode cX12_run 59 = .ok (.imul, 1) := by decide +kernel
theorem dX12_run_60 : decode cX12_run 60 = .ok (.iadd, 1) := by decide +kernel
theorem dX12_run_61 : decode cX12_run 61 = .ok (.iconst 1, 1) := by decide +kernel
theorem dX12_run_62 : decode cX12_run 62 = .ok (.iadd, 1) := by decide +kernel
theorem dX12_run_63 : decode cX12_run 63 = .ok (.iaload, 1) := by decide +kernel
theorem dX12_run_64 : decode cX12_run 64 = .ok (.istore 7, 2) := by decide +kernel
theorem dX12_run_66 : decode cX12_run 66 = .ok (.iinc 5 1, 3) := by decide +kernel
theorem dX12_run_69 : decode cX12_run 69 = .ok (.iload 6, 2) := by decide +kernel
theorem dX12_run_71 : decode cX12_run 71 = .ok (.bipush 8, 2) := by decide +kernel
theorem dX12_run_73 : decode cX12_run 73 = .ok (.if_icmp .ge 35, 3) := by decide +kernel
theorem dX12_run_76 : decode cX12_run 76 = .ok (.aload_n 0, 1) := by decide +kernel
theorem dX12_run_77 : decode cX12_run 77 = .ok (.getfield 56, 3) := by decide +kernel
theorem dX12_run_80 : decode cX12_run 80 = .ok (.iload 4, 2) := by decide +kernel
theorem dX12_run_82 : decode cX12_run 82 = .ok (.iload 6, 2) := by decide +kernel
theorem dX12_run_84 : decode cX12_run 84 = .ok (.ifCond .ne 9, 3) := by decide +kernel
theorem dX12_run_87 : decode cX12_run 87 = .ok (.iload 7, 2) := by decide +kernel
theorem dX12_run_89 : decode cX12_run 89 = .ok (.i2l, 1) := by decide +kernel
theorem dX12_run_90 : decode cX12_run 90 = .ok (.goto 11, 3) := by decide +kernel
theorem dX12_run_93 : decode cX12_run 93 = .ok (.aload_n 0, 1) := by decide +kernel
theorem dX12_run_94 : decode cX12_run 94 = .ok (.getfield 53, 3) := by decide +kernel
theorem dX12_run_97 : decode cX12_run 97 = .ok (.iload 6, 2) := by decide +kernel
theorem dX12_run_99 : decode cX12_run 99 = .ok (.iaload, 1) := by decide +kernel
theorem dX12_run_100 : decode cX12_run 100 = .ok (.i2l, 1) := by decide +kernel
theorem dX12_run_101 : decode cX12_run 101 = .ok (.lastore, 1) := by decide +kernel
theorem dX12_run_102 : decode cX12_run 102 = .ok (.iinc 4 1, 3) := by decide +kernel
theorem dX12_run_105 : decode cX12_run 105 = .ok (.goto 146, 3) := by decide +kernel
theorem dX12_run_108 : decode cX12_run 108 = .ok (.iload 6, 2) := by decide +kernel
theorem dX12_run_110 : decode cX12_run 110 = .ok (.bipush 17, 2) := by decide +kernel
theorem dX12_run_112 : decode cX12_run 112 = .ok (.if_icmp .ge 74, 3) := by decide +kernel
theorem dX12_run_115 : decode cX12_run 115 = .ok (.iinc 4 (-1), 3) := by decide +kernel
theorem dX12_run_118 : decode cX12_run 118 = .ok (.aload_n 0, 1) := by decide +kernel
theorem dX12_run_119 : decode cX12_run 119 = .ok (.iload 6, 2) := by decide +kernel
theorem dX12_run_121 : decode cX12_run 121 = .ok (.aload_n 0, 1) := by decide +kernel
theorem dX12_run_122 : decode cX12_run 122 = .ok (.getfield 56, 3) := by decide +kernel
theorem dX12_run_125 : decode cX12_run 125 = .ok (.iload 4, 2) := by decide +kernel
theorem dX12_run_127 : decode cX12_run 127 = .ok (.iconst 1, 1) := by decide +kernel
theorem dX12_run_128 : decode cX12_run 128 = .ok (.isub, 1) := by decide +kernel
theorem dX12_run_129 : decode cX12_run 129 = .ok (.laload, 1) := by decide +kernel
theorem dX12_run_130 : decode cX12_run 130 = .ok (.aload_n 0, 1) := by decide +kernel
theorem dX12_run_131 : decode cX12_run 131 = .ok (.getfield 56, 3) := by decide +kernel
theorem dX12_run_134 : decode cX12_run 134 = .ok (.iload 4, 2) := by decide +kernel
theorem dX12_run_136 : decode cX12_run 136 = .ok (.laload, 1) := by decide +kernel
theorem dX12_run_137 : decode cX12_run 137 = .ok (.invokevirtual 415, 3) := by decide +kernel
theorem dX12_run_140 : decode cX12_run 140 = .ok (.lstore 8, 2) := by decide +kernel
theorem dX12_run_142 : decode cX12_run 142 = .ok (.aload_n 0, 1) := by decide +kernel
theorem dX12_run_143 : decode cX12_run 143 = .ok (.getfield 56, 3) := by decide +kernel
theorem dX12_run_146 : decode cX12_run 146 = .ok (.iload 4, 2) := by decide +kernel
theorem dX12_run_148 : decode cX12_run 148 = .ok (.iconst 1, 1) := by decide +kernel
theorem dX12_run_149 : decode cX12_run 149 = .ok (.isub, 1) := by decide +kernel
theorem dX12_run_150 : decode cX12_run 150 = .ok (.lload 8, 2) := by decide +kernel
theorem dX12_run_152 : decode cX12_run 152 = .ok (.lastore, 1) := by decide +kernel
theorem dX12_run_153 : decode cX12_run 153 = .ok (.aload_n 0, 1) := by decide +kernel
theorem dX12_run_154 : decode cX12_run 154 = .ok (.aload_n 0, 1) := by decide +kernel
theorem dX12_run_155 : decode cX12_run 155 = .ok (.getfield 412, 3) := by decide +kernel
theorem dX12_run_158 : decode cX12_run 158 = .ok (.ifCond .ne 17, 3) := by decide +kernel
theorem dX12_run_161 : decode cX12_run 161 = .ok (.lload 8, 2) := by decide +kernel
theorem dX12_run_163 : decode cX12_run 163 = .ok (.ldc2_w 419, 3) := by decide +kernel
theorem dX12_run_166 : decode cX12_run 166 = .ok (.ldc2_w 421, 3) := by decide +kernel
theorem dX12_run_169 : decode cX12_run 169 = .ok (.invokestatic 153, 3) := by decide +kernel
theorem dX12_run_172 : decode cX12_run 172 = .ok (.ifCond .ne 7, 3) := by decide +kernel
theorem dX12_run_175 : decode cX12_run 175 = .ok (.iconst 1, 1) := by decide +kernel
theorem dX12_run_176 : decode cX12_run 176 = .ok (.goto 4, 3) := by decide +kernel
theorem dX12_run_179 : decode cX12_run 179 = .ok (.iconst 0, 1) := by decide +kernel
theorem dX12_run_180 : decode cX12_run 180 = .ok (.putfield 412, 3) := by decide +kernel
theorem dX12_run_183 : decode cX12_run 183 = .ok (.goto 68, 3) := by decide +kernel
theorem dX12_run_186 : decode cX12_run 186 = .ok (.iload 6, 2) := by decide +kernel
theorem dX12_run_188 : decode cX12_run 188 = .ok (.bipush 17, 2) := by decide +kernel
theorem dX12_run_190 : decode cX12_run 190 = .ok (.if_icmp .ne 26, 3) := by decide +kernel
theorem dX12_run_193 : decode cX12_run 193 = .ok (.aload_n 0, 1) := by decide +kernel
theorem dX12_run_194 : decode cX12_run 194 = .ok (.getfield 56, 3) := by decide +kernel
theorem dX12_run_197 : decode cX12_run 197 = .ok (.iload 4, 2) := by decide +kernel
theorem dX12_run_199 : decode cX12_run 199 = .ok (.iconst 1, 1) := by decide +kernel
theorem dX12_run_200 : decode cX12_run 200 = .ok (.isub, 1) := by decide +kernel
theorem dX12_run_201 : decode cX12_run 201 = .ok (.lconst 1, 1) := by decide +kernel
theorem dX12_run_202 : decode cX12_run 202 = .ok (.aload_n 0, 1) := by decide +kernel
theorem dX12_run_203 : decode cX12_run 203 = .ok (.getfield 56, 3) := by decide +kernel
theorem dX12_run_206 : decode cX12_run 206 = .ok (.iload 4, 2) := by decide +kernel
theorem dX12_run_208 : decode cX12_run 208 = .ok (.iconst 1, 1) := by decide +kernel
theorem dX12_run_209 : decode cX12_run 209 = .ok (.isub, 1) := by decide +kernel
theorem dX12_run_210 : decode cX12_run 210 = .ok (.laload, 1) := by decide +kernel
theorem dX12_run_211 : decode cX12_run 211 = .ok (.lsub, 1) := by decide +kernel
theorem dX12_run_212 : decode cX12_run 212 = .ok (.lastore, 1) := by decide +kernel
theorem dX12_run_213 : decode cX12_run 213 = .ok (.goto 38, 3) := by decide +kernel
theorem dX12_run_216 : decode cX12_run 216 = .ok (.aload_n 0, 1) := by decide +kernel
theorem dX12_run_217 : decode cX12_run 217 = .ok (.getfield 56, 3) := by decide +kernel
theorem dX12_run_220 : decode cX12_run 220 = .ok (.iload 4, 2) := by decide +kernel
theorem dX12_run_222 : decode cX12_run 222 = .ok (.iconst 1, 1) := by decide +kernel
theorem dX12_run_223 : decode cX12_run 223 = .ok (.isub, 1) := by decide +kernel
theorem dX12_run_224 : decode cX12_run 224 = .ok (.laload, 1) := by decide +kernel
theorem dX12_run_225 : decode cX12_run 225 = .ok (.iload 6, 2) := by decide +kernel
theorem dX12_run_227 : decode cX12_run 227 = .ok (.bipush 18, 2) := by decide +kernel
theorem dX12_run_229 : decode cX12_run 229 = .ok (.if_icmp .ne 7, 3) := by decide +kernel
theorem dX12_run_232 : decode cX12_run 232 = .ok (.lconst 0, 1) := by decide +kernel
theorem dX12_run_233 : decode cX12_run 233 = .ok (.goto 4, 3) := by decide +kernel
theorem dX12_run_236 : decode cX12_run 236 = .ok (.lconst 1, 1) := by decide +kernel
theorem dX12_run_237 : decode cX12_run 237 = .ok (.lcmp, 1) := by decide +kernel
theorem dX12_run_238 : decode cX12_run 238 = .ok (.ifCond .ne 10, 3) := by decide +kernel
theorem dX12_run_241 : decode cX12_run 241 = .ok (.iload 7, 2) := by decide +kernel
theorem dX12_run_243 : decode cX12_run 243 = .ok (.istore 5, 2) := by decide +kernel
theorem dX12_run_245 : decode cX12_run 245 = .ok (.goto 6, 3) := by decide +kernel
theorem dX12_run_248 : decode cX12_run 248 = .ok (.iinc 4 (-1), 3) := by decide +kernel
theorem dX12_run_251 : decode cX12_run 251 = .ok (.goto (-240), 3) := by decide +kernel
theorem dX12_run_254 : decode cX12_run 254 = .ok (.aload_n 0, 1) := by decide +kernel
theorem dX12_run_255 : decode cX12_run 255 = .ok (.iload 4, 2) := by decide +kernel
theorem dX12_run_257 : decode cX12_run 257 = .ok (.ifCond .le 12, 3) := by decide +kernel
theorem dX12_run_260 : decode cX12_run 260 = .ok (.aload_n 0, 1) := by decide +kernel
theorem dX12_run_261 : decode cX12_run 261 = .ok (.getfield 56, 3) := by decide +kernel
theorem dX12_run_264 : decode cX12_run 264 = .ok (.iconst 0, 1) := by decide +kernel
theorem dX12_run_265 : decode cX12_run 265 = .ok (.laload, 1) := by decide +kernel
theorem dX12_run_266 : decode cX12_run 266 = .ok (.goto 4, 3) := by decide +kernel
theorem dX12_run_269 : decode cX12_run 269 = .ok (.lconst 0, 1) := by decide +kernel
theorem dX12_run_270 : decode cX12_run 270 = .ok (.putfield 423, 3) := by decide +kernel
theorem dX12_run_273 : decode cX12_run 273 = .ok (.return_, 1) := by decide +kernel
theorem dX12_holds_0 : decode cX12_holds 0 = .ok (.aload_n 0, 1) := by decide +kernel
theorem dX12_holds_1 : decode cX12_holds 1 = .ok (.iload_n 3, 1) := by decide +kernel
theorem dX12_holds_2 : decode cX12_holds 2 = .ok (.invokevirtual 409, 3) := by decide +kernel
theorem dX12_holds_5 : decode cX12_holds 5 = .ok (.iload_n 1, 1) := by decide +kernel
theorem dX12_holds_6 : decode cX12_holds 6 = .ok (.iload_n 2, 1) := by decide +kernel
theorem dX12_holds_7 : decode cX12_holds 7 = .ok (.invokestatic 402, 3) := by decide +kernel
theorem dX12_holds_10 : decode cX12_holds 10 = .ok (.istore 4, 2) := by decide +kernel
theorem dX12_holds_12 : decode cX12_holds 12 = .ok (.aload_n 0, 1) := by decide +kernel
theorem dX12_holds_13 : decode cX12_holds 13 = .ok (.getfield 47, 3) := by decide +kernel
theorem dX12_holds_16 : decode cX12_holds 16 = .ok (.iload_n 1, 1) := by decide +kernel
theorem dX12_holds_17 : decode cX12_holds 17 = .ok (.baload, 1) := by decide +kernel
theorem dX12_holds_18 : decode cX12_holds 18 = .ok (.ifCond .eq 27, 3) := by decide +kernel
theorem dX12_holds_21 : decode cX12_holds 21 = .ok (.aload_n 0, 1) := by decide +kernel
theorem dX12_holds_22 : decode cX12_holds 22 = .ok (.getfield 50, 3) := by decide +kernel
theorem dX12_holds_25 : decode cX12_holds 25 = .ok (.bipush 16, 2) := by decide +kernel
theorem dX12_holds_27 : decode cX12_holds 27 = .ok (.iload_n 1, 1) := by decide +kernel
theorem dX12_holds_28 : decode cX12_holds 28 = .ok (.imul, 1) := by decide +kernel
theorem dX12_holds_29 : decode cX12_holds 29 = .ok (.iload_n 2, 1) := by decide +kernel
theorem dX12_holds_30 : decode cX12_holds 30 = .ok (.iadd, 1) := by decide +kernel
theorem dX12_holds_31 : decode cX12_holds 31 = .ok (.baload, 1) := by decide +kernel
theorem dX12_holds_32 : decode cX12_holds 32 = .ok (.ifCond .ne 13, 3) := by decide +kernel
theorem dX12_holds_35 : decode cX12_holds 35 = .ok (.aload_n 0, 1) := by decide +kernel
theorem dX12_holds_36 : decode cX12_holds 36 = .ok (.getfield 8, 3) := by decide +kernel
theorem dX12_holds_39 : decode cX12_holds 39 = .ok (.iload 4, 2) := by decide +kernel
theorem dX12_holds_41 : decode cX12_holds 41 = .ok (.iaload, 1) := by decide +kernel
theorem dX12_holds_42 : decode cX12_holds 42 = .ok (.ifCond .ne 5, 3) := by decide +kernel
theorem dX12_holds_45 : decode cX12_holds 45 = .ok (.iconst 0, 1) := by decide +kernel
theorem dX12_holds_46 : decode cX12_holds 46 = .ok (.ireturn, 1) := by decide +kernel
theorem dX12_holds_47 : decode cX12_holds 47 = .ok (.aload_n 0, 1) := by decide +kernel
theorem dX12_holds_48 : decode cX12_holds 48 = .ok (.getfield 8, 3) := by decide +kernel
theorem dX12_holds_51 : decode cX12_holds 51 = .ok (.iload 4, 2) := by decide +kernel
theorem dX12_holds_53 : decode cX12_holds 53 = .ok (.bipush 6, 2) := by decide +kernel
theorem dX12_holds_55 : decode cX12_holds 55 = .ok (.iadd, 1) := by decide +kernel
theorem dX12_holds_56 : decode cX12_holds 56 = .ok (.iaload, 1) := by decide +kernel
theorem dX12_holds_57 : decode cX12_holds 57 = .ok (.aload_n 0, 1) := by decide +kernel
theorem dX12_holds_58 : decode cX12_holds 58 = .ok (.getfield 8, 3) := by decide +kernel
theorem dX12_holds_61 : decode cX12_holds 61 = .ok (.iload 4, 2) := by decide +kernel
theorem dX12_holds_63 : decode cX12_holds 63 = .ok (.bipush 7, 2) := by decide +kernel
theorem dX12_holds_65 : decode cX12_holds 65 = .ok (.iadd, 1) := by decide +kernel
theorem dX12_holds_66 : decode cX12_holds 66 = .ok (.iaload, 1) := by decide +kernel
theorem dX12_holds_67 : decode cX12_holds 67 = .ok (.if_icmp .ge 46, 3) := by decide +kernel
theorem dX12_holds_70 : decode cX12_holds 70 = .ok (.aload_n 0, 1) := by decide +kernel
theorem dX12_holds_71 : decode cX12_holds 71 = .ok (.iload_n 1, 1) := by decide +kernel
theorem dX12_holds_72 : decode cX12_holds 72 = .ok (.aload_n 0, 1) := by decide +kernel
theorem dX12_holds_73 : decode cX12_holds 73 = .ok (.getfield 8, 3) := by decide +kernel
theorem dX12_holds_76 : decode cX12_holds 76 = .ok (.iload 4, 2) := by decide +kernel
theorem dX12_holds_78 : decode cX12_holds 78 = .ok (.bipush 6, 2) := by decide +kernel
theorem dX12_holds_80 : decode cX12_holds 80 = .ok (.iadd, 1) := by decide +kernel
theorem dX12_holds_81 : decode cX12_holds 81 = .ok (.iaload, 1) := by decide +kernel
theorem dX12_holds_82 : decode cX12_holds 82 = .ok (.aload_n 0, 1) := by decide +kernel
theorem dX12_holds_83 : decode cX12_holds 83 = .ok (.getfield 8, 3) := by decide +kernel
theorem dX12_holds_86 : decode cX12_holds 86 = .ok (.iload 4, 2) := by decide +kernel
theorem dX12_holds_88 : decode cX12_holds 88 = .ok (.bipush 7, 2) := by decide +kernel
theorem dX12_holds_90 : decode cX12_holds 90 = .ok (.iadd, 1) := by decide +kernel
theorem dX12_holds_91 : decode cX12_holds 91 = .ok (.iaload, 1) := by decide +kernel
theorem dX12_holds_92 : decode cX12_holds 92 = .ok (.invokevirtual 426, 3) := by decide +kernel
theorem dX12_holds_95 : decode cX12_holds 95 = .ok (.aload_n 0, 1) := by decide +kernel
theorem dX12_holds_96 : decode cX12_holds 96 = .ok (.getfield 412, 3) := by decide +kernel
theorem dX12_holds_99 : decode cX12_holds 99 = .ok (.ifCond .ne 12, 3) := by decide +kernel
theorem dX12_holds_102 : decode cX12_holds 102 = .ok (.aload_n 0, 1) := by decide +kernel
theorem dX12_holds_103 : decode cX12_holds 103 = .ok (.getfield 423, 3) := by decide +kernel
theorem dX12_holds_106 : decode cX12_holds 106 = .ok (.lconst 0, 1) := by decide +kernel
theorem dX12_holds_107 : decode cX12_holds 107 = .ok (.lcmp, 1) := by decide +kernel
theorem dX12_holds_108 : decode cX12_holds 108 = .ok (.ifCond .ne 5, 3) := by decide +kernel
theorem dX12_holds_111 : decode cX12_holds 111 = .ok (.iconst 0, 1) := by decide +kernel
theorem dX12_holds_112 : decode cX12_holds 112 = .ok (.ireturn, 1) := by decide +kernel
theorem dX12_holds_113 : decode cX12_holds 113 = .ok (.aload_n 0, 1) := by decide +kernel
theorem dX12_holds_114 : decode cX12_holds 114 = .ok (.iload_n 1, 1) := by decide +kernel
theorem dX12_holds_115 : decode cX12_holds 115 = .ok (.aload_n 0, 1) := by decide +kernel
theorem dX12_holds_116 : decode cX12_holds 116 = .ok (.getfield 8, 3) := by decide +kernel
theorem dX12_holds_119 : decode cX12_holds 119 = .ok (.iload 4, 2) := by decide +kernel
theorem dX12_holds_121 : decode cX12_holds 121 = .ok (.iconst 4, 1) := by decide +kernel
theorem dX12_holds_122 : decode cX12_holds 122 = .ok (.iadd, 1) := by decide +kernel
theorem dX12_holds_123 : decode cX12_holds 123 = .ok (.iaload, 1) := by decide +kernel
theorem dX12_holds_124 : decode cX12_holds 124 = .ok (.aload_n 0, 1) := by decide +kernel
theorem dX12_holds_125 : decode cX12_holds 125 = .ok (.getfield 8, 3) := by decide +kernel
theorem dX12_holds_128 : decode cX12_holds 128 = .ok (.iload 4, 2) := by decide +kernel
theorem dX12_holds_130 : decode cX12_holds 130 = .ok (.iconst 5, 1) := by decide +kernel
theorem dX12_holds_131 : decode cX12_holds 131 = .ok (.iadd, 1) := by decide +kernel
theorem dX12_holds_132 : decode cX12_holds 132 = .ok (.iaload, 1) := by decide +kernel
theorem dX12_holds_133 : decode cX12_holds 133 = .ok (.invokevirtual 426, 3) := by decide +kernel
theorem dX12_holds_136 : decode cX12_holds 136 = .ok (.aload_n 0, 1) := by decide +kernel
theorem dX12_holds_137 : decode cX12_holds 137 = .ok (.aload_n 0, 1) := by decide +kernel
theorem dX12_holds_138 : decode cX12_holds 138 = .ok (.getfield 423, 3) := by decide +kernel
theorem dX12_holds_141 : decode cX12_holds 141 = .ok (.putfield 430, 3) := by decide +kernel
theorem dX12_holds_144 : decode cX12_holds 144 = .ok (.aload_n 0, 1) := by decide +kernel
theorem dX12_holds_145 : decode cX12_holds 145 = .ok (.getfield 412, 3) := by decide +kernel
theorem dX12_holds_148 : decode cX12_holds 148 = .ok (.ifCond .ne 7, 3) := by decide +kernel
theorem dX12_holds_151 : decode cX12_holds 151 = .ok (.iconst 1, 1) := by decide +kernel
theorem dX12_holds_152 : decode cX12_holds 152 = .ok (.goto 4, 3) := by decide +kernel
theorem dX12_holds_155 : decode cX12_holds 155 = .ok (.iconst 0, 1) := by decide +kernel
theorem dX12_holds_156 : decode cX12_holds 156 = .ok (.ireturn, 1) := by decide +kernel
theorem dX12_find_0 : decode cX12_find 0 = .ok (.iconst 0, 1) := by decide +kernel
theorem dX12_find_1 : decode cX12_find 1 = .ok (.istore 6, 2) := by decide +kernel
theorem dX12_find_3 : decode cX12_find 3 = .ok (.aload_n 0, 1) := by decide +kernel
theorem dX12_find_4 : decode cX12_find 4 = .ok (.lconst 0, 1) := by decide +kernel
theorem dX12_find_5 : decode cX12_find 5 = .ok (.putfield 433, 3) := by decide +kernel
theorem dX12_find_8 : decode cX12_find 8 = .ok (.lconst 0, 1) := by decide +kernel
theorem dX12_find_9 : decode cX12_find 9 = .ok (.lstore 7, 2) := by decide +kernel
theorem dX12_find_11 : decode cX12_find 11 = .ok (.iconst 0, 1) := by decide +kernel
theorem dX12_find_12 : decode cX12_find 12 = .ok (.istore 9, 2) := by decide +kernel
theorem dX12_find_14 : decode cX12_find 14 = .ok (.iload 9, 2) := by decide +kernel
theorem dX12_find_16 : decode cX12_find 16 = .ok (.aload_n 0, 1) := by decide +kernel
theorem dX12_find_17 : decode cX12_find 17 = .ok (.getfield 8, 3) := by decide +kernel
theorem dX12_find_20 : decode cX12_find 20 = .ok (.iconst 0, 1) := by decide +kernel
theorem dX12_find_21 : decode cX12_find 21 = .ok (.iaload, 1) := by decide +kernel
theorem dX12_find_22 : decode cX12_find 22 = .ok (.if_icmp .ge 167, 3) := by decide +kernel
theorem dX12_find_25 : decode cX12_find 25 = .ok (.iconst 0, 1) := by decide +kernel
theorem dX12_find_26 : decode cX12_find 26 = .ok (.istore 10, 2) := by decide +kernel
theorem dX12_find_28 : decode cX12_find 28 = .ok (.iload 10, 2) := by decide +kernel
theorem dX12_find_30 : decode cX12_find 30 = .ok (.aload_n 0, 1) := by decide +kernel
theorem dX12_find_31 : decode cX12_find 31 = .ok (.getfield 8, 3) := by decide +kernel
theorem dX12_find_34 : decode cX12_find 34 = .ok (.iload 9, 2) := by decide +kernel
theorem dX12_find_36 : decode cX12_find 36 = .ok (.invokestatic 396, 3) := by decide +kernel
theorem dX12_find_39 : decode cX12_find 39 = .ok (.iconst 2, 1) := by decide +kernel
theorem dX12_find_40 : decode cX12_find 40 = .ok (.iadd, 1) := by decide +kernel
theorem dX12_find_41 : decode cX12_find 41 = .ok (.iaload, 1) := by decide +kernel
theorem dX12_find_42 : decode cX12_find 42 = .ok (.if_icmp .ge 141, 3) := by decide +kernel
theorem dX12_find_45 : decode cX12_find 45 = .ok (.iload 9, 2) := by decide +kernel
theorem dX12_find_47 : decode cX12_find 47 = .ok (.iload 10, 2) := by decide +kernel
theorem dX12_find_49 : decode cX12_find 49 = .ok (.invokestatic 402, 3) := by decide +kernel
theorem dX12_find_52 : decode cX12_find 52 = .ok (.istore 11, 2) := by decide +kernel
theorem dX12_find_54 : decode cX12_find 54 = .ok (.aload_n 0, 1) := by decide +kernel
theorem dX12_find_55 : decode cX12_find 55 = .ok (.getfield 8, 3) := by decide +kernel
theorem dX12_find_58 : decode cX12_find 58 = .ok (.iload 11, 2) := by decide +kernel
theorem dX12_find_60 : decode cX12_find 60 = .ok (.iaload, 1) := by decide +kernel
theorem dX12_find_61 : decode cX12_find 61 = .ok (.iload_n 1, 1) := by decide +kernel
theorem dX12_find_62 : decode cX12_find 62 = .ok (.if_icmp .ne 53, 3) := by decide +kernel
theorem dX12_find_65 : decode cX12_find 65 = .ok (.iload_n 1, 1) := by decide +kernel
theorem dX12_find_66 : decode cX12_find 66 = .ok (.bipush 8, 2) := by decide +kernel
theorem dX12_find_68 : decode cX12_find 68 = .ok (.if_icmp .eq 43, 3) := by decide +kernel
theorem dX12_find_71 : decode cX12_find 71 = .ok (.aload_n 0, 1) := by decide +kernel
theorem dX12_find_72 : decode cX12_find 72 = .ok (.getfield 8, 3) := by decide +kernel
theorem dX12_find_75 : decode cX12_find 75 = .ok (.iload 11, 2) := by decide +kernel
theorem dX12_find_77 : decode cX12_find 77 = .ok (.iconst 1, 1) := by decide +kernel
theorem dX12_find_78 : decode cX12_find 78 = .ok (.iadd, 1) := by decide +kernel
theorem dX12_find_79 : decode cX12_find 79 = .ok (.iaload, 1) := by decide +kernel
theorem dX12_find_80 : decode cX12_find 80 = .ok (.iload_n 2, 1) := by decide +kernel
theorem dX12_find_81 : decode cX12_find 81 = .ok (.if_icmp .ne 34, 3) := by decide +kernel
theorem dX12_find_84 : decode cX12_find 84 = .ok (.aload_n 0, 1) := by decide +kernel
theorem dX12_find_85 : decode cX12_find 85 = .ok (.getfield 8, 3) := by decide +kernel
theorem dX12_find_88 : decode cX12_find 88 = .ok (.iload 11, 2) := by decide +kernel
theorem dX12_find_90 : decode cX12_find 90 = .ok (.iconst 2, 1) := by decide +kernel
theorem dX12_find_91 : decode cX12_find 91 = .ok (.iadd, 1) := by decide +kernel
theorem dX12_find_92 : decode cX12_find 92 = .ok (.iaload, 1) := by decide +kernel
theorem dX12_find_93 : decode cX12_find 93 = .ok (.iload_n 3, 1) := by decide +kernel
theorem dX12_find_94 : decode cX12_find 94 = .ok (.if_icmp .ne 21, 3) := by decide +kernel
theorem dX12_find_97 : decode cX12_find 97 = .ok (.aload_n 0, 1) := by decide +kernel
theorem dX12_find_98 : decode cX12_find 98 = .ok (.getfield 8, 3) := by decide +kernel
theorem dX12_find_101 : decode cX12_find 101 = .ok (.iload 11, 2) := by decide +kernel
theorem dX12_find_103 : decode cX12_find 103 = .ok (.iconst 3, 1) := by decide +kernel
theorem dX12_find_104 : decode cX12_find 104 = .ok (.iadd, 1) := by decide +kernel
theorem dX12_find_105 : decode cX12_find 105 = .ok (.iaload, 1) := by decide +kernel
theorem dX12_find_106 : decode cX12_find 106 = .ok (.iload 4, 2) := by decide +kernel
theorem dX12_find_108 : decode cX12_find 108 = .ok (.if_icmp .ne 7, 3) := by decide +kernel
theorem dX12_find_111 : decode cX12_find 111 = .ok (.iconst 1, 1) := by decide +kernel
theorem dX12_find_112 : decode cX12_find 112 = .ok (.goto 4, 3) := by decide +kernel
theorem dX12_find_115 : decode cX12_find 115 = .ok (.iconst 0, 1) := by decide +kernel
theorem dX12_find_116 : decode cX12_find 116 = .ok (.istore 12, 2) := by decide +kernel
theorem dX12_find_118 : decode cX12_find 118 = .ok (.iload 12, 2) := by decide +kernel
theorem dX12_find_120 : decode cX12_find 120 = .ok (.ifCond .eq 57, 3) := by decide +kernel
theorem dX12_find_123 : decode cX12_find 123 = .ok (.aload_n 0, 1) := by decide +kernel
theorem dX12_find_124 : decode cX12_find 124 = .ok (.iload 9, 2) := by decide +kernel
theorem dX12_find_126 : decode cX12_find 126 = .ok (.iload 10, 2) := by decide +kernel
theorem dX12_find_128 : decode cX12_find 128 = .ok (.iload 5, 2) := by decide +kernel
theorem dX12_find_130 : decode cX12_find 130 = .ok (.invokevirtual 436, 3) := by decide +kernel
theorem dX12_find_133 : decode cX12_find 133 = .ok (.ifCond .eq 44, 3) := by decide +kernel
theorem dX12_find_136 : decode cX12_find 136 = .ok (.iconst 1, 1) := by decide +kernel
theorem dX12_find_137 : decode cX12_find 137 = .ok (.istore 6, 2) := by decide +kernel
theorem dX12_find_139 : decode cX12_find 139 = .ok (.iload_n 1, 1) := by decide +kernel
theorem dX12_find_140 : decode cX12_find 140 = .ok (.bipush 8, 2) := by decide +kernel
theorem dX12_find_142 : decode cX12_find 142 = .ok (.if_icmp .ne 16, 3) := by decide +kernel
theorem dX12_find_145 : decode cX12_find 145 = .ok (.aload_n 0, 1) := by decide +kernel
theorem dX12_find_146 : decode cX12_find 146 = .ok (.getfield 8, 3) := by decide +kernel
theorem dX12_find_149 : decode cX12_find 149 = .ok (.iload 11, 2) := by decide +kernel
theorem dX12_find_151 : decode cX12_find 151 = .ok (.iconst 1, 1) := by decide +kernel
theorem dX12_find_152 : decode cX12_find 152 = .ok (.iadd, 1) := by decide +kernel
theorem dX12_find_153 : decode cX12_find 153 = .ok (.iaload, 1) := by decide +kernel
theorem dX12_find_154 : decode cX12_find 154 = .ok (.i2l, 1) := by decide +kernel
theorem dX12_find_155 : decode cX12_find 155 = .ok (.goto 7, 3) := by decide +kernel
theorem dX12_find_158 : decode cX12_find 158 = .ok (.aload_n 0, 1) := by decide +kernel
theorem dX12_find_159 : decode cX12_find 159 = .ok (.getfield 430, 3) := by decide +kernel
theorem dX12_find_162 : decode cX12_find 162 = .ok (.lstore 7, 2) := by decide +kernel
theorem dX12_find_164 : decode cX12_find 164 = .ok (.aload_n 0, 1) := by decide +kernel
theorem dX12_find_165 : decode cX12_find 165 = .ok (.dup, 1) := by decide +kernel
theorem dX12_find_166 : decode cX12_find 166 = .ok (.getfield 433, 3) := by decide +kernel
theorem dX12_find_169 : decode cX12_find 169 = .ok (.aload_n 0, 1) := by decide +kernel
theorem dX12_find_170 : decode cX12_find 170 = .ok (.getfield 430, 3) := by decide +kernel
theorem dX12_find_173 : decode cX12_find 173 = .ok (.ladd, 1) := by decide +kernel
theorem dX12_find_174 : decode cX12_find 174 = .ok (.putfield 433, 3) := by decide +kernel
theorem dX12_find_177 : decode cX12_find 177 = .ok (.iinc 10 1, 3) := by decide +kernel
theorem dX12_find_180 : decode cX12_find 180 = .ok (.goto (-152), 3) := by decide +kernel
theorem dX12_find_183 : decode cX12_find 183 = .ok (.iinc 9 1, 3) := by decide +kernel
theorem dX12_find_186 : decode cX12_find 186 = .ok (.goto (-172), 3) := by decide +kernel
theorem dX12_find_189 : decode cX12_find 189 = .ok (.aload_n 0, 1) := by decide +kernel
theorem dX12_find_190 : decode cX12_find 190 = .ok (.lload 7, 2) := by decide +kernel
theorem dX12_find_192 : decode cX12_find 192 = .ok (.putfield 430, 3) := by decide +kernel
theorem dX12_find_195 : decode cX12_find 195 = .ok (.iload 6, 2) := by decide +kernel
theorem dX12_find_197 : decode cX12_find 197 = .ok (.ireturn, 1) := by decide +kernel
theorem dX12_atLeastNought_0 : decode cX12_atLeastNought 0 = .ok (.aload_n 0, 1) := by decide +kernel
theorem dX12_atLeastNought_1 : decode cX12_atLeastNought 1 = .ok (.getfield 430, 3) := by decide +kernel
theorem dX12_atLeastNought_4 : decode cX12_atLeastNought 4 = .ok (.lconst 0, 1) := by decide +kernel
theorem dX12_atLeastNought_5 : decode cX12_atLeastNought 5 = .ok (.lcmp, 1) := by decide +kernel
theorem dX12_atLeastNought_6 : decode cX12_atLeastNought 6 = .ok (.ifCond .ge 7, 3) := by decide +kernel
theorem dX12_atLeastNought_9 : decode cX12_atLeastNought 9 = .ok (.iconst 0, 1) := by decide +kernel
theorem dX12_atLeastNought_10 : decode cX12_atLeastNought 10 = .ok (.goto 8, 3) := by decide +kernel
theorem dX12_atLeastNought_13 : decode cX12_atLeastNought 13 = .ok (.aload_n 0, 1) := by decide +kernel
theorem dX12_atLeastNought_14 : decode cX12_atLeastNought 14 = .ok (.getfield 430, 3) := by decide +kernel
theorem dX12_atLeastNought_17 : decode cX12_atLeastNought 17 = .ok (.l2i, 1) := by decide +kernel
theorem dX12_atLeastNought_18 : decode cX12_atLeastNought 18 = .ok (.ireturn, 1) := by decide +kernel
theorem dX12_counts_0 : decode cX12_counts 0 = .ok (.aload_n 0, 1) := by decide +kernel
theorem dX12_counts_1 : decode cX12_counts 1 = .ok (.iconst 0, 1) := by decide +kernel
theorem dX12_counts_2 : decode cX12_counts 2 = .ok (.putfield 145, 3) := by decide +kernel
theorem dX12_counts_5 : decode cX12_counts 5 = .ok (.iload_n 1, 1) := by decide +kernel
theorem dX12_counts_6 : decode cX12_counts 6 = .ok (.i2l, 1) := by decide +kernel
theorem dX12_counts_7 : decode cX12_counts 7 = .ok (.lconst 0, 1) := by decide +kernel
theorem dX12_counts_8 : decode cX12_counts 8 = .ok (.ldc2_w 157, 3) := by decide +kernel
theorem dX12_counts_11 : decode cX12_counts 11 = .ok (.invokestatic 153, 3) := by decide +kernel
theorem dX12_counts_14 : decode cX12_counts 14 = .ok (.ifCond .eq 17, 3) := by decide +kernel
theorem dX12_counts_17 : decode cX12_counts 17 = .ok (.iload_n 2, 1) := by decide +kernel
theorem dX12_counts_18 : decode cX12_counts 18 = .ok (.invokestatic 387, 3) := by decide +kernel
theorem dX12_counts_21 : decode cX12_counts 21 = .ok (.ifCond .eq 10, 3) := by decide +kernel
theorem dX12_counts_24 : decode cX12_counts 24 = .ok (.iload_n 3, 1) := by decide +kernel
theorem dX12_counts_25 : decode cX12_counts 25 = .ok (.invokestatic 387, 3) := by decide +kernel
theorem dX12_counts_28 : decode cX12_counts 28 = .ok (.ifCond .ne 5, 3) := by decide +kernel
theorem dX12_counts_31 : decode cX12_counts 31 = .ok (.iconst (-1), 1) := by decide +kernel
theorem dX12_counts_32 : decode cX12_counts 32 = .ok (.ireturn, 1) := by decide +kernel
theorem dX12_counts_33 : decode cX12_counts 33 = .ok (.aload_n 0, 1) := by decide +kernel
theorem dX12_counts_34 : decode cX12_counts 34 = .ok (.iload_n 3, 1) := by decide +kernel
theorem dX12_counts_35 : decode cX12_counts 35 = .ok (.invokevirtual 406, 3) := by decide +kernel
theorem dX12_counts_38 : decode cX12_counts 38 = .ok (.aload_n 0, 1) := by decide +kernel
theorem dX12_counts_39 : decode cX12_counts 39 = .ok (.iconst 0, 1) := by decide +kernel
theorem dX12_counts_40 : decode cX12_counts 40 = .ok (.iload_n 2, 1) := by decide +kernel
theorem dX12_counts_41 : decode cX12_counts 41 = .ok (.invokevirtual 440, 3) := by decide +kernel
theorem dX12_counts_44 : decode cX12_counts 44 = .ok (.iload_n 1, 1) := by decide +kernel
theorem dX12_counts_45 : decode cX12_counts 45 = .ok (.iconst 3, 1) := by decide +kernel
theorem dX12_counts_46 : decode cX12_counts 46 = .ok (.if_icmp .ge 7, 3) := by decide +kernel
theorem dX12_counts_49 : decode cX12_counts 49 = .ok (.iconst 4, 1) := by decide +kernel
theorem dX12_counts_50 : decode cX12_counts 50 = .ok (.goto 25, 3) := by decide +kernel
theorem dX12_counts_53 : decode cX12_counts 53 = .ok (.iload_n 1, 1) := by decide +kernel
theorem dX12_counts_54 : decode cX12_counts 54 = .ok (.iconst 3, 1) := by decide +kernel
theorem dX12_counts_55 : decode cX12_counts 55 = .ok (.if_icmp .ne 8, 3) := by decide +kernel
theorem dX12_counts_58 : decode cX12_counts 58 = .ok (.bipush 6, 2) := by decide +kernel
theorem dX12_counts_60 : decode cX12_counts 60 = .ok (.goto 15, 3) := by decide +kernel
theorem dX12_counts_63 : decode cX12_counts 63 = .ok (.iload_n 1, 1) := by decide +kernel
theorem dX12_counts_64 : decode cX12_counts 64 = .ok (.iconst 4, 1) := by decide +kernel
theorem dX12_counts_65 : decode cX12_counts 65 = .ok (.if_icmp .ne 8, 3) := by decide +kernel
theorem dX12_counts_68 : decode cX12_counts 68 = .ok (.bipush 7, 2) := by decide +kernel
theorem dX12_counts_70 : decode cX12_counts 70 = .ok (.goto 5, 3) := by decide +kernel
theorem dX12_counts_73 : decode cX12_counts 73 = .ok (.bipush 8, 2) := by decide +kernel
theorem dX12_counts_75 : decode cX12_counts 75 = .ok (.istore 4, 2) := by decide +kernel
theorem dX12_counts_77 : decode cX12_counts 77 = .ok (.aload_n 0, 1) := by decide +kernel
theorem dX12_counts_78 : decode cX12_counts 78 = .ok (.iload 4, 2) := by decide +kernel
theorem dX12_counts_80 : decode cX12_counts 80 = .ok (.iload_n 1, 1) := by decide +kernel
theorem dX12_counts_81 : decode cX12_counts 81 = .ok (.iconst 3, 1) := by decide +kernel
theorem dX12_counts_82 : decode cX12_counts 82 = .ok (.if_icmp .ge 7, 3) := by decide +kernel
theorem dX12_counts_85 : decode cX12_counts 85 = .ok (.iload_n 1, 1) := by decide +kernel
theorem dX12_counts_86 : decode cX12_counts 86 = .ok (.goto 4, 3) := by decide +kernel
theorem dX12_counts_89 : decode cX12_counts 89 = .ok (.iconst 0, 1) := by decide +kernel
theorem dX12_counts_90 : decode cX12_counts 90 = .ok (.iconst 0, 1) := by decide +kernel
theorem dX12_counts_91 : decode cX12_counts 91 = .ok (.iconst 0, 1) := by decide +kernel
theorem dX12_counts_92 : decode cX12_counts 92 = .ok (.iload_n 2, 1) := by decide +kernel
theorem dX12_counts_93 : decode cX12_counts 93 = .ok (.invokevirtual 443, 3) := by decide +kernel
theorem dX12_counts_96 : decode cX12_counts 96 = .ok (.ifCond .eq 10, 3) := by decide +kernel
theorem dX12_counts_99 : decode cX12_counts 99 = .ok (.aload_n 0, 1) := by decide +kernel
theorem dX12_counts_100 : decode cX12_counts 100 = .ok (.invokevirtual 447, 3) := by decide +kernel
theorem dX12_counts_103 : decode cX12_counts 103 = .ok (.goto 4, 3) := by decide +kernel
theorem dX12_counts_106 : decode cX12_counts 106 = .ok (.iconst (-1), 1) := by decide +kernel
theorem dX12_counts_107 : decode cX12_counts 107 = .ok (.ireturn, 1) := by decide +kernel
theorem dX12_needOf_0 : decode cX12_needOf 0 = .ok (.iload 5, 2) := by decide +kernel
theorem dX12_needOf_2 : decode cX12_needOf 2 = .ok (.iconst 3, 1) := by decide +kernel
theorem dX12_needOf_3 : decode cX12_needOf 3 = .ok (.imul, 1) := by decide +kernel
theorem dX12_needOf_4 : decode cX12_needOf 4 = .ok (.iload_n 1, 1) := by decide +kernel
theorem dX12_needOf_5 : decode cX12_needOf 5 = .ok (.iadd, 1) := by decide +kernel
theorem dX12_needOf_6 : decode cX12_needOf 6 = .ok (.iconst 3, 1) := by decide +kernel
theorem dX12_needOf_7 : decode cX12_needOf 7 = .ok (.imul, 1) := by decide +kernel
theorem dX12_needOf_8 : decode cX12_needOf 8 = .ok (.iload_n 2, 1) := by decide +kernel
theorem dX12_needOf_9 : decode cX12_needOf 9 = .ok (.iadd, 1) := by decide +kernel
theorem dX12_needOf_10 : decode cX12_needOf 10 = .ok (.bipush 6, 2) := by decide +kernel
theorem dX12_needOf_12 : decode cX12_needOf 12 = .ok (.imul, 1) := by decide +kernel
theorem dX12_needOf_13 : decode cX12_needOf 13 = .ok (.iload_n 3, 1) := by decide +kernel
theorem dX12_needOf_14 : decode cX12_needOf 14 = .ok (.iadd, 1) := by decide +kernel
theorem dX12_needOf_15 : decode cX12_needOf 15 = .ok (.bipush 6, 2) := by decide +kernel
theorem dX12_needOf_17 : decode cX12_needOf 17 = .ok (.imul, 1) := by decide +kernel
theorem dX12_needOf_18 : decode cX12_needOf 18 = .ok (.iload 4, 2) := by decide +kernel
theorem dX12_needOf_20 : decode cX12_needOf 20 = .ok (.iadd, 1) := by decide +kernel
theorem dX12_needOf_21 : decode cX12_needOf 21 = .ok (.iconst 1, 1) := by decide +kernel
theorem dX12_needOf_22 : decode cX12_needOf 22 = .ok (.isub, 1) := by decide +kernel
theorem dX12_needOf_23 : decode cX12_needOf 23 = .ok (.istore 6, 2) := by decide +kernel
theorem dX12_needOf_25 : decode cX12_needOf 25 = .ok (.aload_n 0, 1) := by decide +kernel
theorem dX12_needOf_26 : decode cX12_needOf 26 = .ok (.getfield 61, 3) := by decide +kernel
theorem dX12_needOf_29 : decode cX12_needOf 29 = .ok (.iload 6, 2) := by decide +kernel
theorem dX12_needOf_31 : decode cX12_needOf 31 = .ok (.iaload, 1) := by decide +kernel
theorem dX12_needOf_32 : decode cX12_needOf 32 = .ok (.bipush (-2), 2) := by decide +kernel
theorem dX12_needOf_34 : decode cX12_needOf 34 = .ok (.if_icmp .ne 61, 3) := by decide +kernel
theorem dX12_needOf_37 : decode cX12_needOf 37 = .ok (.aload_n 0, 1) := by decide +kernel
theorem dX12_needOf_38 : decode cX12_needOf 38 = .ok (.iload 4, 2) := by decide +kernel
theorem dX12_needOf_40 : decode cX12_needOf 40 = .ok (.iload 5, 2) := by decide +kernel
theorem dX12_needOf_42 : decode cX12_needOf 42 = .ok (.invokevirtual 440, 3) := by decide +kernel
theorem dX12_needOf_45 : decode cX12_needOf 45 = .ok (.iload_n 3, 1) := by decide +kernel
theorem dX12_needOf_46 : decode cX12_needOf 46 = .ok (.iconst 5, 1) := by decide +kernel
theorem dX12_needOf_47 : decode cX12_needOf 47 = .ok (.if_icmp .ge 16, 3) := by decide +kernel
theorem dX12_needOf_50 : decode cX12_needOf 50 = .ok (.aload_n 0, 1) := by decide +kernel
theorem dX12_needOf_51 : decode cX12_needOf 51 = .ok (.iconst 1, 1) := by decide +kernel
theorem dX12_needOf_52 : decode cX12_needOf 52 = .ok (.iload_n 1, 1) := by decide +kernel
theorem dX12_needOf_53 : decode cX12_needOf 53 = .ok (.iload_n 2, 1) := by decide +kernel
theorem dX12_needOf_54 : decode cX12_needOf 54 = .ok (.iload_n 3, 1) := by decide +kernel
theorem dX12_needOf_55 : decode cX12_needOf 55 = .ok (.iload 5, 2) := by decide +kernel
theorem dX12_needOf_57 : decode cX12_needOf 57 = .ok (.invokevirtual 443, 3) := by decide +kernel
theorem dX12_needOf_60 : decode cX12_needOf 60 = .ok (.goto 13, 3) := by decide +kernel
theorem dX12_needOf_63 : decode cX12_needOf 63 = .ok (.aload_n 0, 1) := by decide +kernel
theorem dX12_needOf_64 : decode cX12_needOf 64 = .ok (.iconst 2, 1) := by decide +kernel
theorem dX12_needOf_65 : decode cX12_needOf 65 = .ok (.iload_n 1, 1) := by decide +kernel
theorem dX12_needOf_66 : decode cX12_needOf 66 = .ok (.iload_n 2, 1) := by decide +kernel
theorem dX12_needOf_67 : decode cX12_needOf 67 = .ok (.iconst 0, 1) := by decide +kernel
theorem dX12_needOf_68 : decode cX12_needOf 68 = .ok (.iload 5, 2) := by decide +kernel
theorem dX12_needOf_70 : decode cX12_needOf 70 = .ok (.invokevirtual 443, 3) := by decide +kernel
theorem dX12_needOf_73 : decode cX12_needOf 73 = .ok (.istore 7, 2) := by decide +kernel
theorem dX12_needOf_75 : decode cX12_needOf 75 = .ok (.aload_n 0, 1) := by decide +kernel
theorem dX12_needOf_76 : decode cX12_needOf 76 = .ok (.getfield 61, 3) := by decide +kernel
theorem dX12_needOf_79 : decode cX12_needOf 79 = .ok (.iload 6, 2) := by decide +kernel
theorem dX12_needOf_81 : decode cX12_needOf 81 = .ok (.iload 7, 2) := by decide +kernel
theorem dX12_needOf_83 : decode cX12_needOf 83 = .ok (.ifCond .eq 10, 3) := by decide +kernel
theorem dX12_needOf_86 : decode cX12_needOf 86 = .ok (.aload_n 0, 1) := by decide +kernel
theorem dX12_needOf_87 : decode cX12_needOf 87 = .ok (.invokevirtual 447, 3) := by decide +kernel
theorem dX12_needOf_90 : decode cX12_needOf 90 = .ok (.goto 4, 3) := by decide +kernel
theorem dX12_needOf_93 : decode cX12_needOf 93 = .ok (.iconst 0, 1) := by decide +kernel
theorem dX12_needOf_94 : decode cX12_needOf 94 = .ok (.iastore, 1) := by decide +kernel
theorem dX12_needOf_95 : decode cX12_needOf 95 = .ok (.aload_n 0, 1) := by decide +kernel
theorem dX12_needOf_96 : decode cX12_needOf 96 = .ok (.getfield 61, 3) := by decide +kernel
theorem dX12_needOf_99 : decode cX12_needOf 99 = .ok (.iload 6, 2) := by decide +kernel
theorem dX12_needOf_101 : decode cX12_needOf 101 = .ok (.iaload, 1) := by decide +kernel
theorem dX12_needOf_102 : decode cX12_needOf 102 = .ok (.ireturn, 1) := by decide +kernel
theorem dX12_firstOf_0 : decode cX12_firstOf 0 = .ok (.aload_n 0, 1) := by decide +kernel
theorem dX12_firstOf_1 : decode cX12_firstOf 1 = .ok (.getfield 64, 3) := by decide +kernel
theorem dX12_firstOf_4 : decode cX12_firstOf 4 = .ok (.iload_n 1, 1) := by decide +kernel
theorem dX12_firstOf_5 : decode cX12_firstOf 5 = .ok (.iaload, 1) := by decide +kernel
theorem dX12_firstOf_6 : decode cX12_firstOf 6 = .ok (.bipush (-2), 2) := by decide +kernel
theorem dX12_firstOf_8 : decode cX12_firstOf 8 = .ok (.if_icmp .ne 37, 3) := by decide +kernel
theorem dX12_firstOf_11 : decode cX12_firstOf 11 = .ok (.aload_n 0, 1) := by decide +kernel
theorem dX12_firstOf_12 : decode cX12_firstOf 12 = .ok (.iconst 0, 1) := by decide +kernel
theorem dX12_firstOf_13 : decode cX12_firstOf 13 = .ok (.iload_n 1, 1) := by decide +kernel
theorem dX12_firstOf_14 : decode cX12_firstOf 14 = .ok (.invokevirtual 440, 3) := by decide +kernel
theorem dX12_firstOf_17 : decode cX12_firstOf 17 = .ok (.aload_n 0, 1) := by decide +kernel
theorem dX12_firstOf_18 : decode cX12_firstOf 18 = .ok (.getfield 64, 3) := by decide +kernel
theorem dX12_firstOf_21 : decode cX12_firstOf 21 = .ok (.iload_n 1, 1) := by decide +kernel
theorem dX12_firstOf_22 : decode cX12_firstOf 22 = .ok (.aload_n 0, 1) := by decide +kernel
theorem dX12_firstOf_23 : decode cX12_firstOf 23 = .ok (.bipush 8, 2) := by decide +kernel
theorem dX12_firstOf_25 : decode cX12_firstOf 25 = .ok (.iconst 0, 1) := by decide +kernel
theorem dX12_firstOf_26 : decode cX12_firstOf 26 = .ok (.iconst 0, 1) := by decide +kernel
theorem dX12_firstOf_27 : decode cX12_firstOf 27 = .ok (.iconst 0, 1) := by decide +kernel
theorem dX12_firstOf_28 : decode cX12_firstOf 28 = .ok (.iload_n 1, 1) := by decide +kernel
theorem dX12_firstOf_29 : decode cX12_firstOf 29 = .ok (.invokevirtual 443, 3) := by decide +kernel
theorem dX12_firstOf_32 : decode cX12_firstOf 32 = .ok (.ifCond .eq 11, 3) := by decide +kernel
theorem dX12_firstOf_35 : decode cX12_firstOf 35 = .ok (.aload_n 0, 1) := by decide +kernel
theorem dX12_firstOf_36 : decode cX12_firstOf 36 = .ok (.getfield 430, 3) := by decide +kernel
theorem dX12_firstOf_39 : decode cX12_firstOf 39 = .ok (.l2i, 1) := by decide +kernel
theorem dX12_firstOf_40 : decode cX12_firstOf 40 = .ok (.goto 4, 3) := by decide +kernel
theorem dX12_firstOf_43 : decode cX12_firstOf 43 = .ok (.iconst (-1), 1) := by decide +kernel
theorem dX12_firstOf_44 : decode cX12_firstOf 44 = .ok (.iastore, 1) := by decide +kernel
theorem dX12_firstOf_45 : decode cX12_firstOf 45 = .ok (.aload_n 0, 1) := by decide +kernel
theorem dX12_firstOf_46 : decode cX12_firstOf 46 = .ok (.getfield 64, 3) := by decide +kernel
theorem dX12_firstOf_49 : decode cX12_firstOf 49 = .ok (.iload_n 1, 1) := by decide +kernel
theorem dX12_firstOf_50 : decode cX12_firstOf 50 = .ok (.iaload, 1) := by decide +kernel
theorem dX12_firstOf_51 : decode cX12_firstOf 51 = .ok (.ireturn, 1) := by decide +kernel
theorem dX12_need_0 : decode cX12_need 0 = .ok (.aload_n 0, 1) := by decide +kernel
theorem dX12_need_1 : decode cX12_need 1 = .ok (.iconst 0, 1) := by decide +kernel
theorem dX12_need_2 : decode cX12_need 2 = .ok (.putfield 145, 3) := by decide +kernel
theorem dX12_need_5 : decode cX12_need 5 = .ok (.iload_n 1, 1) := by decide +kernel
theorem dX12_need_6 : decode cX12_need 6 = .ok (.i2l, 1) := by decide +kernel
theorem dX12_need_7 : decode cX12_need 7 = .ok (.lconst 0, 1) := by decide +kernel
theorem dX12_need_8 : decode cX12_need 8 = .ok (.ldc2_w 161, 3) := by decide +kernel
theorem dX12_need_11 : decode cX12_need 11 = .ok (.invokestatic 153, 3) := by decide +kernel
theorem dX12_need_14 : decode cX12_need 14 = .ok (.ifCond .eq 56, 3) := by decide +kernel
theorem dX12_need_17 : decode cX12_need 17 = .ok (.iload_n 2, 1) := by decide +kernel
theorem dX12_need_18 : decode cX12_need 18 = .ok (.i2l, 1) := by decide +kernel
theorem dX12_need_19 : decode cX12_need 19 = .ok (.lconst 0, 1) := by decide +kernel
theorem dX12_need_20 : decode cX12_need 20 = .ok (.ldc2_w 161, 3) := by decide +kernel
theorem dX12_need_23 : decode cX12_need 23 = .ok (.invokestatic 153, 3) := by decide +kernel
theorem dX12_need_26 : decode cX12_need 26 = .ok (.ifCond .eq 44, 3) := by decide +kernel
theorem dX12_need_29 : decode cX12_need 29 = .ok (.iload_n 3, 1) := by decide +kernel
theorem dX12_need_30 : decode cX12_need 30 = .ok (.i2l, 1) := by decide +kernel
theorem dX12_need_31 : decode cX12_need 31 = .ok (.lconst 0, 1) := by decide +kernel
theorem dX12_need_32 : decode cX12_need 32 = .ok (.ldc2_w 157, 3) := by decide +kernel
theorem dX12_need_35 : decode cX12_need 35 = .ok (.invokestatic 153, 3) := by decide +kernel
theorem dX12_need_38 : decode cX12_need 38 = .ok (.ifCond .eq 32, 3) := by decide +kernel
theorem dX12_need_41 : decode cX12_need 41 = .ok (.iload 4, 2) := by decide +kernel
theorem dX12_need_43 : decode cX12_need 43 = .ok (.i2l, 1) := by decide +kernel
theorem dX12_need_44 : decode cX12_need 44 = .ok (.lconst 1, 1) := by decide +kernel
theorem dX12_need_45 : decode cX12_need 45 = .ok (.ldc2_w 450, 3) := by decide +kernel
theorem dX12_need_48 : decode cX12_need 48 = .ok (.invokestatic 153, 3) := by decide +kernel
theorem dX12_need_51 : decode cX12_need 51 = .ok (.ifCond .eq 19, 3) := by decide +kernel
theorem dX12_need_54 : decode cX12_need 54 = .ok (.iload 5, 2) := by decide +kernel
theorem dX12_need_56 : decode cX12_need 56 = .ok (.invokestatic 387, 3) := by decide +kernel
theorem dX12_need_59 : decode cX12_need 59 = .ok (.ifCond .eq 11, 3) := by decide +kernel
theorem dX12_need_62 : decode cX12_need 62 = .ok (.iload 6, 2) := by decide +kernel
theorem dX12_need_64 : decode cX12_need 64 = .ok (.invokestatic 387, 3) := by decide +kernel
theorem dX12_need_67 : decode cX12_need 67 = .ok (.ifCond .ne 5, 3) := by decide +kernel
theorem dX12_need_70 : decode cX12_need 70 = .ok (.iconst (-1), 1) := by decide +kernel
theorem dX12_need_71 : decode cX12_need 71 = .ok (.ireturn, 1) := by decide +kernel
theorem dX12_need_72 : decode cX12_need 72 = .ok (.aload_n 0, 1) := by decide +kernel
theorem dX12_need_73 : decode cX12_need 73 = .ok (.iload 6, 2) := by decide +kernel
theorem dX12_need_75 : decode cX12_need 75 = .ok (.invokevirtual 406, 3) := by decide +kernel
theorem dX12_need_78 : decode cX12_need 78 = .ok (.aload_n 0, 1) := by decide +kernel
theorem dX12_need_79 : decode cX12_need 79 = .ok (.iload_n 1, 1) := by decide +kernel
theorem dX12_need_80 : decode cX12_need 80 = .ok (.iload_n 2, 1) := by decide +kernel
theorem dX12_need_81 : decode cX12_need 81 = .ok (.iload_n 3, 1) := by decide +kernel
theorem dX12_need_82 : decode cX12_need 82 = .ok (.iload 4, 2) := by decide +kernel
theorem dX12_need_84 : decode cX12_need 84 = .ok (.iload 5, 2) := by decide +kernel
theorem dX12_need_86 : decode cX12_need 86 = .ok (.invokevirtual 452, 3) := by decide +kernel
theorem dX12_need_89 : decode cX12_need 89 = .ok (.ireturn, 1) := by decide +kernel
theorem dX12_deliver_0 : decode cX12_deliver 0 = .ok (.aload_n 0, 1) := by decide +kernel
theorem dX12_deliver_1 : decode cX12_deliver 1 = .ok (.iconst 0, 1) := by decide +kernel
theorem dX12_deliver_2 : decode cX12_deliver 2 = .ok (.putfield 145, 3) := by decide +kernel
theorem dX12_deliver_5 : decode cX12_deliver 5 = .ok (.iload_n 1, 1) := by decide +kernel
theorem dX12_deliver_6 : decode cX12_deliver 6 = .ok (.i2l, 1) := by decide +kernel
theorem dX12_deliver_7 : decode cX12_deliver 7 = .ok (.lconst 0, 1) := by decide +kernel
theorem dX12_deliver_8 : decode cX12_deliver 8 = .ok (.ldc2_w 456, 3) := by decide +kernel
theorem dX12_deliver_11 : decode cX12_deliver 11 = .ok (.invokestatic 153, 3) := by decide +kernel
theorem dX12_deliver_14 : decode cX12_deliver 14 = .ok (.ifCond .eq 30, 3) := by decide +kernel
theorem dX12_deliver_17 : decode cX12_deliver 17 = .ok (.iload_n 2, 1) := by decide +kernel
theorem dX12_deliver_18 : decode cX12_deliver 18 = .ok (.invokestatic 387, 3) := by decide +kernel
theorem dX12_deliver_21 : decode cX12_deliver 21 = .ok (.ifCond .eq 23, 3) := by decide +kernel
theorem dX12_deliver_24 : decode cX12_deliver 24 = .ok (.iload_n 3, 1) := by decide +kernel
theorem dX12_deliver_25 : decode cX12_deliver 25 = .ok (.i2l, 1) := by decide +kernel
theorem dX12_deliver_26 : decode cX12_deliver 26 = .ok (.lconst 1, 1) := by decide +kernel
theorem dX12_deliver_27 : decode cX12_deliver 27 = .ok (.ldc2_w 210, 3) := by decide +kernel
theorem dX12_deliver_30 : decode cX12_deliver 30 = .ok (.invokestatic 153, 3) := by decide +kernel
theorem dX12_deliver_33 : decode cX12_deliver 33 = .ok (.ifCond .eq 11, 3) := by decide +kernel
theorem dX12_deliver_36 : decode cX12_deliver 36 = .ok (.iload 4, 2) := by decide +kernel
theorem dX12_deliver_38 : decode cX12_deliver 38 = .ok (.invokestatic 387, 3) := by decide +kernel
theorem dX12_deliver_41 : decode cX12_deliver 41 = .ok (.ifCond .ne 9, 3) := by decide +kernel
theorem dX12_deliver_44 : decode cX12_deliver 44 = .ok (.aload_n 0, 1) := by decide +kernel
theorem dX12_deliver_45 : decode cX12_deliver 45 = .ok (.iconst (-1), 1) := by decide +kernel
theorem dX12_deliver_46 : decode cX12_deliver 46 = .ok (.invokevirtual 163, 3) := by decide +kernel
theorem dX12_deliver_49 : decode cX12_deliver 49 = .ok (.ireturn, 1) := by decide +kernel
theorem dX12_deliver_50 : decode cX12_deliver 50 = .ok (.aload_n 0, 1) := by decide +kernel
theorem dX12_deliver_51 : decode cX12_deliver 51 = .ok (.getfield 8, 3) := by decide +kernel
theorem dX12_deliver_54 : decode cX12_deliver 54 = .ok (.iconst 1, 1) := by decide +kernel
theorem dX12_deliver_55 : decode cX12_deliver 55 = .ok (.iaload, 1) := by decide +kernel
theorem dX12_deliver_56 : decode cX12_deliver 56 = .ok (.bipush 120, 2) := by decide +kernel
theorem dX12_deliver_58 : decode cX12_deliver 58 = .ok (.if_icmp .ne 10, 3) := by decide +kernel
theorem dX12_deliver_61 : decode cX12_deliver 61 = .ok (.aload_n 0, 1) := by decide +kernel
theorem dX12_deliver_62 : decode cX12_deliver 62 = .ok (.bipush (-5), 2) := by decide +kernel
theorem dX12_deliver_64 : decode cX12_deliver 64 = .ok (.invokevirtual 163, 3) := by decide +kernel
theorem dX12_deliver_67 : decode cX12_deliver 67 = .ok (.ireturn, 1) := by decide +kernel
theorem dX12_deliver_68 : decode cX12_deliver 68 = .ok (.aload_n 0, 1) := by decide +kernel
theorem dX12_deliver_69 : decode cX12_deliver 69 = .ok (.sipush 22748, 3) := by decide +kernel
theorem dX12_deliver_72 : decode cX12_deliver 72 = .ok (.iconst 4, 1) := by decide +kernel
theorem dX12_deliver_73 : decode cX12_deliver 73 = .ok (.aload_n 0, 1) := by decide +kernel
theorem dX12_deliver_74 : decode cX12_deliver 74 = .ok (.getfield 8, 3) := by decide +kernel
theorem dX12_deliver_77 : decode cX12_deliver 77 = .ok (.iconst 1, 1) := by decide +kernel
theorem dX12_deliver_78 : decode cX12_deliver 78 = .ok (.iaload, 1) := by decide +kernel
theorem dX12_deliver_79 : decode cX12_deliver 79 = .ok (.imul, 1) := by decide +kernel
theorem dX12_deliver_80 : decode cX12_deliver 80 = .ok (.iadd, 1) := by decide +kernel
theorem dX12_deliver_81 : decode cX12_deliver 81 = .ok (.iload_n 1, 1) := by decide +kernel
theorem dX12_deliver_82 : decode cX12_deliver 82 = .ok (.iload_n 2, 1) := by decide +kernel
theorem dX12_deliver_83 : decode cX12_deliver 83 = .ok (.iload_n 3, 1) := by decide +kernel
theorem dX12_deliver_84 : decode cX12_deliver 84 = .ok (.iload 4, 2) := by decide +kernel
theorem dX12_deliver_86 : decode cX12_deliver 86 = .ok (.invokevirtual 458, 3) := by decide +kernel
theorem dX12_deliver_89 : decode cX12_deliver 89 = .ok (.aload_n 0, 1) := by decide +kernel
theorem dX12_deliver_90 : decode cX12_deliver 90 = .ok (.getfield 8, 3) := by decide +kernel
theorem dX12_deliver_93 : decode cX12_deliver 93 = .ok (.iconst 1, 1) := by decide +kernel
theorem dX12_deliver_94 : decode cX12_deliver 94 = .ok (.dup2, 1) := by decide +kernel
theorem dX12_deliver_95 : decode cX12_deliver 95 = .ok (.iaload, 1) := by decide +kernel
theorem dX12_deliver_96 : decode cX12_deliver 96 = .ok (.iconst 1, 1) := by decide +kernel
theorem dX12_deliver_97 : decode cX12_deliver 97 = .ok (.iadd, 1) := by decide +kernel
theorem dX12_deliver_98 : decode cX12_deliver 98 = .ok (.iastore, 1) := by decide +kernel
theorem dX12_deliver_99 : decode cX12_deliver 99 = .ok (.aload_n 0, 1) := by decide +kernel
theorem dX12_deliver_100 : decode cX12_deliver 100 = .ok (.aload_n 0, 1) := by decide +kernel
theorem dX12_deliver_101 : decode cX12_deliver 101 = .ok (.getfield 8, 3) := by decide +kernel
theorem dX12_deliver_104 : decode cX12_deliver 104 = .ok (.iconst 1, 1) := by decide +kernel
theorem dX12_deliver_105 : decode cX12_deliver 105 = .ok (.iaload, 1) := by decide +kernel
theorem dX12_deliver_106 : decode cX12_deliver 106 = .ok (.invokevirtual 163, 3) := by decide +kernel
theorem dX12_deliver_109 : decode cX12_deliver 109 = .ok (.ireturn, 1) := by decide +kernel
def W_X12_findForce_0 (X : Sx) (l : Launch) (D : Nat) (x1 : Int32) (σ : AH) (r : Option Value) (σ' : AH) : Prop := (if (gI σ 124 24) = x1 then (r = none ∧ σ' = σ) else E X l m_X12_findForce D 16 [(0, .ref 124), (1, .int x1), (2, .int (0 : Int32))] [] (sI σ 124 24 x1) r σ')
set_option maxRecDepth 100000 in
theorem w_X12_findForce_0 {X : Sx} {l : Launch} {D : Nat} {x1 : Int32} {σ : AH} {r : Option Value} {σ' : AH} (hs : Sh σ) (h : W_X12_findForce_0 X l D x1 σ r σ') : E X l m_X12_findForce D 0 [(0, .ref 124), (1, .int x1)] [] σ r σ' := by
  unfold W_X12_findForce_0 at h
  refine E_aload_n 0 dX12_findForce_0 rfl rfl ?_
  refine E_getI dX12_findForce_1 fl_X12_44 rfl (sk_124 hs) (sn hs (by decide)) ?_
  refine E_iload_n 1 dX12_findForce_4 rfl rfl ?_
  refine E_icmp_ne 9 dX12_findForce_5 (by decide) (fun c => ?_) (fun c => ?_)
  · rw [if_neg c] at h
    refine E_aload_n 0 dX12_findForce_9 rfl rfl ?_
    refine E_iload_n 1 dX12_findForce_10 rfl rfl ?_
    refine E_putI dX12_findForce_11 fl_X12_44 rfl (Or.inl rfl) (sk_124 hs) (sn hs (by decide)) (Or.inl (by decide)) rfl rfl ?_
    refine E_iconst (0 : Int32) dX12_findForce_14 (by decide) ?_
    refine E_istore_n [(2, .int (0 : Int32)), (0, .ref 124), (1, .int x1)] dX12_findForce_15 rfl (by decide) rfl ?_
    exact E_lv [1, 2, 0] rfl h
  · rw [if_pos c] at h
    obtain ⟨rfl, rfl⟩ := h
    exact E_vret dX12_findForce_8 rfl
def W_X12_findForce_16 (X : Sx) (l : Launch) (D : Nat) (x1 : Int32) (x2 : Int32) (σ : AH) (r : Option Value) (σ' : AH) : Prop := (if (384 : Int32) ≤ x2 then E X l m_X12_findForce D 45 [(0, .ref 124), (1, .int x1), (2, .int ((gI σ 125 0) - (1 : Int32)))] [] σ r σ' else vp_in x2 384 ∧ E X l m_X12_findForce D 16 [(0, .ref 124), (1, .int x1), (2, .int (x2 + 1))] [] (sI σ 135 x2.toNatClampNeg (0 : Int32)) r σ')
set_option maxRecDepth 100000 in
theorem w_X12_findForce_16 {X : Sx} {l : Launch} {D : Nat} {x1 : Int32} {x2 : Int32} {σ : AH} {r : Option Value} {σ' : AH} (hs : Sh σ) (h : W_X12_findForce_16 X l D x1 x2 σ r σ') : E X l m_X12_findForce D 16 [(0, .ref 124), (1, .int x1), (2, .int x2)] [] σ r σ' := by
  unfold W_X12_findForce_16 at h
  refine E_iload_n 2 dX12_findForce_16 rfl rfl ?_
  refine E_sipush (384 : Int32) dX12_findForce_17 (by decide) ?_
  refine E_icmp_ge 36 dX12_findForce_20 (by decide) (fun c => ?_) (fun c => ?_)
  · rw [if_pos c] at h
    refine E_aload_n 0 dX12_findForce_36 rfl rfl ?_
    refine E_getR 125 dX12_findForce_37 fl_X12_8 rfl (sk_124 hs) (sn hs (by decide)) (sr_124_2 hs) ?_
    refine E_iconst (0 : Int32) dX12_findForce_40 (by decide) ?_
    refine E_iald2 0 dX12_findForce_41 (sk_125 hs) (sn hs (by decide)) (vp_lit (by decide)) (by decide) ?_
    refine E_iconst (1 : Int32) dX12_findForce_42 (by decide) ?_
    refine E_isub dX12_findForce_43 ?_
    refine E_istore_n [(2, .int ((gI σ 125 0) - (1 : Int32))), (0, .ref 124), (1, .int x1)] dX12_findForce_44 rfl (by decide) rfl ?_
    exact E_lv [1, 2, 0] rfl h
  · rw [if_neg c] at h
    refine E_aload_n 0 dX12_findForce_23 rfl rfl ?_
    refine E_getR 135 dX12_findForce_24 fl_X12_50 rfl (sk_124 hs) (sn hs (by decide)) (sr_124_26 hs) ?_
    refine E_iload_n 2 dX12_findForce_27 rfl rfl ?_
    refine E_iconst (0 : Int32) dX12_findForce_28 (by decide) ?_
    obtain ⟨g1, h⟩ := h
    refine E_zast2 (x2.toNatClampNeg) (0 : Int32) (by decide) dX12_findForce_29 (sk_135 hs) (sn hs (by decide)) (Or.inl (by decide)) g1 rfl ?_
    refine E_iinc 2 (x2 + 1) [(2, .int (x2 + 1)), (0, .ref 124), (1, .int x1)] dX12_findForce_30 rfl (congrArg (x2 + ·) (by decide : Int32.ofInt 1 = 1)) (by decide) rfl ?_
    refine E_goto 16 dX12_findForce_33 (by decide) ?_
    exact E_lv [1, 2, 0] rfl h
def W_X12_findForce_89 (X : Sx) (l : Launch) (D : Nat) (x1 : Int32) (x2 : Int32) (x3 : Int32) (y0 : Int32) (y1 : Int32) (σ : AH) (r : Option Value) (σ' : AH) : Prop := vp_in y1 24 ∧ E X l m_X12_findForce D 93 [(0, .ref 124), (1, .int x1), (2, .int x2), (3, .int x3), (4, .int (0 : Int32))] [] (sI σ 134 y1.toNatClampNeg (vp_nar .boolean y0)) r σ'
set_option maxRecDepth 100000 in
theorem w_X12_findForce_89 {X : Sx} {l : Launch} {D : Nat} {x1 : Int32} {x2 : Int32} {x3 : Int32} {y0 : Int32} {y1 : Int32} {σ : AH} {r : Option Value} {σ' : AH} (hs : Sh σ) (h : W_X12_findForce_89 X l D x1 x2 x3 y0 y1 σ r σ') : E X l m_X12_findForce D 89 [(0, .ref 124), (1, .int x1), (2, .int x2), (3, .int x3)] [.int y0, .int y1, .ref 134] σ r σ' := by
  unfold W_X12_findForce_89 at h
  obtain ⟨g10, h⟩ := h
  refine E_zast2 (y1.toNatClampNeg) (vp_nar .boolean y0) rfl dX12_findForce_89 (sk_134 hs) (sn hs (by decide)) (Or.inl (by decide)) g10 rfl ?_
  refine E_iconst (0 : Int32) dX12_findForce_90 (by decide) ?_
  refine E_istore [(4, .int (0 : Int32)), (0, .ref 124), (1, .int x1), (2, .int x2), (3, .int x3)] dX12_findForce_91 (by decide) rfl ?_
  exact E_lv [1, 2, 3, 4, 0] rfl h
def W_X12_findForce_88 (X : Sx) (l : Launch) (D : Nat) (x1 : Int32) (x2 : Int32) (x3 : Int32) (y0 : Int32) (σ : AH) (r : Option Value) (σ' : AH) : Prop := W_X12_findForce_89 X l D x1 x2 x3 (0 : Int32) y0 σ r σ'
set_option maxRecDepth 100000 in
theorem w_X12_findForce_88 {X : Sx} {l : Launch} {D : Nat} {x1 : Int32} {x2 : Int32} {x3 : Int32} {y0 : Int32} {σ : AH} {r : Option Value} {σ' : AH} (hs : Sh σ) (h : W_X12_findForce_88 X l D x1 x2 x3 y0 σ r σ') : E X l m_X12_findForce D 88 [(0, .ref 124), (1, .int x1), (2, .int x2), (3, .int x3)] [.int y0, .ref 134] σ r σ' := by
  unfold W_X12_findForce_88 at h
  refine E_iconst (0 : Int32) dX12_findForce_88 (by decide) ?_
  exact E_lv [0, 1, 2, 3] rfl (w_X12_findForce_89 hs h)
def W_X12_findForce_45 (X : Sx) (l : Launch) (D : Nat) (x1 : Int32) (x2 : Int32) (σ : AH) (r : Option Value) (σ' : AH) : Prop := (if x2 < 0 then (r = none ∧ σ' = σ) else ∃ d2 : Nat, ∃ v7 : Int32, ∃ σ3 : AH, d2 + 1 ≤ D ∧ Call X l m_X12_actAt d2 [.int x2] σ (some (.int v7)) σ3 ∧ vp_in (v7 + (1 : Int32)) 269832 ∧ (if (gI σ3 124 23) < (gI σ3 125 (v7 + (1 : Int32)).toNatClampNeg) then W_X12_findForce_88 X l D x1 x2 v7 x2 σ3 r σ' else vp_in v7 269832 ∧ (if x1 < (gI σ3 125 v7.toNatClampNeg) then W_X12_findForce_88 X l D x1 x2 v7 x2 σ3 r σ' else W_X12_findForce_89 X l D x1 x2 v7 (1 : Int32) x2 σ3 r σ')))
set_option maxRecDepth 100000 in
theorem w_X12_findForce_45 {X : Sx} {l : Launch} {D : Nat} {x1 : Int32} {x2 : Int32} {σ : AH} {r : Option Value} {σ' : AH} (hs : Sh σ) (h : W_X12_findForce_45 X l D x1 x2 σ r σ') : E X l m_X12_findForce D 45 [(0, .ref 124), (1, .int x1), (2, .int x2)] [] σ r σ' := by
  unfold W_X12_findForce_45 at h
  refine E_iload_n 2 dX12_findForce_45 rfl rfl ?_
  refine E_if_lt 201 dX12_findForce_46 (by decide) (fun c => ?_) (fun c => ?_)
  · rw [if_pos c] at h
    obtain ⟨rfl, rfl⟩ := h
    exact E_vret dX12_findForce_201 rfl
  · rw [if_neg c] at h
    refine E_iload_n 2 dX12_findForce_49 rfl rfl ?_
    obtain ⟨d2, v7, σ3, hD4, hC5, h⟩ := h
    have hs6 := hC5.1.2.2.2.1 hs
    refine E_callS (As := [.int x2]) (rest := []) (r1 := (some (.int v7))) dX12_findForce_50 ok_X12_actAt is_X12_actAt ml_X12_396 hD4 rfl rfl (Nat.le_of_ble_eq_true rfl) (by decide +kernel) hC5 ?_
    refine E_istore_n [(3, .int v7), (0, .ref 124), (1, .int x1), (2, .int x2)] dX12_findForce_53 rfl (by decide) rfl ?_
    refine E_aload_n 1 dX12_findForce_54 rfl rfl ?_
    refine E_getR 134 dX12_findForce_55 fl_X12_47 rfl (sk_124 hs6) (sn hs6 (by decide)) (sr_124_25 hs6) ?_
    refine E_iload_n 3 dX12_findForce_58 rfl rfl ?_
    refine E_aload_n 1 dX12_findForce_59 rfl rfl ?_
    refine E_getR 125 dX12_findForce_60 fl_X12_8 rfl (sk_124 hs6) (sn hs6 (by decide)) (sr_124_2 hs6) ?_
    refine E_iload_n 0 dX12_findForce_63 rfl rfl ?_
    refine E_iconst (1 : Int32) dX12_findForce_64 (by decide) ?_
    refine E_iadd dX12_findForce_65 ?_
    obtain ⟨g8, h⟩ := h
    refine E_iald2 ((v7 + (1 : Int32)).toNatClampNeg) dX12_findForce_66 (sk_125 hs6) (sn hs6 (by decide)) g8 rfl ?_
    refine E_aload_n 1 dX12_findForce_67 rfl rfl ?_
    refine E_getI dX12_findForce_68 fl_X12_399 rfl (sk_124 hs6) (sn hs6 (by decide)) ?_
    refine E_icmp_gt 88 dX12_findForce_71 (by decide) (fun c => ?_) (fun c => ?_)
    · rw [if_pos c] at h
      exact E_lv [1, 2, 3, 0] rfl (w_X12_findForce_88 hs6 h)
    · rw [if_neg c] at h
      refine E_aload_n 1 dX12_findForce_74 rfl rfl ?_
      refine E_getR 125 dX12_findForce_75 fl_X12_8 rfl (sk_124 hs6) (sn hs6 (by decide)) (sr_124_2 hs6) ?_
      refine E_iload_n 0 dX12_findForce_78 rfl rfl ?_
      obtain ⟨g9, h⟩ := h
      refine E_iald2 (v7.toNatClampNeg) dX12_findForce_79 (sk_125 hs6) (sn hs6 (by decide)) g9 rfl ?_
      refine E_iload_n 2 dX12_findForce_80 rfl rfl ?_
      refine E_icmp_gt 88 dX12_findForce_81 (by decide) (fun c => ?_) (fun c => ?_)
      · rw [if_pos c] at h
        exact E_lv [1, 2, 3, 0] rfl (w_X12_findForce_88 hs6 h)
      · rw [if_neg c] at h
        refine E_iconst (1 : Int32) dX12_findForce_84 (by decide) ?_
        refine E_goto 89 dX12_findForce_85 (by decide) ?_
        exact E_lv [1, 2, 3, 0] rfl (w_X12_findForce_89 hs6 h)
def W_X12_findForce_189 (X : Sx) (l : Launch) (D : Nat) (x1 : Int32) (x2 : Int32) (x3 : Int32) (x4 : Int32) (σ : AH) (r : Option Value) (σ' : AH) : Prop := E X l m_X12_findForce D 93 [(0, .ref 124), (1, .int x1), (2, .int x2), (3, .int x3), (4, .int (x4 + 1))] [] σ r σ'
set_option maxRecDepth 100000 in
theorem w_X12_findForce_189 {X : Sx} {l : Launch} {D : Nat} {x1 : Int32} {x2 : Int32} {x3 : Int32} {x4 : Int32} {σ : AH} {r : Option Value} {σ' : AH} (hs : Sh σ) (h : W_X12_findForce_189 X l D x1 x2 x3 x4 σ r σ') : E X l m_X12_findForce D 189 [(0, .ref 124), (1, .int x1), (2, .int x2), (3, .int x3), (4, .int x4)] [] σ r σ' := by
  unfold W_X12_findForce_189 at h
  refine E_iinc 4 (x4 + 1) [(4, .int (x4 + 1)), (0, .ref 124), (1, .int x1), (2, .int x2), (3, .int x3)] dX12_findForce_189 rfl (congrArg (x4 + ·) (by decide : Int32.ofInt 1 = 1)) (by decide) rfl ?_
  refine E_goto 93 dX12_findForce_192 (by decide) ?_
  exact E_lv [1, 2, 3, 4, 0] rfl h
def W_X12_findForce_195 (X : Sx) (l : Launch) (D : Nat) (x1 : Int32) (x2 : Int32) (σ : AH) (r : Option Value) (σ' : AH) : Prop := E X l m_X12_findForce D 45 [(0, .ref 124), (1, .int x1), (2, .int (x2 + (-1)))] [] σ r σ'
set_option maxRecDepth 100000 in
theorem w_X12_findForce_195 {X : Sx} {l : Launch} {D : Nat} {x1 : Int32} {x2 : Int32} {σ : AH} {r : Option Value} {σ' : AH} (hs : Sh σ) (h : W_X12_findForce_195 X l D x1 x2 σ r σ') : E X l m_X12_findForce D 195 [(0, .ref 124), (1, .int x1), (2, .int x2)] [] σ r σ' := by
  unfold W_X12_findForce_195 at h
  refine E_iinc 2 (x2 + (-1)) [(2, .int (x2 + (-1))), (0, .ref 124), (1, .int x1)] dX12_findForce_195 rfl (congrArg (x2 + ·) (by decide : Int32.ofInt (-1) = -1)) (by decide) rfl ?_
  refine E_goto 45 dX12_findForce_198 (by decide) ?_
  exact E_lv [1, 2, 0] rfl h
def W_X12_findForce_93 (X : Sx) (l : Launch) (D : Nat) (x1 : Int32) (x2 : Int32) (x3 : Int32) (x4 : Int32) (σ : AH) (r : Option Value) (σ' : AH) : Prop := vp_in (x3 + (2 : Int32)) 269832 ∧ (if (gI σ 125 (x3 + (2 : Int32)).toNatClampNeg) ≤ x4 then W_X12_findForce_195 X l D x1 x2 σ r σ' else vp_in x2 24 ∧ (if (gI σ 134 x2.toNatClampNeg) = 0 then W_X12_findForce_195 X l D x1 x2 σ r σ' else ∃ d13 : Nat, ∃ v18 : Int32, ∃ σ14 : AH, d13 + 1 ≤ D ∧ Call X l m_X12_clauseAt d13 [.int x2, .int x4] σ (some (.int v18)) σ14 ∧ vp_in v18 269832 ∧ (if (gI σ14 125 v18.toNatClampNeg) = 0 then vp_in (((16 : Int32) * x2) + x4) 384 ∧ (if (gI σ14 135 (((16 : Int32) * x2) + x4).toNatClampNeg) = 0 then vp_in (v18 + (1 : Int32)) 269832 ∧ (if x2 ≤ (gI σ14 125 (v18 + (1 : Int32)).toNatClampNeg) then W_X12_findForce_189 X l D x1 x2 x3 x4 σ14 r σ' else vp_in (v18 + (1 : Int32)) 269832 ∧ vp_in (v18 + (2 : Int32)) 269832 ∧ vp_in (((16 : Int32) * (gI σ14 125 (v18 + (1 : Int32)).toNatClampNeg)) + (gI σ14 125 (v18 + (2 : Int32)).toNatClampNeg)) 384 ∧ (∀ τ25 : AH, τ25 = (sI σ14 135 ((((16 : Int32) * (gI σ14 125 (v18 + (1 : Int32)).toNatClampNeg)) + (gI σ14 125 (v18 + (2 : Int32)).toNatClampNeg)).toNatClampNeg) (1 : Int32)) → W_X12_findForce_189 X l D x1 x2 x3 x4 τ25 r σ')) else W_X12_findForce_189 X l D x1 x2 x3 x4 σ14 r σ') else W_X12_findForce_189 X l D x1 x2 x3 x4 σ14 r σ')))
set_option maxRecDepth 100000 in
theorem w_X12_findForce_93 {X : Sx} {l : Launch} {D : Nat} {x1 : Int32} {x2 : Int32} {x3 : Int32} {x4 : Int32} {σ : AH} {r : Option Value} {σ' : AH} (hs : Sh σ) (h : W_X12_findForce_93 X l D x1 x2 x3 x4 σ r σ') : E X l m_X12_findForce D 93 [(0, .ref 124), (1, .int x1), (2, .int x2), (3, .int x3), (4, .int x4)] [] σ r σ' := by
  unfold W_X12_findForce_93 at h
  refine E_iload 4 dX12_findForce_93 rfl ?_
  refine E_aload_n 0 dX12_findForce_95 rfl rfl ?_
  refine E_getR 125 dX12_findForce_96 fl_X12_8 rfl (sk_124 hs) (sn hs (by decide)) (sr_124_2 hs) ?_
  refine E_iload_n 3 dX12_findForce_99 rfl rfl ?_
  refine E_iconst (2 : Int32) dX12_findForce_100 (by decide) ?_
  refine E_iadd dX12_findForce_101 ?_
  obtain ⟨g11, h⟩ := h
  refine E_iald2 ((x3 + (2 : Int32)).toNatClampNeg) dX12_findForce_102 (sk_125 hs) (sn hs (by decide)) g11 rfl ?_
  refine E_icmp_ge 195 dX12_findForce_103 (by decide) (fun c => ?_) (fun c => ?_)
  · rw [if_pos c] at h
    exact E_lv [0, 1, 2] rfl (w_X12_findForce_195 hs h)
  · rw [if_neg c] at h
    refine E_aload_n 0 dX12_findForce_106 rfl rfl ?_
    refine E_getR 134 dX12_findForce_107 fl_X12_47 rfl (sk_124 hs) (sn hs (by decide)) (sr_124_25 hs) ?_
    refine E_iload_n 2 dX12_findForce_110 rfl rfl ?_
    obtain ⟨g12, h⟩ := h
    refine E_zald2 (x2.toNatClampNeg) dX12_findForce_111 (sk_134 hs) (sn hs (by decide)) g12 rfl ?_
    refine E_if_eq 195 dX12_findForce_112 (by decide) (fun c => ?_) (fun c => ?_)
    · rw [if_pos c] at h
      exact E_lv [0, 1, 2] rfl (w_X12_findForce_195 hs h)
    · rw [if_neg c] at h
      refine E_iload_n 2 dX12_findForce_115 rfl rfl ?_
      refine E_iload 4 dX12_findForce_116 rfl ?_
      obtain ⟨d13, v18, σ14, hD15, hC16, h⟩ := h
      have hs17 := hC16.1.2.2.2.1 hs
      refine E_callS (As := [.int x2, .int x4]) (rest := []) (r1 := (some (.int v18))) dX12_findForce_118 ok_X12_clauseAt is_X12_clauseAt ml_X12_402 hD15 rfl rfl (Nat.le_of_ble_eq_true rfl) (by decide +kernel) hC16 ?_
      refine E_istore [(5, .int v18), (0, .ref 124), (1, .int x1), (2, .int x2), (3, .int x3), (4, .int x4)] dX12_findForce_121 (by decide) rfl ?_
      refine E_aload_n 1 dX12_findForce_123 rfl rfl ?_
      refine E_getR 125 dX12_findForce_124 fl_X12_8 rfl (sk_124 hs17) (sn hs17 (by decide)) (sr_124_2 hs17) ?_
      refine E_iload 0 dX12_findForce_127 rfl ?_
      obtain ⟨g19, h⟩ := h
      refine E_iald2 (v18.toNatClampNeg) dX12_findForce_129 (sk_125 hs17) (sn hs17 (by decide)) g19 rfl ?_
      refine E_if_ne 189 dX12_findForce_130 (by decide) (fun c => ?_) (fun c => ?_)
      · rw [if_neg c] at h
        exact E_lv [1, 2, 3, 4, 5] rfl (w_X12_findForce_189 hs17 h)
      · rw [if_pos c] at h
        refine E_aload_n 1 dX12_findForce_133 rfl rfl ?_
        refine E_getR 135 dX12_findForce_134 fl_X12_50 rfl (sk_124 hs17) (sn hs17 (by decide)) (sr_124_26 hs17) ?_
        refine E_bipush (16 : Int32) dX12_findForce_137 (by decide) ?_
        refine E_iload_n 3 dX12_findForce_139 rfl rfl ?_
        refine E_imul dX12_findForce_140 ?_
        refine E_iload 5 dX12_findForce_141 rfl ?_
        refine E_iadd dX12_findForce_143 ?_
        obtain ⟨g20, h⟩ := h
        refine E_zald2 ((((16 : Int32) * x2) + x4).toNatClampNeg) dX12_findForce_144 (sk_135 hs17) (sn hs17 (by decide)) g20 rfl ?_
        refine E_if_ne 189 dX12_findForce_145 (by decide) (fun c => ?_) (fun c => ?_)
        · rw [if_neg c] at h
          exact E_lv [1, 2, 3, 4, 5] rfl (w_X12_findForce_189 hs17 h)
        · rw [if_pos c] at h
          refine E_aload_n 1 dX12_findForce_148 rfl rfl ?_
          refine E_getR 125 dX12_findForce_149 fl_X12_8 rfl (sk_124 hs17) (sn hs17 (by decide)) (sr_124_2 hs17) ?_
          refine E_iload 0 dX12_findForce_152 rfl ?_
          refine E_iconst (1 : Int32) dX12_findForce_154 (by decide) ?_
          refine E_iadd dX12_findForce_155 ?_
          obtain ⟨g21, h⟩ := h
          refine E_iald2 ((v18 + (1 : Int32)).toNatClampNeg) dX12_findForce_156 (sk_125 hs17) (sn hs17 (by decide)) g21 rfl ?_
          refine E_iload_n 3 dX12_findForce_157 rfl rfl ?_
          refine E_icmp_ge 189 dX12_findForce_158 (by decide) (fun c => ?_) (fun c => ?_)
          · rw [if_pos c] at h
            exact E_lv [1, 2, 3, 4, 5] rfl (w_X12_findForce_189 hs17 h)
          · rw [if_neg c] at h
            refine E_aload_n 1 dX12_findForce_161 rfl rfl ?_
            refine E_getR 135 dX12_findForce_162 fl_X12_50 rfl (sk_124 hs17) (sn hs17 (by decide)) (sr_124_26 hs17) ?_
            refine E_bipush (16 : Int32) dX12_findForce_165 (by decide) ?_
            refine E_aload_n 1 dX12_findForce_167 rfl rfl ?_
            refine E_getR 125 dX12_findForce_168 fl_X12_8 rfl (sk_124 hs17) (sn hs17 (by decide)) (sr_124_2 hs17) ?_
            refine E_iload 0 dX12_findForce_171 rfl ?_
            refine E_iconst (1 : Int32) dX12_findForce_173 (by decide) ?_
            refine E_iadd dX12_findForce_174 ?_
            obtain ⟨g22, h⟩ := h
            refine E_iald2 ((v18 + (1 : Int32)).toNatClampNeg) dX12_findForce_175 (sk_125 hs17) (sn hs17 (by decide)) g22 rfl ?_
            refine E_imul dX12_findForce_176 ?_
            refine E_aload_n 1 dX12_findForce_177 rfl rfl ?_
            refine E_getR 125 dX12_findForce_178 fl_X12_8 rfl (sk_124 hs17) (sn hs17 (by decide)) (sr_124_2 hs17) ?_
            refine E_iload 0 dX12_findForce_181 rfl ?_
            refine E_iconst (2 : Int32) dX12_findForce_183 (by decide) ?_
            refine E_iadd dX12_findForce_184 ?_
            obtain ⟨g23, h⟩ := h
            refine E_iald2 ((v18 + (2 : Int32)).toNatClampNeg) dX12_findForce_185 (sk_125 hs17) (sn hs17 (by decide)) g23 rfl ?_
            refine E_iadd dX12_findForce_186 ?_
            refine E_iconst (1 : Int32) dX12_findForce_187 (by decide) ?_
            obtain ⟨g24, h⟩ := h
            refine E_zast2 ((((16 : Int32) * (gI σ14 125 (v18 + (1 : Int32)).toNatClampNeg)) + (gI σ14 125 (v18 + (2 : Int32)).toNatClampNeg)).toNatClampNeg) (1 : Int32) (by decide) dX12_findForce_188 (sk_135 hs17) (sn hs17 (by decide)) (Or.inl (by decide)) g24 rfl ?_
            obtain ⟨τ25, e26⟩ : ∃ τ : AH, τ = (sI σ14 135 ((((16 : Int32) * (gI σ14 125 (v18 + (1 : Int32)).toNatClampNeg)) + (gI σ14 125 (v18 + (2 : Int32)).toNatClampNeg)).toNatClampNeg) (1 : Int32)) := ⟨_, rfl⟩
            replace h := h τ25 e26
            rw [← e26]
            have hs27 : Sh τ25 := by rw [e26]; exact hs17
            exact E_lv [1, 2, 3, 4, 5] rfl (w_X12_findForce_189 hs27 h)
def W_X12_knowBy_0 (X : Sx) (l : Launch) (D : Nat) (x1 : Int32) (σ : AH) (r : Option Value) (σ' : AH) : Prop := E X l m_X12_knowBy D 12 [(0, .ref 124), (2, .int (0 : Int32))] [] (sI (sI σ 124 23 x1) 124 24 (-1 : Int32)) r σ'
set_option maxRecDepth 100000 in
theorem w_X12_knowBy_0 {X : Sx} {l : Launch} {D : Nat} {x1 : Int32} {σ : AH} {r : Option Value} {σ' : AH} (hs : Sh σ) (h : W_X12_knowBy_0 X l D x1 σ r σ') : E X l m_X12_knowBy D 0 [(0, .ref 124), (1, .int x1)] [] σ r σ' := by
  unfold W_X12_knowBy_0 at h
  refine E_aload_n 0 dX12_knowBy_0 rfl rfl ?_
  refine E_iload_n 1 dX12_knowBy_1 rfl rfl ?_
  refine E_putI dX12_knowBy_2 fl_X12_399 rfl (Or.inl rfl) (sk_124 hs) (sn hs (by decide)) (Or.inl (by decide)) rfl rfl ?_
  refine E_aload_n 0 dX12_knowBy_5 rfl rfl ?_
  refine E_iconst (-1 : Int32) dX12_knowBy_6 (by decide) ?_
  refine E_putI dX12_knowBy_7 fl_X12_44 rfl (Or.inl rfl) (sk_124 hs) (sn hs (by decide)) (Or.inl (by decide)) rfl rfl ?_
  refine E_iconst (0 : Int32) dX12_knowBy_10 (by decide) ?_
  refine E_istore_n [(2, .int (0 : Int32)), (0, .ref 124), (1, .int x1)] dX12_knowBy_11 rfl (by decide) rfl ?_
  exact E_lv [1, 0] rfl h
def W_X12_knowBy_12 (X : Sx) (l : Launch) (D : Nat) (x2 : Int32) (σ : AH) (r : Option Value) (σ' : AH) : Prop := (if (84240 : Int32) ≤ x2 then E X l m_X12_knowBy D 34 [(0, .ref 124), (2, .int (0 : Int32))] [] σ r σ' else vp_in x2 84240 ∧ E X l m_X12_knowBy D 12 [(0, .ref 124), (2, .int (x2 + 1))] [] (sI σ 138 x2.toNatClampNeg (-2 : Int32)) r σ')
set_option maxRecDepth 100000 in
theorem w_X12_knowBy_12 {X : Sx} {l : Launch} {D : Nat} {x2 : Int32} {σ : AH} {r : Option Value} {σ' : AH} (hs : Sh σ) (h : W_X12_knowBy_12 X l D x2 σ r σ') : E X l m_X12_knowBy D 12 [(0, .ref 124), (2, .int x2)] [] σ r σ' := by
  unfold W_X12_knowBy_12 at h
  refine E_iload_n 1 dX12_knowBy_12 rfl rfl ?_
  refine E_ldc (84240 : Int32) dX12_knowBy_13 ct_X12_60 ?_
  refine E_icmp_ge 32 dX12_knowBy_15 (by decide) (fun c => ?_) (fun c => ?_)
  · rw [if_pos c] at h
    refine E_iconst (0 : Int32) dX12_knowBy_32 (by decide) ?_
    refine E_istore_n [(2, .int (0 : Int32)), (0, .ref 124)] dX12_knowBy_33 rfl (by decide) rfl ?_
    exact E_lv [1, 0] rfl h
  · rw [if_neg c] at h
    refine E_aload_n 0 dX12_knowBy_18 rfl rfl ?_
    refine E_getR 138 dX12_knowBy_19 fl_X12_61 rfl (sk_124 hs) (sn hs (by decide)) (sr_124_33 hs) ?_
    refine E_iload_n 1 dX12_knowBy_22 rfl rfl ?_
    refine E_bipush (-2 : Int32) dX12_knowBy_23 (by decide) ?_
    obtain ⟨g1, h⟩ := h
    refine E_iast2 (x2.toNatClampNeg) dX12_knowBy_25 (sk_138 hs) (sn hs (by decide)) (Or.inl (by decide)) g1 rfl ?_
    refine E_iinc 1 (x2 + 1) [(2, .int (x2 + 1)), (0, .ref 124)] dX12_knowBy_26 rfl (congrArg (x2 + ·) (by decide : Int32.ofInt 1 = 1)) (by decide) rfl ?_
    refine E_goto 12 dX12_knowBy_29 (by decide) ?_
    exact E_lv [1, 0] rfl h
def W_X12_knowBy_34 (X : Sx) (l : Launch) (D : Nat) (x2 : Int32) (σ : AH) (r : Option Value) (σ' : AH) : Prop := (if (260 : Int32) ≤ x2 then (r = none ∧ σ' = σ) else vp_in x2 260 ∧ E X l m_X12_knowBy D 34 [(0, .ref 124), (2, .int (x2 + 1))] [] (sI σ 139 x2.toNatClampNeg (-2 : Int32)) r σ')
set_option maxRecDepth 100000 in
theorem w_X12_knowBy_34 {X : Sx} {l : Launch} {D : Nat} {x2 : Int32} {σ : AH} {r : Option Value} {σ' : AH} (hs : Sh σ) (h : W_X12_knowBy_34 X l D x2 σ r σ') : E X l m_X12_knowBy D 34 [(0, .ref 124), (2, .int x2)] [] σ r σ' := by
  unfold W_X12_knowBy_34 at h
  refine E_iload_n 1 dX12_knowBy_34 rfl rfl ?_
  refine E_sipush (260 : Int32) dX12_knowBy_35 (by decide) ?_
  refine E_icmp_ge 55 dX12_knowBy_38 (by decide) (fun c => ?_) (fun c => ?_)
  · rw [if_pos c] at h
    obtain ⟨rfl, rfl⟩ := h
    exact E_vret dX12_knowBy_55 rfl
  · rw [if_neg c] at h
    refine E_aload_n 0 dX12_knowBy_41 rfl rfl ?_
    refine E_getR 139 dX12_knowBy_42 fl_X12_64 rfl (sk_124 hs) (sn hs (by decide)) (sr_124_34 hs) ?_
    refine E_iload_n 1 dX12_knowBy_45 rfl rfl ?_
    refine E_bipush (-2 : Int32) dX12_knowBy_46 (by decide) ?_
    obtain ⟨g2, h⟩ := h
    refine E_iast2 (x2.toNatClampNeg) dX12_knowBy_48 (sk_139 hs) (sn hs (by decide)) (Or.inl (by decide)) g2 rfl ?_
    refine E_iinc 1 (x2 + 1) [(2, .int (x2 + 1)), (0, .ref 124)] dX12_knowBy_49 rfl (congrArg (x2 + ·) (by decide : Int32.ofInt 1 = 1)) (by decide) rfl ?_
    refine E_goto 34 dX12_knowBy_52 (by decide) ?_
    exact E_lv [1, 0] rfl h
def W_X12_force_0 (X : Sx) (l : Launch) (D : Nat) (x1 : Int32) (x2 : Int32) (x3 : Int32) (x4 : Int32) (σ : AH) (r : Option Value) (σ' : AH) : Prop := ∃ d1 : Nat, ∃ v6 : Int32, ∃ σ2 : AH, d1 + 1 ≤ D ∧ Call X l m_X12_in d1 [.long (x1).toInt64, .long (0 : Int64), .long (((gI (sI σ 124 0 (0 : Int32)) 125 0)).toInt64 - (1 : Int64))] (sI σ 124 0 (0 : Int32)) (some (.int v6)) σ2 ∧ (if v6 = 0 then (r = some (.int (-1 : Int32)) ∧ σ' = σ2) else ∃ d7 : Nat, ∃ v12 : Int32, ∃ σ8 : AH, d7 + 1 ≤ D ∧ Call X l m_X12_actAt d7 [.int x1] σ2 (some (.int v12)) σ8 ∧ vp_in (v12 + (2 : Int32)) 269832 ∧ ∃ d14 : Nat, ∃ v19 : Int32, ∃ σ15 : AH, d14 + 1 ≤ D ∧ Call X l m_X12_in d14 [.long (x2).toInt64, .long (0 : Int64), .long (((gI σ8 125 (v12 + (2 : Int32)).toNatClampNeg)).toInt64 - (1 : Int64))] σ8 (some (.int v19)) σ15 ∧ (if v19 = 0 then (r = some (.int (-1 : Int32)) ∧ σ' = σ15) else ∃ d20 : Nat, ∃ v25 : Int32, ∃ σ21 : AH, d20 + 1 ≤ D ∧ Call X l m_X12_isWeek d20 [.int x3] σ15 (some (.int v25)) σ21 ∧ (if v25 = 0 then (r = some (.int (-1 : Int32)) ∧ σ' = σ21) else ∃ d26 : Nat, ∃ v31 : Int32, ∃ σ27 : AH, d26 + 1 ≤ D ∧ Call X l m_X12_isWeek d26 [.int x4] σ21 (some (.int v31)) σ27 ∧ (if v31 = 0 then (r = some (.int (-1 : Int32)) ∧ σ' = σ27) else ∃ d32 : Nat, ∃ σ33 : AH, d32 + 1 ≤ D ∧ Call X l m_X12_knowBy d32 [.ref 124, .int x4] σ27 none σ33 ∧ ∃ d37 : Nat, ∃ σ38 : AH, d37 + 1 ≤ D ∧ Call X l m_X12_findForce d37 [.ref 124, .int x3] σ33 none σ38 ∧ vp_in x1 24 ∧ (if (gI σ38 134 x1.toNatClampNeg) = 0 then (r = some (.int (0 : Int32)) ∧ σ' = σ38) else vp_in (((16 : Int32) * x1) + x2) 384 ∧ (if (gI σ38 135 (((16 : Int32) * x1) + x2).toNatClampNeg) = 0 then (r = some (.int (1 : Int32)) ∧ σ' = σ38) else (r = some (.int (0 : Int32)) ∧ σ' = σ38)))))))
set_option maxRecDepth 100000 in
theorem w_X12_force_0 {X : Sx} {l : Launch} {D : Nat} {x1 : Int32} {x2 : Int32} {x3 : Int32} {x4 : Int32} {σ : AH} {r : Option Value} {σ' : AH} (hs : Sh σ) (h : W_X12_force_0 X l D x1 x2 x3 x4 σ r σ') : E X l m_X12_force D 0 [(0, .ref 124), (1, .int x1), (2, .int x2), (3, .int x3), (4, .int x4)] [] σ r σ' := by
  unfold W_X12_force_0 at h
  refine E_aload_n 0 dX12_force_0 rfl rfl ?_
  refine E_iconst (0 : Int32) dX12_force_1 (by decide) ?_
  refine E_putI dX12_force_2 fl_X12_145 rfl (Or.inl rfl) (sk_124 hs) (sn hs (by decide)) (Or.inl (by decide)) rfl rfl ?_
  refine E_iload_n 1 dX12_force_5 rfl rfl ?_
  refine E_i2l dX12_force_6 ?_
  refine E_lconst (0 : Int64) dX12_force_7 (by decide) ?_
  refine E_aload_n 0 dX12_force_8 rfl rfl ?_
  refine E_getR 125 dX12_force_9 fl_X12_8 rfl (sk_124 hs) (sn hs (by decide)) (sr_124_2 hs) ?_
  refine E_iconst (0 : Int32) dX12_force_12 (by decide) ?_
  refine E_iald2 0 dX12_force_13 (sk_125 hs) (sn hs (by decide)) (vp_lit (by decide)) (by decide) ?_
  refine E_i2l dX12_force_14 ?_
  refine E_lconst (1 : Int64) dX12_force_15 (by decide) ?_
  refine E_lsub dX12_force_16 ?_
  obtain ⟨d1, v6, σ2, hD3, hC4, h⟩ := h
  have hs5 := hC4.1.2.2.2.1 hs
  refine E_callS (As := [.long (x1).toInt64, .long (0 : Int64), .long (((gI (sI σ 124 0 (0 : Int32)) 125 0)).toInt64 - (1 : Int64))]) (rest := []) (r1 := (some (.int v6))) dX12_force_17 ok_X12_in is_X12_in ml_X12_153 hD3 rfl rfl (Nat.le_of_ble_eq_true rfl) (by decide +kernel) hC4 ?_
  refine E_if_eq 61 dX12_force_20 (by decide) (fun c => ?_) (fun c => ?_)
  · rw [if_pos c] at h
    refine E_iconst (-1 : Int32) dX12_force_61 (by decide) ?_
    obtain ⟨rfl, rfl⟩ := h
    exact E_iret dX12_force_62 rfl
  · rw [if_neg c] at h
    refine E_iload_n 2 dX12_force_23 rfl rfl ?_
    refine E_i2l dX12_force_24 ?_
    refine E_lconst (0 : Int64) dX12_force_25 (by decide) ?_
    refine E_aload_n 0 dX12_force_26 rfl rfl ?_
    refine E_getR 125 dX12_force_27 fl_X12_8 rfl (sk_124 hs5) (sn hs5 (by decide)) (sr_124_2 hs5) ?_
    refine E_iload_n 1 dX12_force_30 rfl rfl ?_
    obtain ⟨d7, v12, σ8, hD9, hC10, h⟩ := h
    have hs11 := hC10.1.2.2.2.1 hs5
    refine E_callS (As := [.int x1]) (rest := [.ref 125, .long (0 : Int64), .long (x2).toInt64]) (r1 := (some (.int v12))) dX12_force_31 ok_X12_actAt is_X12_actAt ml_X12_396 hD9 rfl rfl (Nat.le_of_ble_eq_true rfl) (by decide +kernel) hC10 ?_
    refine E_iconst (2 : Int32) dX12_force_34 (by decide) ?_
    refine E_iadd dX12_force_35 ?_
    obtain ⟨g13, h⟩ := h
    refine E_iald2 ((v12 + (2 : Int32)).toNatClampNeg) dX12_force_36 (sk_125 hs11) (sn hs11 (by decide)) g13 rfl ?_
    refine E_i2l dX12_force_37 ?_
    refine E_lconst (1 : Int64) dX12_force_38 (by decide) ?_
    refine E_lsub dX12_force_39 ?_
    obtain ⟨d14, v19, σ15, hD16, hC17, h⟩ := h
    have hs18 := hC17.1.2.2.2.1 hs11
    refine E_callS (As := [.long (x2).toInt64, .long (0 : Int64), .long (((gI σ8 125 (v12 + (2 : Int32)).toNatClampNeg)).toInt64 - (1 : Int64))]) (rest := []) (r1 := (some (.int v19))) dX12_force_40 ok_X12_in is_X12_in ml_X12_153 hD16 rfl rfl (Nat.le_of_ble_eq_true rfl) (by decide +kernel) hC17 ?_
    refine E_if_eq 61 dX12_force_43 (by decide) (fun c => ?_) (fun c => ?_)
    · rw [if_pos c] at h
      refine E_iconst (-1 : Int32) dX12_force_61 (by decide) ?_
      obtain ⟨rfl, rfl⟩ := h
      exact E_iret dX12_force_62 rfl
    · rw [if_neg c] at h
      refine E_iload_n 3 dX12_force_46 rfl rfl ?_
      obtain ⟨d20, v25, σ21, hD22, hC23, h⟩ := h
      have hs24 := hC23.1.2.2.2.1 hs18
      refine E_callS (As := [.int x3]) (rest := []) (r1 := (some (.int v25))) dX12_force_47 ok_X12_isWeek is_X12_isWeek ml_X12_387 hD22 rfl rfl (Nat.le_of_ble_eq_true rfl) (by decide +kernel) hC23 ?_
      refine E_if_eq 61 dX12_force_50 (by decide) (fun c => ?_) (fun c => ?_)
      · rw [if_pos c] at h
        refine E_iconst (-1 : Int32) dX12_force_61 (by decide) ?_
        obtain ⟨rfl, rfl⟩ := h
        exact E_iret dX12_force_62 rfl
      · rw [if_neg c] at h
        refine E_iload 4 dX12_force_53 rfl ?_
        obtain ⟨d26, v31, σ27, hD28, hC29, h⟩ := h
        have hs30 := hC29.1.2.2.2.1 hs24
        refine E_callS (As := [.int x4]) (rest := []) (r1 := (some (.int v31))) dX12_force_55 ok_X12_isWeek is_X12_isWeek ml_X12_387 hD28 rfl rfl (Nat.le_of_ble_eq_true rfl) (by decide +kernel) hC29 ?_
        refine E_if_ne 63 dX12_force_58 (by decide) (fun c => ?_) (fun c => ?_)
        · rw [if_neg c] at h
          refine E_aload_n 0 dX12_force_63 rfl rfl ?_
          refine E_iload 4 dX12_force_64 rfl ?_
          obtain ⟨d32, σ33, hD34, hC35, h⟩ := h
          have hs36 := hC35.1.2.2.2.1 hs30
          refine E_callV (As := [.int x4]) (rest := []) (r1 := none) (b := 124) dX12_force_66 ok_X12_knowBy in_X12_knowBy se_X12_knowBy ml_X12_406 hD34 rfl rfl (Nat.le_of_ble_eq_true rfl) (sk_124 hs30) (sn hs30 (by decide)) (by decide) rfl (by decide +kernel) hC35 ?_
          refine E_aload_n 0 dX12_force_69 rfl rfl ?_
          refine E_iload_n 3 dX12_force_70 rfl rfl ?_
          obtain ⟨d37, σ38, hD39, hC40, h⟩ := h
          have hs41 := hC40.1.2.2.2.1 hs36
          refine E_callV (As := [.int x3]) (rest := []) (r1 := none) (b := 124) dX12_force_71 ok_X12_findForce in_X12_findForce se_X12_findForce ml_X12_409 hD39 rfl rfl (Nat.le_of_ble_eq_true rfl) (sk_124 hs36) (sn hs36 (by decide)) (by decide) rfl (by decide +kernel) hC40 ?_
          refine E_aload_n 0 dX12_force_74 rfl rfl ?_
          refine E_getR 134 dX12_force_75 fl_X12_47 rfl (sk_124 hs41) (sn hs41 (by decide)) (sr_124_25 hs41) ?_
          refine E_iload_n 1 dX12_force_78 rfl rfl ?_
          obtain ⟨g42, h⟩ := h
          refine E_zald2 (x1.toNatClampNeg) dX12_force_79 (sk_134 hs41) (sn hs41 (by decide)) g42 rfl ?_
          refine E_if_eq 101 dX12_force_80 (by decide) (fun c => ?_) (fun c => ?_)
          · rw [if_pos c] at h
            refine E_iconst (0 : Int32) dX12_force_101 (by decide) ?_
            obtain ⟨rfl, rfl⟩ := h
            exact E_iret dX12_force_102 rfl
          · rw [if_neg c] at h
            refine E_aload_n 0 dX12_force_83 rfl rfl ?_
            refine E_getR 135 dX12_force_84 fl_X12_50 rfl (sk_124 hs41) (sn hs41 (by decide)) (sr_124_26 hs41) ?_
            refine E_bipush (16 : Int32) dX12_force_87 (by decide) ?_
            refine E_iload_n 1 dX12_force_89 rfl rfl ?_
            refine E_imul dX12_force_90 ?_
            refine E_iload_n 2 dX12_force_91 rfl rfl ?_
            refine E_iadd dX12_force_92 ?_
            obtain ⟨g43, h⟩ := h
            refine E_zald2 ((((16 : Int32) * x1) + x2).toNatClampNeg) dX12_force_93 (sk_135 hs41) (sn hs41 (by decide)) g43 rfl ?_
            refine E_if_ne 101 dX12_force_94 (by decide) (fun c => ?_) (fun c => ?_)
            · rw [if_neg c] at h
              refine E_iconst (0 : Int32) dX12_force_101 (by decide) ?_
              obtain ⟨rfl, rfl⟩ := h
              exact E_iret dX12_force_102 rfl
            · rw [if_pos c] at h
              refine E_iconst (1 : Int32) dX12_force_97 (by decide) ?_
              refine E_goto 102 dX12_force_98 (by decide) ?_
              obtain ⟨rfl, rfl⟩ := h
              exact E_iret dX12_force_102 rfl
        · rw [if_pos c] at h
          refine E_iconst (-1 : Int32) dX12_force_61 (by decide) ?_
          obtain ⟨rfl, rfl⟩ := h
          exact E_iret dX12_force_62 rfl
def W_X12_setOnly_0 (X : Sx) (l : Launch) (D : Nat) (x1 : Int32) (x2 : Int32) (σ : AH) (r : Option Value) (σ' : AH) : Prop := E X l m_X12_setOnly D 2 [(0, .ref 124), (1, .int x1), (2, .int x2), (3, .int (0 : Int32))] [] σ r σ'
set_option maxRecDepth 100000 in
theorem w_X12_setOnly_0 {X : Sx} {l : Launch} {D : Nat} {x1 : Int32} {x2 : Int32} {σ : AH} {r : Option Value} {σ' : AH} (hs : Sh σ) (h : W_X12_setOnly_0 X l D x1 x2 σ r σ') : E X l m_X12_setOnly D 0 [(0, .ref 124), (1, .int x1), (2, .int x2)] [] σ r σ' := by
  unfold W_X12_setOnly_0 at h
  refine E_iconst (0 : Int32) dX12_setOnly_0 (by decide) ?_
  refine E_istore_n [(3, .int (0 : Int32)), (0, .ref 124), (1, .int x1), (2, .int x2)] dX12_setOnly_1 rfl (by decide) rfl ?_
  exact E_lv [1, 2, 3, 0] rfl h
def W_X12_setOnly_2 (X : Sx) (l : Launch) (D : Nat) (x1 : Int32) (x2 : Int32) (x3 : Int32) (σ : AH) (r : Option Value) (σ' : AH) : Prop := (if (8 : Int32) ≤ x3 then (r = none ∧ σ' = (sI (sI σ 136 1 x1) 136 7 x2)) else vp_in x3 8 ∧ E X l m_X12_setOnly D 2 [(0, .ref 124), (1, .int x1), (2, .int x2), (3, .int (x3 + 1))] [] (sI σ 136 x3.toNatClampNeg (0 : Int32)) r σ')
set_option maxRecDepth 100000 in
theorem w_X12_setOnly_2 {X : Sx} {l : Launch} {D : Nat} {x1 : Int32} {x2 : Int32} {x3 : Int32} {σ : AH} {r : Option Value} {σ' : AH} (hs : Sh σ) (h : W_X12_setOnly_2 X l D x1 x2 x3 σ r σ') : E X l m_X12_setOnly D 2 [(0, .ref 124), (1, .int x1), (2, .int x2), (3, .int x3)] [] σ r σ' := by
  unfold W_X12_setOnly_2 at h
  refine E_iload_n 3 dX12_setOnly_2 rfl rfl ?_
  refine E_bipush (8 : Int32) dX12_setOnly_3 (by decide) ?_
  refine E_icmp_ge 21 dX12_setOnly_5 (by decide) (fun c => ?_) (fun c => ?_)
  · rw [if_pos c] at h
    refine E_aload_n 0 dX12_setOnly_21 rfl rfl ?_
    refine E_getR 136 dX12_setOnly_22 fl_X12_53 rfl (sk_124 hs) (sn hs (by decide)) (sr_124_27 hs) ?_
    refine E_iconst (1 : Int32) dX12_setOnly_25 (by decide) ?_
    refine E_iload_n 1 dX12_setOnly_26 rfl rfl ?_
    refine E_iast2 1 dX12_setOnly_27 (sk_136 hs) (sn hs (by decide)) (Or.inl (by decide)) (vp_lit (by decide)) (by decide) ?_
    refine E_aload_n 0 dX12_setOnly_28 rfl rfl ?_
    refine E_getR 136 dX12_setOnly_29 fl_X12_53 rfl (sk_124 hs) (sn hs (by decide)) (sr_124_27 hs) ?_
    refine E_bipush (7 : Int32) dX12_setOnly_32 (by decide) ?_
    refine E_iload_n 2 dX12_setOnly_34 rfl rfl ?_
    refine E_iast2 7 dX12_setOnly_35 (sk_136 hs) (sn hs (by decide)) (Or.inl (by decide)) (vp_lit (by decide)) (by decide) ?_
    obtain ⟨rfl, rfl⟩ := h
    exact E_vret dX12_setOnly_36 rfl
  · rw [if_neg c] at h
    refine E_aload_n 0 dX12_setOnly_8 rfl rfl ?_
    refine E_getR 136 dX12_setOnly_9 fl_X12_53 rfl (sk_124 hs) (sn hs (by decide)) (sr_124_27 hs) ?_
    refine E_iload_n 3 dX12_setOnly_12 rfl rfl ?_
    refine E_iconst (0 : Int32) dX12_setOnly_13 (by decide) ?_
    obtain ⟨g1, h⟩ := h
    refine E_iast2 (x3.toNatClampNeg) dX12_setOnly_14 (sk_136 hs) (sn hs (by decide)) (Or.inl (by decide)) g1 rfl ?_
    refine E_iinc 3 (x3 + 1) [(3, .int (x3 + 1)), (0, .ref 124), (1, .int x1), (2, .int x2)] dX12_setOnly_15 rfl (congrArg (x3 + ·) (by decide : Int32.ofInt 1 = 1)) (by decide) rfl ?_
    refine E_goto 2 dX12_setOnly_18 (by decide) ?_
    exact E_lv [1, 2, 3, 0] rfl h
def W_X12_reckon_76 (X : Sx) (l : Launch) (D : Nat) (x2 : Int64) (x4 : Int64) (y0 : Int32) (σ : AH) (r : Option Value) (σ' : AH) : Prop := (y0 = 0 ∨ y0 = 1) ∧ (if (gI (sI σ 124 29 y0) 124 29) = 0 then ¬ x4 = 0 ∧ (r = some (.long (x2 / x4)) ∧ σ' = (sI σ 124 29 y0)) else (r = some (.long (0 : Int64)) ∧ σ' = (sI σ 124 29 y0)))
set_option maxRecDepth 100000 in
theorem w_X12_reckon_76 {X : Sx} {l : Launch} {D : Nat} {x2 : Int64} {x4 : Int64} {y0 : Int32} {σ : AH} {r : Option Value} {σ' : AH} (hs : Sh σ) (h : W_X12_reckon_76 X l D x2 x4 y0 σ r σ') : E X l m_X12_reckon D 76 [(0, .ref 124), (2, .long x2), (4, .long x4)] [.int y0, .ref 124] σ r σ' := by
  unfold W_X12_reckon_76 at h
  obtain ⟨g1, h⟩ := h
  refine E_putI dX12_reckon_76 fl_X12_412 rfl (Or.inl rfl) (sk_124 hs) (sn hs (by decide)) (Or.inl (by decide)) (nar_b g1) (fit_b g1) ?_
  refine E_aload_n 0 dX12_reckon_79 rfl rfl ?_
  refine E_getI dX12_reckon_80 fl_X12_412 rfl (sk_124 hs) (sn hs (by decide)) ?_
  refine E_if_eq 90 dX12_reckon_83 (by decide) (fun c => ?_) (fun c => ?_)
  · rw [if_pos c] at h
    refine E_lload_n 1 dX12_reckon_90 rfl rfl ?_
    refine E_lload 2 dX12_reckon_91 rfl ?_
    obtain ⟨g2, h⟩ := h
    refine E_ldiv dX12_reckon_93 g2 ?_
    obtain ⟨rfl, rfl⟩ := h
    exact E_lret dX12_reckon_94 rfl
  · rw [if_neg c] at h
    refine E_lconst (0 : Int64) dX12_reckon_86 (by decide) ?_
    refine E_goto 94 dX12_reckon_87 (by decide) ?_
    obtain ⟨rfl, rfl⟩ := h
    exact E_lret dX12_reckon_94 rfl
def W_X12_reckon_0 (X : Sx) (l : Launch) (D : Nat) (x1 : Int32) (x2 : Int64) (x4 : Int64) (σ : AH) (r : Option Value) (σ' : AH) : Prop := (if x1 = 8 then (r = some (.long (x2 + x4)) ∧ σ' = σ) else (if x1 = 9 then (r = some (.long (x2 - x4)) ∧ σ' = σ) else (if x1 = 10 then (r = some (.long (x2 * x4)) ∧ σ' = σ) else (if x1 = 11 then (if x4 = (0 : Int64) then W_X12_reckon_76 X l D x2 x4 (1 : Int32) σ r σ' else W_X12_reckon_76 X l D x2 x4 (0 : Int32) σ r σ') else (if x1 = 12 then (if x4 ≤ x2 then (r = some (.long (0 : Int64)) ∧ σ' = σ) else (r = some (.long (1 : Int64)) ∧ σ' = σ)) else (if x1 = 13 then (if x2 ≤ x4 then (r = some (.long (0 : Int64)) ∧ σ' = σ) else (r = some (.long (1 : Int64)) ∧ σ' = σ)) else (if x1 = 14 then (if x2 = x4 then (r = some (.long (1 : Int64)) ∧ σ' = σ) else (r = some (.long (0 : Int64)) ∧ σ' = σ)) else (if x1 = 15 then (if x4 ≤ x2 then (r = some (.long x4) ∧ σ' = σ) else (r = some (.long x2) ∧ σ' = σ)) else (if x2 ≤ x4 then (r = some (.long x4) ∧ σ' = σ) else (r = some (.long x2) ∧ σ' = σ))))))))))
set_option maxRecDepth 100000 in
theorem w_X12_reckon_0 {X : Sx} {l : Launch} {D : Nat} {x1 : Int32} {x2 : Int64} {x4 : Int64} {σ : AH} {r : Option Value} {σ' : AH} (hs : Sh σ) (h : W_X12_reckon_0 X l D x1 x2 x4 σ r σ') : E X l m_X12_reckon D 0 [(0, .ref 124), (1, .int x1), (2, .long x2), (4, .long x4)] [] σ r σ' := by
  unfold W_X12_reckon_0 at h
  refine E_iload_n 1 dX12_reckon_0 rfl rfl ?_
  by_cases c8 : x1 = 8
  · rw [if_pos c8] at h
    refine E_tabIn (off := 47) 48 dX12_reckon_1 (by rw [c8]; decide) (by rw [c8]; decide) (by rw [c8]; rfl) (by decide) ?_
    refine E_lload_n 2 dX12_reckon_48 rfl rfl ?_
    refine E_lload 3 dX12_reckon_49 rfl ?_
    refine E_ladd dX12_reckon_51 ?_
    obtain ⟨rfl, rfl⟩ := h
    exact E_lret dX12_reckon_52 rfl
  rw [if_neg c8] at h
  by_cases c9 : x1 = 9
  · rw [if_pos c9] at h
    refine E_tabIn (off := 52) 53 dX12_reckon_1 (by rw [c9]; decide) (by rw [c9]; decide) (by rw [c9]; rfl) (by decide) ?_
    refine E_lload_n 2 dX12_reckon_53 rfl rfl ?_
    refine E_lload 3 dX12_reckon_54 rfl ?_
    refine E_lsub dX12_reckon_56 ?_
    obtain ⟨rfl, rfl⟩ := h
    exact E_lret dX12_reckon_57 rfl
  rw [if_neg c9] at h
  by_cases c10 : x1 = 10
  · rw [if_pos c10] at h
    refine E_tabIn (off := 57) 58 dX12_reckon_1 (by rw [c10]; decide) (by rw [c10]; decide) (by rw [c10]; rfl) (by decide) ?_
    refine E_lload_n 2 dX12_reckon_58 rfl rfl ?_
    refine E_lload 3 dX12_reckon_59 rfl ?_
    refine E_lmul dX12_reckon_61 ?_
    obtain ⟨rfl, rfl⟩ := h
    exact E_lret dX12_reckon_62 rfl
  rw [if_neg c10] at h
  by_cases c11 : x1 = 11
  · rw [if_pos c11] at h
    refine E_tabIn (off := 62) 63 dX12_reckon_1 (by rw [c11]; decide) (by rw [c11]; decide) (by rw [c11]; rfl) (by decide) ?_
    refine E_aload_n 0 dX12_reckon_63 rfl rfl ?_
    refine E_lload 3 dX12_reckon_64 rfl ?_
    refine E_lconst (0 : Int64) dX12_reckon_66 (by decide) ?_
    refine E_lcmp dX12_reckon_67 ?_
    refine E_if_ne 75 dX12_reckon_68 (by decide) (fun c => ?_) (fun c => ?_)
    · rw [if_neg (fun q => c ((lc_eq _ _).mpr q))] at h
      refine E_iconst (0 : Int32) dX12_reckon_75 (by decide) ?_
      exact E_lv [0, 2, 3] rfl (w_X12_reckon_76 hs h)
    · rw [if_pos ((lc_eq _ _).mp c)] at h
      refine E_iconst (1 : Int32) dX12_reckon_71 (by decide) ?_
      refine E_goto 76 dX12_reckon_72 (by decide) ?_
      exact E_lv [0, 2, 3] rfl (w_X12_reckon_76 hs h)
  rw [if_neg c11] at h
  by_cases c12 : x1 = 12
  · rw [if_pos c12] at h
    refine E_tabIn (off := 94) 95 dX12_reckon_1 (by rw [c12]; decide) (by rw [c12]; decide) (by rw [c12]; rfl) (by decide) ?_
    refine E_lload_n 2 dX12_reckon_95 rfl rfl ?_
    refine E_lload 3 dX12_reckon_96 rfl ?_
    refine E_lcmp dX12_reckon_98 ?_
    refine E_if_ge 106 dX12_reckon_99 (by decide) (fun c => ?_) (fun c => ?_)
    · rw [if_pos ((lc_ge _ _).mp c)] at h
      refine E_lconst (0 : Int64) dX12_reckon_106 (by decide) ?_
      obtain ⟨rfl, rfl⟩ := h
      exact E_lret dX12_reckon_107 rfl
    · rw [if_neg (fun q => c ((lc_ge _ _).mpr q))] at h
      refine E_lconst (1 : Int64) dX12_reckon_102 (by decide) ?_
      refine E_goto 107 dX12_reckon_103 (by decide) ?_
      obtain ⟨rfl, rfl⟩ := h
      exact E_lret dX12_reckon_107 rfl
  rw [if_neg c12] at h
  by_cases c13 : x1 = 13
  · rw [if_pos c13] at h
    refine E_tabIn (off := 107) 108 dX12_reckon_1 (by rw [c13]; decide) (by rw [c13]; decide) (by rw [c13]; rfl) (by decide) ?_
    refine E_lload_n 2 dX12_reckon_108 rfl rfl ?_
    refine E_lload 3 dX12_reckon_109 rfl ?_
    refine E_lcmp dX12_reckon_111 ?_
    refine E_if_le 119 dX12_reckon_112 (by decide) (fun c => ?_) (fun c => ?_)
    · rw [if_pos ((lc_le _ _).mp c)] at h
      refine E_lconst (0 : Int64) dX12_reckon_119 (by decide) ?_
      obtain ⟨rfl, rfl⟩ := h
      exact E_lret dX12_reckon_120 rfl
    · rw [if_neg (fun q => c ((lc_le _ _).mpr q))] at h
      refine E_lconst (1 : Int64) dX12_reckon_115 (by decide) ?_
      refine E_goto 120 dX12_reckon_116 (by decide) ?_
      obtain ⟨rfl, rfl⟩ := h
      exact E_lret dX12_reckon_120 rfl
  rw [if_neg c13] at h
  by_cases c14 : x1 = 14
  · rw [if_pos c14] at h
    refine E_tabIn (off := 120) 121 dX12_reckon_1 (by rw [c14]; decide) (by rw [c14]; decide) (by rw [c14]; rfl) (by decide) ?_
    refine E_lload_n 2 dX12_reckon_121 rfl rfl ?_
    refine E_lload 3 dX12_reckon_122 rfl ?_
    refine E_lcmp dX12_reckon_124 ?_
    refine E_if_ne 132 dX12_reckon_125 (by decide) (fun c => ?_) (fun c => ?_)
    · rw [if_neg (fun q => c ((lc_eq _ _).mpr q))] at h
      refine E_lconst (0 : Int64) dX12_reckon_132 (by decide) ?_
      obtain ⟨rfl, rfl⟩ := h
      exact E_lret dX12_reckon_133 rfl
    · rw [if_pos ((lc_eq _ _).mp c)] at h
      refine E_lconst (1 : Int64) dX12_reckon_128 (by decide) ?_
      refine E_goto 133 dX12_reckon_129 (by decide) ?_
      obtain ⟨rfl, rfl⟩ := h
      exact E_lret dX12_reckon_133 rfl
  rw [if_neg c14] at h
  by_cases c15 : x1 = 15
  · rw [if_pos c15] at h
    refine E_tabIn (off := 133) 134 dX12_reckon_1 (by rw [c15]; decide) (by rw [c15]; decide) (by rw [c15]; rfl) (by decide) ?_
    refine E_lload_n 2 dX12_reckon_134 rfl rfl ?_
    refine E_lload 3 dX12_reckon_135 rfl ?_
    refine E_lcmp dX12_reckon_137 ?_
    refine E_if_ge 145 dX12_reckon_138 (by decide) (fun c => ?_) (fun c => ?_)
    · rw [if_pos ((lc_ge _ _).mp c)] at h
      refine E_lload 3 dX12_reckon_145 rfl ?_
      obtain ⟨rfl, rfl⟩ := h
      exact E_lret dX12_reckon_147 rfl
    · rw [if_neg (fun q => c ((lc_ge _ _).mpr q))] at h
      refine E_lload_n 2 dX12_reckon_141 rfl rfl ?_
      refine E_goto 147 dX12_reckon_142 (by decide) ?_
      obtain ⟨rfl, rfl⟩ := h
      exact E_lret dX12_reckon_147 rfl
  rw [if_neg c15] at h
  refine E_tabOut 148 dX12_reckon_1 (i32_out (x := x1) 8 15 (fun k h1 h2 => by
      rcases (show k = 8 ∨ k = 9 ∨ k = 10 ∨ k = 11 ∨ k = 12 ∨ k = 13 ∨ k = 14 ∨ k = 15 by omega) with rfl | rfl | rfl | rfl | rfl | rfl | rfl | rfl
      · exact c8
      · exact c9
      · exact c10
      · exact c11
      · exact c12
      · exact c13
      · exact c14
      · exact c15
      )) (by decide) ?_
  refine E_lload_n 2 dX12_reckon_148 rfl rfl ?_
  refine E_lload 3 dX12_reckon_149 rfl ?_
  refine E_lcmp dX12_reckon_151 ?_
  refine E_if_le 159 dX12_reckon_152 (by decide) (fun c => ?_) (fun c => ?_)
  · rw [if_pos ((lc_le _ _).mp c)] at h
    refine E_lload 3 dX12_reckon_159 rfl ?_
    obtain ⟨rfl, rfl⟩ := h
    exact E_lret dX12_reckon_161 rfl
  · rw [if_neg (fun q => c ((lc_le _ _).mpr q))] at h
    refine E_lload_n 2 dX12_reckon_155 rfl rfl ?_
    refine E_goto 161 dX12_reckon_156 (by decide) ?_
    obtain ⟨rfl, rfl⟩ := h
    exact E_lret dX12_reckon_161 rfl
def W_X12_run_0 (X : Sx) (l : Launch) (D : Nat) (x1 : Int32) (x2 : Int32) (x3 : Int32) (σ : AH) (r : Option Value) (σ' : AH) : Prop := E X l m_X12_run D 11 [(0, .ref 124), (1, .int x1), (3, .int x3), (4, .int (0 : Int32)), (5, .int x2)] [] (sI σ 124 29 (0 : Int32)) r σ'
set_option maxRecDepth 100000 in
theorem w_X12_run_0 {X : Sx} {l : Launch} {D : Nat} {x1 : Int32} {x2 : Int32} {x3 : Int32} {σ : AH} {r : Option Value} {σ' : AH} (hs : Sh σ) (h : W_X12_run_0 X l D x1 x2 x3 σ r σ') : E X l m_X12_run D 0 [(0, .ref 124), (1, .int x1), (2, .int x2), (3, .int x3)] [] σ r σ' := by
  unfold W_X12_run_0 at h
  refine E_aload_n 0 dX12_run_0 rfl rfl ?_
  refine E_iconst (0 : Int32) dX12_run_1 (by decide) ?_
  refine E_putI dX12_run_2 fl_X12_412 rfl (Or.inl rfl) (sk_124 hs) (sn hs (by decide)) (Or.inl (by decide)) (nar_b (by decide)) (fit_b (by decide)) ?_
  refine E_iconst (0 : Int32) dX12_run_5 (by decide) ?_
  refine E_istore [(4, .int (0 : Int32)), (0, .ref 124), (1, .int x1), (2, .int x2), (3, .int x3)] dX12_run_6 (by decide) rfl ?_
  refine E_iload_n 3 dX12_run_8 rfl rfl ?_
  refine E_istore [(5, .int x2), (4, .int (0 : Int32)), (0, .ref 124), (1, .int x1), (2, .int x2), (3, .int x3)] dX12_run_9 (by decide) rfl ?_
  exact E_lv [2, 3, 5, 1, 0] rfl h
def W_X12_run_101 (X : Sx) (l : Launch) (D : Nat) (x1 : Int32) (x3 : Int32) (x4 : Int32) (x5 : Int32) (y0 : Int64) (y1 : Int32) (σ : AH) (r : Option Value) (σ' : AH) : Prop := vp_in y1 400 ∧ E X l m_X12_run D 11 [(0, .ref 124), (1, .int x1), (3, .int x3), (4, .int (x4 + 1)), (5, .int x5)] [] (sL σ 137 y1.toNatClampNeg y0) r σ'
set_option maxRecDepth 100000 in
theorem w_X12_run_101 {X : Sx} {l : Launch} {D : Nat} {x1 : Int32} {x3 : Int32} {x4 : Int32} {x5 : Int32} {y0 : Int64} {y1 : Int32} {σ : AH} {r : Option Value} {σ' : AH} (hs : Sh σ) (h : W_X12_run_101 X l D x1 x3 x4 x5 y0 y1 σ r σ') : E X l m_X12_run D 101 [(0, .ref 124), (1, .int x1), (3, .int x3), (4, .int x4), (5, .int x5)] [.long y0, .int y1, .ref 137] σ r σ' := by
  unfold W_X12_run_101 at h
  obtain ⟨g35, h⟩ := h
  refine E_last2 (y1.toNatClampNeg) dX12_run_101 (sk_137 hs) (sn hs (by decide)) (Or.inl (by decide)) g35 rfl ?_
  refine E_iinc 3 (x4 + 1) [(4, .int (x4 + 1)), (0, .ref 124), (1, .int x1), (3, .int x3), (5, .int x5)] dX12_run_102 rfl (congrArg (x4 + ·) (by decide : Int32.ofInt 1 = 1)) (by decide) rfl ?_
  refine E_goto 251 dX12_run_105 (by decide) ?_
  refine E_goto 11 dX12_run_251 (by decide) ?_
  exact E_lv [1, 2, 3, 0, 4] rfl h
def W_X12_run_180 (X : Sx) (l : Launch) (D : Nat) (x1 : Int32) (x3 : Int32) (x4 : Int32) (x5 : Int32) (y0 : Int32) (σ : AH) (r : Option Value) (σ' : AH) : Prop := (y0 = 0 ∨ y0 = 1) ∧ E X l m_X12_run D 11 [(0, .ref 124), (1, .int x1), (3, .int x3), (4, .int x4), (5, .int x5)] [] (sI σ 124 29 y0) r σ'
set_option maxRecDepth 100000 in
theorem w_X12_run_180 {X : Sx} {l : Launch} {D : Nat} {x1 : Int32} {x3 : Int32} {x4 : Int32} {x5 : Int32} {y0 : Int32} {σ : AH} {r : Option Value} {σ' : AH} (hs : Sh σ) (h : W_X12_run_180 X l D x1 x3 x4 x5 y0 σ r σ') : E X l m_X12_run D 180 [(0, .ref 124), (1, .int x1), (3, .int x3), (4, .int x4), (5, .int x5)] [.int y0, .ref 124] σ r σ' := by
  unfold W_X12_run_180 at h
  obtain ⟨g34, h⟩ := h
  refine E_putI dX12_run_180 fl_X12_412 rfl (Or.inl rfl) (sk_124 hs) (sn hs (by decide)) (Or.inl (by decide)) (nar_b g34) (fit_b g34) ?_
  refine E_goto 251 dX12_run_183 (by decide) ?_
  refine E_goto 11 dX12_run_251 (by decide) ?_
  exact E_lv [0, 1, 2, 3, 4] rfl h
def W_X12_run_175 (X : Sx) (l : Launch) (D : Nat) (x1 : Int32) (x3 : Int32) (x4 : Int32) (x5 : Int32) (σ : AH) (r : Option Value) (σ' : AH) : Prop := W_X12_run_180 X l D x1 x3 x4 x5 (1 : Int32) σ r σ'
set_option maxRecDepth 100000 in
theorem w_X12_run_175 {X : Sx} {l : Launch} {D : Nat} {x1 : Int32} {x3 : Int32} {x4 : Int32} {x5 : Int32} {σ : AH} {r : Option Value} {σ' : AH} (hs : Sh σ) (h : W_X12_run_175 X l D x1 x3 x4 x5 σ r σ') : E X l m_X12_run D 175 [(0, .ref 124), (1, .int x1), (3, .int x3), (4, .int x4), (5, .int x5)] [.ref 124] σ r σ' := by
  unfold W_X12_run_175 at h
  refine E_iconst (1 : Int32) dX12_run_175 (by decide) ?_
  refine E_goto 180 dX12_run_176 (by decide) ?_
  exact E_lv [0, 1, 2, 3, 4] rfl (w_X12_run_180 hs h)
def W_X12_run_237 (X : Sx) (l : Launch) (D : Nat) (x1 : Int32) (x3 : Int32) (x4 : Int32) (x5 : Int32) (x7 : Int32) (y0 : Int64) (y1 : Int64) (σ : AH) (r : Option Value) (σ' : AH) : Prop := (if y1 = y0 then E X l m_X12_run D 11 [(0, .ref 124), (1, .int x1), (3, .int x3), (4, .int x4), (5, .int x7)] [] σ r σ' else E X l m_X12_run D 11 [(0, .ref 124), (1, .int x1), (3, .int x3), (4, .int (x4 + (-1))), (5, .int x5)] [] σ r σ')
set_option maxRecDepth 100000 in
theorem w_X12_run_237 {X : Sx} {l : Launch} {D : Nat} {x1 : Int32} {x3 : Int32} {x4 : Int32} {x5 : Int32} {x7 : Int32} {y0 : Int64} {y1 : Int64} {σ : AH} {r : Option Value} {σ' : AH} (hs : Sh σ) (h : W_X12_run_237 X l D x1 x3 x4 x5 x7 y0 y1 σ r σ') : E X l m_X12_run D 237 [(0, .ref 124), (1, .int x1), (3, .int x3), (4, .int x4), (5, .int x5), (7, .int x7)] [.long y0, .long y1] σ r σ' := by
  unfold W_X12_run_237 at h
  refine E_lcmp dX12_run_237 ?_
  refine E_if_ne 248 dX12_run_238 (by decide) (fun c => ?_) (fun c => ?_)
  · rw [if_neg (fun q => c ((lc_eq _ _).mpr q))] at h
    refine E_iinc 3 (x4 + (-1)) [(4, .int (x4 + (-1))), (0, .ref 124), (1, .int x1), (3, .int x3), (5, .int x5), (7, .int x7)] dX12_run_248 rfl (congrArg (x4 + ·) (by decide : Int32.ofInt (-1) = -1)) (by decide) rfl ?_
    refine E_goto 11 dX12_run_251 (by decide) ?_
    exact E_lv [1, 2, 3, 0, 4] rfl h
  · rw [if_pos ((lc_eq _ _).mp c)] at h
    refine E_iload 5 dX12_run_241 rfl ?_
    refine E_istore [(5, .int x7), (0, .ref 124), (1, .int x1), (3, .int x3), (4, .int x4), (7, .int x7)] dX12_run_243 (by decide) rfl ?_
    refine E_goto 251 dX12_run_245 (by decide) ?_
    refine E_goto 11 dX12_run_251 (by decide) ?_
    exact E_lv [1, 2, 3, 4, 0] rfl h
def W_X12_run_270 (X : Sx) (l : Launch) (D : Nat) (y0 : Int64) (σ : AH) (r : Option Value) (σ' : AH) : Prop := (r = none ∧ σ' = (sL σ 124 30 y0))
set_option maxRecDepth 100000 in
theorem w_X12_run_270 {X : Sx} {l : Launch} {D : Nat} {y0 : Int64} {σ : AH} {r : Option Value} {σ' : AH} (hs : Sh σ) (h : W_X12_run_270 X l D y0 σ r σ') : E X l m_X12_run D 270 [] [.long y0, .ref 124] σ r σ' := by
  unfold W_X12_run_270 at h
  refine E_putL dX12_run_270 fl_X12_423 rfl (Or.inl rfl) (sk_124 hs) (sn hs (by decide)) (Or.inl (by decide)) rfl rfl ?_
  obtain ⟨rfl, rfl⟩ := h
  exact E_vret dX12_run_273 rfl
def W_X12_run_254 (X : Sx) (l : Launch) (D : Nat) (x4 : Int32) (σ : AH) (r : Option Value) (σ' : AH) : Prop := (if x4 ≤ 0 then W_X12_run_270 X l D (0 : Int64) σ r σ' else W_X12_run_270 X l D (gL σ 137 0) σ r σ')
set_option maxRecDepth 100000 in
theorem w_X12_run_254 {X : Sx} {l : Launch} {D : Nat} {x4 : Int32} {σ : AH} {r : Option Value} {σ' : AH} (hs : Sh σ) (h : W_X12_run_254 X l D x4 σ r σ') : E X l m_X12_run D 254 [(0, .ref 124), (4, .int x4)] [] σ r σ' := by
  unfold W_X12_run_254 at h
  refine E_aload_n 0 dX12_run_254 rfl rfl ?_
  refine E_iload 1 dX12_run_255 rfl ?_
  refine E_if_le 269 dX12_run_257 (by decide) (fun c => ?_) (fun c => ?_)
  · rw [if_pos c] at h
    refine E_lconst (0 : Int64) dX12_run_269 (by decide) ?_
    exact E_lv [] rfl (w_X12_run_270 hs h)
  · rw [if_neg c] at h
    refine E_aload_n 0 dX12_run_260 rfl rfl ?_
    refine E_getR 137 dX12_run_261 fl_X12_56 rfl (sk_124 hs) (sn hs (by decide)) (sr_124_28 hs) ?_
    refine E_iconst (0 : Int32) dX12_run_264 (by decide) ?_
    refine E_lald2 0 dX12_run_265 (sk_137 hs) (sn hs (by decide)) (vp_lit (by decide)) (by decide) ?_
    refine E_goto 270 dX12_run_266 (by decide) ?_
    exact E_lv [] rfl (w_X12_run_270 hs h)
def W_X12_run_11 (X : Sx) (l : Launch) (D : Nat) (x1 : Int32) (x3 : Int32) (x4 : Int32) (x5 : Int32) (σ : AH) (r : Option Value) (σ' : AH) : Prop := (if x3 ≤ x5 then W_X12_run_254 X l D x4 σ r σ' else (if (gI σ 124 29) = 0 then ∃ d1 : Nat, ∃ v6 : Int32, ∃ σ2 : AH, d1 + 1 ≤ D ∧ Call X l m_X12_actAt d1 [.int x1] σ (some (.int v6)) σ2 ∧ vp_in ((v6 + (147 : Int32)) + ((2 : Int32) * x5)) 269832 ∧ ∃ d8 : Nat, ∃ v13 : Int32, ∃ σ9 : AH, d8 + 1 ≤ D ∧ Call X l m_X12_actAt d8 [.int x1] σ2 (some (.int v13)) σ9 ∧ vp_in (((v13 + (147 : Int32)) + ((2 : Int32) * x5)) + (1 : Int32)) 269832 ∧ (if (8 : Int32) ≤ (gI σ2 125 ((v6 + (147 : Int32)) + ((2 : Int32) * x5)).toNatClampNeg) then (if (17 : Int32) ≤ (gI σ2 125 ((v6 + (147 : Int32)) + ((2 : Int32) * x5)).toNatClampNeg) then (if (gI σ2 125 ((v6 + (147 : Int32)) + ((2 : Int32) * x5)).toNatClampNeg) = (17 : Int32) then vp_in (x4 - (1 : Int32)) 400 ∧ vp_in (x4 - (1 : Int32)) 400 ∧ E X l m_X12_run D 11 [(0, .ref 124), (1, .int x1), (3, .int x3), (4, .int x4), (5, .int (x5 + 1))] [] (sL σ9 137 ((x4 - (1 : Int32)).toNatClampNeg) ((1 : Int64) - (gL σ9 137 (x4 - (1 : Int32)).toNatClampNeg))) r σ' else vp_in (x4 - (1 : Int32)) 400 ∧ (if (gI σ2 125 ((v6 + (147 : Int32)) + ((2 : Int32) * x5)).toNatClampNeg) = (18 : Int32) then W_X12_run_237 X l D x1 x3 x4 (x5 + 1) (gI σ9 125 (((v13 + (147 : Int32)) + ((2 : Int32) * x5)) + (1 : Int32)).toNatClampNeg) (0 : Int64) (gL σ9 137 (x4 - (1 : Int32)).toNatClampNeg) σ9 r σ' else W_X12_run_237 X l D x1 x3 x4 (x5 + 1) (gI σ9 125 (((v13 + (147 : Int32)) + ((2 : Int32) * x5)) + (1 : Int32)).toNatClampNeg) (1 : Int64) (gL σ9 137 (x4 - (1 : Int32)).toNatClampNeg) σ9 r σ')) else vp_in ((x4 + (-1)) - (1 : Int32)) 400 ∧ vp_in (x4 + (-1)) 400 ∧ ∃ d20 : Nat, ∃ v25 : Int64, ∃ σ21 : AH, d20 + 1 ≤ D ∧ Call X l m_X12_reckon d20 [.ref 124, .int (gI σ2 125 ((v6 + (147 : Int32)) + ((2 : Int32) * x5)).toNatClampNeg), .long (gL σ9 137 ((x4 + (-1)) - (1 : Int32)).toNatClampNeg), .long (gL σ9 137 (x4 + (-1)).toNatClampNeg)] σ9 (some (.long v25)) σ21 ∧ vp_in ((x4 + (-1)) - (1 : Int32)) 400 ∧ (if (gI (sL σ21 137 (((x4 + (-1)) - (1 : Int32)).toNatClampNeg) v25) 124 29) = 0 then ∃ d27 : Nat, ∃ v32 : Int32, ∃ σ28 : AH, d27 + 1 ≤ D ∧ Call X l m_X12_in d27 [.long v25, .long (-1000000000 : Int64), .long (1000000000 : Int64)] (sL σ21 137 (((x4 + (-1)) - (1 : Int32)).toNatClampNeg) v25) (some (.int v32)) σ28 ∧ (if v32 = 0 then W_X12_run_175 X l D x1 x3 (x4 + (-1)) (x5 + 1) σ28 r σ' else W_X12_run_180 X l D x1 x3 (x4 + (-1)) (x5 + 1) (0 : Int32) σ28 r σ') else W_X12_run_175 X l D x1 x3 (x4 + (-1)) (x5 + 1) (sL σ21 137 (((x4 + (-1)) - (1 : Int32)).toNatClampNeg) v25) r σ')) else (if (gI σ2 125 ((v6 + (147 : Int32)) + ((2 : Int32) * x5)).toNatClampNeg) = 0 then W_X12_run_101 X l D x1 x3 x4 (x5 + 1) (((gI σ9 125 (((v13 + (147 : Int32)) + ((2 : Int32) * x5)) + (1 : Int32)).toNatClampNeg)).toInt64) x4 σ9 r σ' else vp_in (gI σ2 125 ((v6 + (147 : Int32)) + ((2 : Int32) * x5)).toNatClampNeg) 8 ∧ W_X12_run_101 X l D x1 x3 x4 (x5 + 1) (((gI σ9 136 (gI σ2 125 ((v6 + (147 : Int32)) + ((2 : Int32) * x5)).toNatClampNeg).toNatClampNeg)).toInt64) x4 σ9 r σ')) else W_X12_run_254 X l D x4 σ r σ'))
set_option maxRecDepth 100000 in
theorem w_X12_run_11 {X : Sx} {l : Launch} {D : Nat} {x1 : Int32} {x3 : Int32} {x4 : Int32} {x5 : Int32} {σ : AH} {r : Option Value} {σ' : AH} (hs : Sh σ) (h : W_X12_run_11 X l D x1 x3 x4 x5 σ r σ') : E X l m_X12_run D 11 [(0, .ref 124), (1, .int x1), (3, .int x3), (4, .int x4), (5, .int x5)] [] σ r σ' := by
  unfold W_X12_run_11 at h
  refine E_iload 4 dX12_run_11 rfl ?_
  refine E_iload_n 2 dX12_run_13 rfl rfl ?_
  refine E_icmp_ge 254 dX12_run_14 (by decide) (fun c => ?_) (fun c => ?_)
  · rw [if_pos c] at h
    exact E_lv [0, 3] rfl (w_X12_run_254 hs h)
  · rw [if_neg c] at h
    refine E_aload_n 0 dX12_run_17 rfl rfl ?_
    refine E_getI dX12_run_18 fl_X12_412 rfl (sk_124 hs) (sn hs (by decide)) ?_
    refine E_if_ne 254 dX12_run_21 (by decide) (fun c => ?_) (fun c => ?_)
    · rw [if_neg c] at h
      exact E_lv [0, 3] rfl (w_X12_run_254 hs h)
    · rw [if_pos c] at h
      refine E_aload_n 0 dX12_run_24 rfl rfl ?_
      refine E_getR 125 dX12_run_25 fl_X12_8 rfl (sk_124 hs) (sn hs (by decide)) (sr_124_2 hs) ?_
      refine E_iload_n 1 dX12_run_28 rfl rfl ?_
      obtain ⟨d1, v6, σ2, hD3, hC4, h⟩ := h
      have hs5 := hC4.1.2.2.2.1 hs
      refine E_callS (As := [.int x1]) (rest := [.ref 125]) (r1 := (some (.int v6))) dX12_run_29 ok_X12_actAt is_X12_actAt ml_X12_396 hD3 rfl rfl (Nat.le_of_ble_eq_true rfl) (by decide +kernel) hC4 ?_
      refine E_sipush (147 : Int32) dX12_run_32 (by decide) ?_
      refine E_iadd dX12_run_35 ?_
      refine E_iconst (2 : Int32) dX12_run_36 (by decide) ?_
      refine E_iload 4 dX12_run_37 rfl ?_
      refine E_imul dX12_run_39 ?_
      refine E_iadd dX12_run_40 ?_
      obtain ⟨g7, h⟩ := h
      refine E_iald2 (((v6 + (147 : Int32)) + ((2 : Int32) * x5)).toNatClampNeg) dX12_run_41 (sk_125 hs5) (sn hs5 (by decide)) g7 rfl ?_
      refine E_istore [(6, .int (gI σ2 125 ((v6 + (147 : Int32)) + ((2 : Int32) * x5)).toNatClampNeg)), (0, .ref 124), (1, .int x1), (3, .int x3), (4, .int x4), (5, .int x5)] dX12_run_42 (by decide) rfl ?_
      refine E_aload_n 1 dX12_run_44 rfl rfl ?_
      refine E_getR 125 dX12_run_45 fl_X12_8 rfl (sk_124 hs5) (sn hs5 (by decide)) (sr_124_2 hs5) ?_
      refine E_iload_n 2 dX12_run_48 rfl rfl ?_
      obtain ⟨d8, v13, σ9, hD10, hC11, h⟩ := h
      have hs12 := hC11.1.2.2.2.1 hs5
      refine E_callS (As := [.int x1]) (rest := [.ref 125]) (r1 := (some (.int v13))) dX12_run_49 ok_X12_actAt is_X12_actAt ml_X12_396 hD10 rfl rfl (Nat.le_of_ble_eq_true rfl) (by decide +kernel) hC11 ?_
      refine E_sipush (147 : Int32) dX12_run_52 (by decide) ?_
      refine E_iadd dX12_run_55 ?_
      refine E_iconst (2 : Int32) dX12_run_56 (by decide) ?_
      refine E_iload 5 dX12_run_57 rfl ?_
      refine E_imul dX12_run_59 ?_
      refine E_iadd dX12_run_60 ?_
      refine E_iconst (1 : Int32) dX12_run_61 (by decide) ?_
      refine E_iadd dX12_run_62 ?_
      obtain ⟨g14, h⟩ := h
      refine E_iald2 ((((v13 + (147 : Int32)) + ((2 : Int32) * x5)) + (1 : Int32)).toNatClampNeg) dX12_run_63 (sk_125 hs12) (sn hs12 (by decide)) g14 rfl ?_
      refine E_istore [(7, .int (gI σ9 125 (((v13 + (147 : Int32)) + ((2 : Int32) * x5)) + (1 : Int32)).toNatClampNeg)), (6, .int (gI σ2 125 ((v6 + (147 : Int32)) + ((2 : Int32) * x5)).toNatClampNeg)), (0, .ref 124), (1, .int x1), (3, .int x3), (4, .int x4), (5, .int x5)] dX12_run_64 (by decide) rfl ?_
      refine E_iinc 6 (x5 + 1) [(5, .int (x5 + 1)), (7, .int (gI σ9 125 (((v13 + (147 : Int32)) + ((2 : Int32) * x5)) + (1 : Int32)).toNatClampNeg)), (6, .int (gI σ2 125 ((v6 + (147 : Int32)) + ((2 : Int32) * x5)).toNatClampNeg)), (0, .ref 124), (1, .int x1), (3, .int x3), (4, .int x4)] dX12_run_66 rfl (congrArg (x5 + ·) (by decide : Int32.ofInt 1 = 1)) (by decide) rfl ?_
      refine E_iload 2 dX12_run_69 rfl ?_
      refine E_bipush (8 : Int32) dX12_run_71 (by decide) ?_
      refine E_icmp_ge 108 dX12_run_73 (by decide) (fun c => ?_) (fun c => ?_)
      · rw [if_pos c] at h
        refine E_iload 2 dX12_run_108 rfl ?_
        refine E_bipush (17 : Int32) dX12_run_110 (by decide) ?_
        refine E_icmp_ge 186 dX12_run_112 (by decide) (fun c => ?_) (fun c => ?_)
        · rw [if_pos c] at h
          refine E_iload 2 dX12_run_186 rfl ?_
          refine E_bipush (17 : Int32) dX12_run_188 (by decide) ?_
          refine E_icmp_ne 216 dX12_run_190 (by decide) (fun c => ?_) (fun c => ?_)
          · rw [if_neg c] at h
            refine E_aload_n 3 dX12_run_216 rfl rfl ?_
            refine E_getR 137 dX12_run_217 fl_X12_56 rfl (sk_124 hs12) (sn hs12 (by decide)) (sr_124_28 hs12) ?_
            refine E_iload 6 dX12_run_220 rfl ?_
            refine E_iconst (1 : Int32) dX12_run_222 (by decide) ?_
            refine E_isub dX12_run_223 ?_
            obtain ⟨g15, h⟩ := h
            refine E_lald2 ((x4 - (1 : Int32)).toNatClampNeg) dX12_run_224 (sk_137 hs12) (sn hs12 (by decide)) g15 rfl ?_
            refine E_iload 2 dX12_run_225 rfl ?_
            refine E_bipush (18 : Int32) dX12_run_227 (by decide) ?_
            refine E_icmp_ne 236 dX12_run_229 (by decide) (fun c => ?_) (fun c => ?_)
            · rw [if_neg c] at h
              refine E_lconst (1 : Int64) dX12_run_236 (by decide) ?_
              exact E_lv [3, 4, 5, 6, 0, 1] rfl (w_X12_run_237 hs12 h)
            · rw [if_pos c] at h
              refine E_lconst (0 : Int64) dX12_run_232 (by decide) ?_
              refine E_goto 237 dX12_run_233 (by decide) ?_
              exact E_lv [3, 4, 5, 6, 0, 1] rfl (w_X12_run_237 hs12 h)
          · rw [if_pos c] at h
            refine E_aload_n 3 dX12_run_193 rfl rfl ?_
            refine E_getR 137 dX12_run_194 fl_X12_56 rfl (sk_124 hs12) (sn hs12 (by decide)) (sr_124_28 hs12) ?_
            refine E_iload 6 dX12_run_197 rfl ?_
            refine E_iconst (1 : Int32) dX12_run_199 (by decide) ?_
            refine E_isub dX12_run_200 ?_
            refine E_lconst (1 : Int64) dX12_run_201 (by decide) ?_
            refine E_aload_n 3 dX12_run_202 rfl rfl ?_
            refine E_getR 137 dX12_run_203 fl_X12_56 rfl (sk_124 hs12) (sn hs12 (by decide)) (sr_124_28 hs12) ?_
            refine E_iload 6 dX12_run_206 rfl ?_
            refine E_iconst (1 : Int32) dX12_run_208 (by decide) ?_
            refine E_isub dX12_run_209 ?_
            obtain ⟨g16, h⟩ := h
            refine E_lald2 ((x4 - (1 : Int32)).toNatClampNeg) dX12_run_210 (sk_137 hs12) (sn hs12 (by decide)) g16 rfl ?_
            refine E_lsub dX12_run_211 ?_
            obtain ⟨g17, h⟩ := h
            refine E_last2 ((x4 - (1 : Int32)).toNatClampNeg) dX12_run_212 (sk_137 hs12) (sn hs12 (by decide)) (Or.inl (by decide)) g17 rfl ?_
            refine E_goto 251 dX12_run_213 (by decide) ?_
            refine E_goto 11 dX12_run_251 (by decide) ?_
            exact E_lv [3, 4, 5, 6, 0] rfl h
        · rw [if_neg c] at h
          refine E_iinc 6 (x4 + (-1)) [(4, .int (x4 + (-1))), (5, .int (x5 + 1)), (7, .int (gI σ9 125 (((v13 + (147 : Int32)) + ((2 : Int32) * x5)) + (1 : Int32)).toNatClampNeg)), (6, .int (gI σ2 125 ((v6 + (147 : Int32)) + ((2 : Int32) * x5)).toNatClampNeg)), (0, .ref 124), (1, .int x1), (3, .int x3)] dX12_run_115 rfl (congrArg (x4 + ·) (by decide : Int32.ofInt (-1) = -1)) (by decide) rfl ?_
          refine E_aload_n 4 dX12_run_118 rfl rfl ?_
          refine E_iload 3 dX12_run_119 rfl ?_
          refine E_aload_n 4 dX12_run_121 rfl rfl ?_
          refine E_getR 137 dX12_run_122 fl_X12_56 rfl (sk_124 hs12) (sn hs12 (by decide)) (sr_124_28 hs12) ?_
          refine E_iload 0 dX12_run_125 rfl ?_
          refine E_iconst (1 : Int32) dX12_run_127 (by decide) ?_
          refine E_isub dX12_run_128 ?_
          obtain ⟨g18, h⟩ := h
          refine E_lald2 (((x4 + (-1)) - (1 : Int32)).toNatClampNeg) dX12_run_129 (sk_137 hs12) (sn hs12 (by decide)) g18 rfl ?_
          refine E_aload_n 4 dX12_run_130 rfl rfl ?_
          refine E_getR 137 dX12_run_131 fl_X12_56 rfl (sk_124 hs12) (sn hs12 (by decide)) (sr_124_28 hs12) ?_
          refine E_iload 0 dX12_run_134 rfl ?_
          obtain ⟨g19, h⟩ := h
          refine E_lald2 ((x4 + (-1)).toNatClampNeg) dX12_run_136 (sk_137 hs12) (sn hs12 (by decide)) g19 rfl ?_
          obtain ⟨d20, v25, σ21, hD22, hC23, h⟩ := h
          have hs24 := hC23.1.2.2.2.1 hs12
          refine E_callV (As := [.int (gI σ2 125 ((v6 + (147 : Int32)) + ((2 : Int32) * x5)).toNatClampNeg), .long (gL σ9 137 ((x4 + (-1)) - (1 : Int32)).toNatClampNeg), .long (gL σ9 137 (x4 + (-1)).toNatClampNeg)]) (rest := []) (r1 := (some (.long v25))) (b := 124) dX12_run_137 ok_X12_reckon in_X12_reckon se_X12_reckon ml_X12_415 hD22 rfl rfl (Nat.le_of_ble_eq_true rfl) (sk_124 hs12) (sn hs12 (by decide)) (by decide) rfl (by decide +kernel) hC23 ?_
          refine E_lstore [(8, .long v25), (4, .int (x4 + (-1))), (5, .int (x5 + 1)), (7, .int (gI σ9 125 (((v13 + (147 : Int32)) + ((2 : Int32) * x5)) + (1 : Int32)).toNatClampNeg)), (6, .int (gI σ2 125 ((v6 + (147 : Int32)) + ((2 : Int32) * x5)).toNatClampNeg)), (0, .ref 124), (1, .int x1), (3, .int x3)] dX12_run_140 (by decide) rfl ?_
          refine E_aload_n 5 dX12_run_142 rfl rfl ?_
          refine E_getR 137 dX12_run_143 fl_X12_56 rfl (sk_124 hs24) (sn hs24 (by decide)) (sr_124_28 hs24) ?_
          refine E_iload 1 dX12_run_146 rfl ?_
          refine E_iconst (1 : Int32) dX12_run_148 (by decide) ?_
          refine E_isub dX12_run_149 ?_
          refine E_lload 0 dX12_run_150 rfl ?_
          obtain ⟨g26, h⟩ := h
          refine E_last2 (((x4 + (-1)) - (1 : Int32)).toNatClampNeg) dX12_run_152 (sk_137 hs24) (sn hs24 (by decide)) (Or.inl (by decide)) g26 rfl ?_
          refine E_aload_n 5 dX12_run_153 rfl rfl ?_
          refine E_aload_n 5 dX12_run_154 rfl rfl ?_
          refine E_getI dX12_run_155 fl_X12_412 rfl (sk_124 hs24) (sn hs24 (by decide)) ?_
          refine E_if_ne 175 dX12_run_158 (by decide) (fun c => ?_) (fun c => ?_)
          · rw [if_neg c] at h
            exact E_lv [5, 6, 7, 1, 2] rfl (w_X12_run_175 hs24 h)
          · rw [if_pos c] at h
            refine E_lload 0 dX12_run_161 rfl ?_
            refine E_ldc2 (-1000000000 : Int64) dX12_run_163 cl_X12_419 ?_
            refine E_ldc2 (1000000000 : Int64) dX12_run_166 cl_X12_421 ?_
            obtain ⟨d27, v32, σ28, hD29, hC30, h⟩ := h
            have hs31 := hC30.1.2.2.2.1 hs24
            refine E_callS (As := [.long v25, .long (-1000000000 : Int64), .long (1000000000 : Int64)]) (rest := [.ref 124]) (r1 := (some (.int v32))) dX12_run_169 ok_X12_in is_X12_in ml_X12_153 hD29 rfl rfl (Nat.le_of_ble_eq_true rfl) (by decide +kernel) hC30 ?_
            refine E_if_ne 179 dX12_run_172 (by decide) (fun c => ?_) (fun c => ?_)
            · rw [if_neg c] at h
              refine E_iconst (0 : Int32) dX12_run_179 (by decide) ?_
              exact E_lv [5, 6, 7, 1, 2] rfl (w_X12_run_180 hs31 h)
            · rw [if_pos c] at h
              exact E_lv [5, 6, 7, 1, 2] rfl (w_X12_run_175 hs31 h)
      · rw [if_neg c] at h
        refine E_aload_n 3 dX12_run_76 rfl rfl ?_
        refine E_getR 137 dX12_run_77 fl_X12_56 rfl (sk_124 hs12) (sn hs12 (by decide)) (sr_124_28 hs12) ?_
        refine E_iload 6 dX12_run_80 rfl ?_
        refine E_iload 2 dX12_run_82 rfl ?_
        refine E_if_ne 93 dX12_run_84 (by decide) (fun c => ?_) (fun c => ?_)
        · rw [if_neg c] at h
          refine E_aload_n 3 dX12_run_93 rfl rfl ?_
          refine E_getR 136 dX12_run_94 fl_X12_53 rfl (sk_124 hs12) (sn hs12 (by decide)) (sr_124_27 hs12) ?_
          refine E_iload 2 dX12_run_97 rfl ?_
          obtain ⟨g33, h⟩ := h
          refine E_iald2 ((gI σ2 125 ((v6 + (147 : Int32)) + ((2 : Int32) * x5)).toNatClampNeg).toNatClampNeg) dX12_run_99 (sk_136 hs12) (sn hs12 (by decide)) g33 rfl ?_
          refine E_i2l dX12_run_100 ?_
          exact E_lv [3, 4, 5, 6, 0] rfl (w_X12_run_101 hs12 h)
        · rw [if_pos c] at h
          refine E_iload 1 dX12_run_87 rfl ?_
          refine E_i2l dX12_run_89 ?_
          refine E_goto 101 dX12_run_90 (by decide) ?_
          exact E_lv [3, 4, 5, 6, 0] rfl (w_X12_run_101 hs12 h)
def W_X12_holds_113 (X : Sx) (l : Launch) (D : Nat) (x1 : Int32) (x4 : Int32) (σ : AH) (r : Option Value) (σ' : AH) : Prop := vp_in (x4 + (4 : Int32)) 269832 ∧ vp_in (x4 + (5 : Int32)) 269832 ∧ ∃ d26 : Nat, ∃ σ27 : AH, d26 + 1 ≤ D ∧ Call X l m_X12_run d26 [.ref 124, .int x1, .int (gI σ 125 (x4 + (4 : Int32)).toNatClampNeg), .int (gI σ 125 (x4 + (5 : Int32)).toNatClampNeg)] σ none σ27 ∧ (if (gI (sL σ27 124 31 (gL σ27 124 30)) 124 29) = 0 then (r = some (.int (1 : Int32)) ∧ σ' = (sL σ27 124 31 (gL σ27 124 30))) else (r = some (.int (0 : Int32)) ∧ σ' = (sL σ27 124 31 (gL σ27 124 30))))
set_option maxRecDepth 100000 in
theorem w_X12_holds_113 {X : Sx} {l : Launch} {D : Nat} {x1 : Int32} {x4 : Int32} {σ : AH} {r : Option Value} {σ' : AH} (hs : Sh σ) (h : W_X12_holds_113 X l D x1 x4 σ r σ') : E X l m_X12_holds D 113 [(0, .ref 124), (1, .int x1), (4, .int x4)] [] σ r σ' := by
  unfold W_X12_holds_113 at h
  refine E_aload_n 0 dX12_holds_113 rfl rfl ?_
  refine E_iload_n 1 dX12_holds_114 rfl rfl ?_
  refine E_aload_n 0 dX12_holds_115 rfl rfl ?_
  refine E_getR 125 dX12_holds_116 fl_X12_8 rfl (sk_124 hs) (sn hs (by decide)) (sr_124_2 hs) ?_
  refine E_iload 2 dX12_holds_119 rfl ?_
  refine E_iconst (4 : Int32) dX12_holds_121 (by decide) ?_
  refine E_iadd dX12_holds_122 ?_
  obtain ⟨g24, h⟩ := h
  refine E_iald2 ((x4 + (4 : Int32)).toNatClampNeg) dX12_holds_123 (sk_125 hs) (sn hs (by decide)) g24 rfl ?_
  refine E_aload_n 0 dX12_holds_124 rfl rfl ?_
  refine E_getR 125 dX12_holds_125 fl_X12_8 rfl (sk_124 hs) (sn hs (by decide)) (sr_124_2 hs) ?_
  refine E_iload 2 dX12_holds_128 rfl ?_
  refine E_iconst (5 : Int32) dX12_holds_130 (by decide) ?_
  refine E_iadd dX12_holds_131 ?_
  obtain ⟨g25, h⟩ := h
  refine E_iald2 ((x4 + (5 : Int32)).toNatClampNeg) dX12_holds_132 (sk_125 hs) (sn hs (by decide)) g25 rfl ?_
  obtain ⟨d26, σ27, hD28, hC29, h⟩ := h
  have hs30 := hC29.1.2.2.2.1 hs
  refine E_callV (As := [.int x1, .int (gI σ 125 (x4 + (4 : Int32)).toNatClampNeg), .int (gI σ 125 (x4 + (5 : Int32)).toNatClampNeg)]) (rest := []) (r1 := none) (b := 124) dX12_holds_133 ok_X12_run in_X12_run se_X12_run ml_X12_426 hD28 rfl rfl (Nat.le_of_ble_eq_true rfl) (sk_124 hs) (sn hs (by decide)) (by decide) rfl (by decide +kernel) hC29 ?_
  refine E_aload_n 0 dX12_holds_136 rfl rfl ?_
  refine E_aload_n 0 dX12_holds_137 rfl rfl ?_
  refine E_getL dX12_holds_138 fl_X12_423 rfl (sk_124 hs30) (sn hs30 (by decide)) ?_
  refine E_putL dX12_holds_141 fl_X12_430 rfl (Or.inl rfl) (sk_124 hs30) (sn hs30 (by decide)) (Or.inl (by decide)) rfl rfl ?_
  refine E_aload_n 0 dX12_holds_144 rfl rfl ?_
  refine E_getI dX12_holds_145 fl_X12_412 rfl (sk_124 hs30) (sn hs30 (by decide)) ?_
  refine E_if_ne 155 dX12_holds_148 (by decide) (fun c => ?_) (fun c => ?_)
  · rw [if_neg c] at h
    refine E_iconst (0 : Int32) dX12_holds_155 (by decide) ?_
    obtain ⟨rfl, rfl⟩ := h
    exact E_zret dX12_holds_156 rfl (Or.inl rfl)
  · rw [if_pos c] at h
    refine E_iconst (1 : Int32) dX12_holds_151 (by decide) ?_
    refine E_goto 156 dX12_holds_152 (by decide) ?_
    obtain ⟨rfl, rfl⟩ := h
    exact E_zret dX12_holds_156 rfl (Or.inr rfl)
def W_X12_holds_0 (X : Sx) (l : Launch) (D : Nat) (x1 : Int32) (x2 : Int32) (x3 : Int32) (σ : AH) (r : Option Value) (σ' : AH) : Prop := ∃ d1 : Nat, ∃ σ2 : AH, d1 + 1 ≤ D ∧ Call X l m_X12_findForce d1 [.ref 124, .int x3] σ none σ2 ∧ ∃ d6 : Nat, ∃ v11 : Int32, ∃ σ7 : AH, d6 + 1 ≤ D ∧ Call X l m_X12_clauseAt d6 [.int x1, .int x2] σ2 (some (.int v11)) σ7 ∧ vp_in x1 24 ∧ (if (gI σ7 134 x1.toNatClampNeg) = 0 then (r = some (.int (0 : Int32)) ∧ σ' = σ7) else vp_in (((16 : Int32) * x1) + x2) 384 ∧ (if (gI σ7 135 (((16 : Int32) * x1) + x2).toNatClampNeg) = 0 then vp_in v11 269832 ∧ (if (gI σ7 125 v11.toNatClampNeg) = 0 then (r = some (.int (0 : Int32)) ∧ σ' = σ7) else vp_in (v11 + (6 : Int32)) 269832 ∧ vp_in (v11 + (7 : Int32)) 269832 ∧ (if (gI σ7 125 (v11 + (7 : Int32)).toNatClampNeg) ≤ (gI σ7 125 (v11 + (6 : Int32)).toNatClampNeg) then W_X12_holds_113 X l D x1 v11 σ7 r σ' else vp_in (v11 + (6 : Int32)) 269832 ∧ vp_in (v11 + (7 : Int32)) 269832 ∧ ∃ d19 : Nat, ∃ σ20 : AH, d19 + 1 ≤ D ∧ Call X l m_X12_run d19 [.ref 124, .int x1, .int (gI σ7 125 (v11 + (6 : Int32)).toNatClampNeg), .int (gI σ7 125 (v11 + (7 : Int32)).toNatClampNeg)] σ7 none σ20 ∧ (if (gI σ20 124 29) = 0 then (if (gL σ20 124 30) = (0 : Int64) then (r = some (.int (0 : Int32)) ∧ σ' = σ20) else W_X12_holds_113 X l D x1 v11 σ20 r σ') else (r = some (.int (0 : Int32)) ∧ σ' = σ20)))) else (r = some (.int (0 : Int32)) ∧ σ' = σ7)))
set_option maxRecDepth 100000 in
theorem w_X12_holds_0 {X : Sx} {l : Launch} {D : Nat} {x1 : Int32} {x2 : Int32} {x3 : Int32} {σ : AH} {r : Option Value} {σ' : AH} (hs : Sh σ) (h : W_X12_holds_0 X l D x1 x2 x3 σ r σ') : E X l m_X12_holds D 0 [(0, .ref 124), (1, .int x1), (2, .int x2), (3, .int x3)] [] σ r σ' := by
  unfold W_X12_holds_0 at h
  refine E_aload_n 0 dX12_holds_0 rfl rfl ?_
  refine E_iload_n 3 dX12_holds_1 rfl rfl ?_
  obtain ⟨d1, σ2, hD3, hC4, h⟩ := h
  have hs5 := hC4.1.2.2.2.1 hs
  refine E_callV (As := [.int x3]) (rest := []) (r1 := none) (b := 124) dX12_holds_2 ok_X12_findForce in_X12_findForce se_X12_findForce ml_X12_409 hD3 rfl rfl (Nat.le_of_ble_eq_true rfl) (sk_124 hs) (sn hs (by decide)) (by decide) rfl (by decide +kernel) hC4 ?_
  refine E_iload_n 1 dX12_holds_5 rfl rfl ?_
  refine E_iload_n 2 dX12_holds_6 rfl rfl ?_
  obtain ⟨d6, v11, σ7, hD8, hC9, h⟩ := h
  have hs10 := hC9.1.2.2.2.1 hs5
  refine E_callS (As := [.int x1, .int x2]) (rest := []) (r1 := (some (.int v11))) dX12_holds_7 ok_X12_clauseAt is_X12_clauseAt ml_X12_402 hD8 rfl rfl (Nat.le_of_ble_eq_true rfl) (by decide +kernel) hC9 ?_
  refine E_istore [(4, .int v11), (0, .ref 124), (1, .int x1), (2, .int x2), (3, .int x3)] dX12_holds_10 (by decide) rfl ?_
  refine E_aload_n 1 dX12_holds_12 rfl rfl ?_
  refine E_getR 134 dX12_holds_13 fl_X12_47 rfl (sk_124 hs10) (sn hs10 (by decide)) (sr_124_25 hs10) ?_
  refine E_iload_n 2 dX12_holds_16 rfl rfl ?_
  obtain ⟨g12, h⟩ := h
  refine E_zald2 (x1.toNatClampNeg) dX12_holds_17 (sk_134 hs10) (sn hs10 (by decide)) g12 rfl ?_
  refine E_if_eq 45 dX12_holds_18 (by decide) (fun c => ?_) (fun c => ?_)
  · rw [if_pos c] at h
    refine E_iconst (0 : Int32) dX12_holds_45 (by decide) ?_
    obtain ⟨rfl, rfl⟩ := h
    exact E_zret dX12_holds_46 rfl (Or.inl rfl)
  · rw [if_neg c] at h
    refine E_aload_n 1 dX12_holds_21 rfl rfl ?_
    refine E_getR 135 dX12_holds_22 fl_X12_50 rfl (sk_124 hs10) (sn hs10 (by decide)) (sr_124_26 hs10) ?_
    refine E_bipush (16 : Int32) dX12_holds_25 (by decide) ?_
    refine E_iload_n 2 dX12_holds_27 rfl rfl ?_
    refine E_imul dX12_holds_28 ?_
    refine E_iload_n 3 dX12_holds_29 rfl rfl ?_
    refine E_iadd dX12_holds_30 ?_
    obtain ⟨g13, h⟩ := h
    refine E_zald2 ((((16 : Int32) * x1) + x2).toNatClampNeg) dX12_holds_31 (sk_135 hs10) (sn hs10 (by decide)) g13 rfl ?_
    refine E_if_ne 45 dX12_holds_32 (by decide) (fun c => ?_) (fun c => ?_)
    · rw [if_neg c] at h
      refine E_iconst (0 : Int32) dX12_holds_45 (by decide) ?_
      obtain ⟨rfl, rfl⟩ := h
      exact E_zret dX12_holds_46 rfl (Or.inl rfl)
    · rw [if_pos c] at h
      refine E_aload_n 1 dX12_holds_35 rfl rfl ?_
      refine E_getR 125 dX12_holds_36 fl_X12_8 rfl (sk_124 hs10) (sn hs10 (by decide)) (sr_124_2 hs10) ?_
      refine E_iload 0 dX12_holds_39 rfl ?_
      obtain ⟨g14, h⟩ := h
      refine E_iald2 (v11.toNatClampNeg) dX12_holds_41 (sk_125 hs10) (sn hs10 (by decide)) g14 rfl ?_
      refine E_if_ne 47 dX12_holds_42 (by decide) (fun c => ?_) (fun c => ?_)
      · rw [if_neg c] at h
        refine E_aload_n 1 dX12_holds_47 rfl rfl ?_
        refine E_getR 125 dX12_holds_48 fl_X12_8 rfl (sk_124 hs10) (sn hs10 (by decide)) (sr_124_2 hs10) ?_
        refine E_iload 0 dX12_holds_51 rfl ?_
        refine E_bipush (6 : Int32) dX12_holds_53 (by decide) ?_
        refine E_iadd dX12_holds_55 ?_
        obtain ⟨g15, h⟩ := h
        refine E_iald2 ((v11 + (6 : Int32)).toNatClampNeg) dX12_holds_56 (sk_125 hs10) (sn hs10 (by decide)) g15 rfl ?_
        refine E_aload_n 1 dX12_holds_57 rfl rfl ?_
        refine E_getR 125 dX12_holds_58 fl_X12_8 rfl (sk_124 hs10) (sn hs10 (by decide)) (sr_124_2 hs10) ?_
        refine E_iload 0 dX12_holds_61 rfl ?_
        refine E_bipush (7 : Int32) dX12_holds_63 (by decide) ?_
        refine E_iadd dX12_holds_65 ?_
        obtain ⟨g16, h⟩ := h
        refine E_iald2 ((v11 + (7 : Int32)).toNatClampNeg) dX12_holds_66 (sk_125 hs10) (sn hs10 (by decide)) g16 rfl ?_
        refine E_icmp_ge 113 dX12_holds_67 (by decide) (fun c => ?_) (fun c => ?_)
        · rw [if_pos c] at h
          exact E_lv [1, 2, 0] rfl (w_X12_holds_113 hs10 h)
        · rw [if_neg c] at h
          refine E_aload_n 1 dX12_holds_70 rfl rfl ?_
          refine E_iload_n 2 dX12_holds_71 rfl rfl ?_
          refine E_aload_n 1 dX12_holds_72 rfl rfl ?_
          refine E_getR 125 dX12_holds_73 fl_X12_8 rfl (sk_124 hs10) (sn hs10 (by decide)) (sr_124_2 hs10) ?_
          refine E_iload 0 dX12_holds_76 rfl ?_
          refine E_bipush (6 : Int32) dX12_holds_78 (by decide) ?_
          refine E_iadd dX12_holds_80 ?_
          obtain ⟨g17, h⟩ := h
          refine E_iald2 ((v11 + (6 : Int32)).toNatClampNeg) dX12_holds_81 (sk_125 hs10) (sn hs10 (by decide)) g17 rfl ?_
          refine E_aload_n 1 dX12_holds_82 rfl rfl ?_
          refine E_getR 125 dX12_holds_83 fl_X12_8 rfl (sk_124 hs10) (sn hs10 (by decide)) (sr_124_2 hs10) ?_
          refine E_iload 0 dX12_holds_86 rfl ?_
          refine E_bipush (7 : Int32) dX12_holds_88 (by decide) ?_
          refine E_iadd dX12_holds_90 ?_
          obtain ⟨g18, h⟩ := h
          refine E_iald2 ((v11 + (7 : Int32)).toNatClampNeg) dX12_holds_91 (sk_125 hs10) (sn hs10 (by decide)) g18 rfl ?_
          obtain ⟨d19, σ20, hD21, hC22, h⟩ := h
          have hs23 := hC22.1.2.2.2.1 hs10
          refine E_callV (As := [.int x1, .int (gI σ7 125 (v11 + (6 : Int32)).toNatClampNeg), .int (gI σ7 125 (v11 + (7 : Int32)).toNatClampNeg)]) (rest := []) (r1 := none) (b := 124) dX12_holds_92 ok_X12_run in_X12_run se_X12_run ml_X12_426 hD21 rfl rfl (Nat.le_of_ble_eq_true rfl) (sk_124 hs10) (sn hs10 (by decide)) (by decide) rfl (by decide +kernel) hC22 ?_
          refine E_aload_n 1 dX12_holds_95 rfl rfl ?_
          refine E_getI dX12_holds_96 fl_X12_412 rfl (sk_124 hs23) (sn hs23 (by decide)) ?_
          refine E_if_ne 111 dX12_holds_99 (by decide) (fun c => ?_) (fun c => ?_)
          · rw [if_neg c] at h
            refine E_iconst (0 : Int32) dX12_holds_111 (by decide) ?_
            obtain ⟨rfl, rfl⟩ := h
            exact E_zret dX12_holds_112 rfl (Or.inl rfl)
          · rw [if_pos c] at h
            refine E_aload_n 1 dX12_holds_102 rfl rfl ?_
            refine E_getL dX12_holds_103 fl_X12_423 rfl (sk_124 hs23) (sn hs23 (by decide)) ?_
            refine E_lconst (0 : Int64) dX12_holds_106 (by decide) ?_
            refine E_lcmp dX12_holds_107 ?_
            refine E_if_ne 113 dX12_holds_108 (by decide) (fun c => ?_) (fun c => ?_)
            · rw [if_neg (fun q => c ((lc_eq _ _).mpr q))] at h
              exact E_lv [1, 2, 0] rfl (w_X12_holds_113 hs23 h)
            · rw [if_pos ((lc_eq _ _).mp c)] at h
              refine E_iconst (0 : Int32) dX12_holds_111 (by decide) ?_
              obtain ⟨rfl, rfl⟩ := h
              exact E_zret dX12_holds_112 rfl (Or.inl rfl)
      · rw [if_pos c] at h
        refine E_iconst (0 : Int32) dX12_holds_45 (by decide) ?_
        obtain ⟨rfl, rfl⟩ := h
        exact E_zret dX12_holds_46 rfl (Or.inl rfl)
def W_X12_find_0 (X : Sx) (l : Launch) (D : Nat) (x1 : Int32) (x2 : Int32) (x3 : Int32) (x4 : Int32) (x5 : Int32) (σ : AH) (r : Option Value) (σ' : AH) : Prop := E X l m_X12_find D 14 [(0, .ref 124), (1, .int x1), (2, .int x2), (3, .int x3), (4, .int x4), (5, .int x5), (6, .int (0 : Int32)), (7, .long (0 : Int64)), (9, .int (0 : Int32))] [] (sL σ 124 32 (0 : Int64)) r σ'
set_option maxRecDepth 100000 in
theorem w_X12_find_0 {X : Sx} {l : Launch} {D : Nat} {x1 : Int32} {x2 : Int32} {x3 : Int32} {x4 : Int32} {x5 : Int32} {σ : AH} {r : Option Value} {σ' : AH} (hs : Sh σ) (h : W_X12_find_0 X l D x1 x2 x3 x4 x5 σ r σ') : E X l m_X12_find D 0 [(0, .ref 124), (1, .int x1), (2, .int x2), (3, .int x3), (4, .int x4), (5, .int x5)] [] σ r σ' := by
  unfold W_X12_find_0 at h
  refine E_iconst (0 : Int32) dX12_find_0 (by decide) ?_
  refine E_istore [(6, .int (0 : Int32)), (0, .ref 124), (1, .int x1), (2, .int x2), (3, .int x3), (4, .int x4), (5, .int x5)] dX12_find_1 (by decide) rfl ?_
  refine E_aload_n 1 dX12_find_3 rfl rfl ?_
  refine E_lconst (0 : Int64) dX12_find_4 (by decide) ?_
  refine E_putL dX12_find_5 fl_X12_433 rfl (Or.inl rfl) (sk_124 hs) (sn hs (by decide)) (Or.inl (by decide)) rfl rfl ?_
  refine E_lconst (0 : Int64) dX12_find_8 (by decide) ?_
  refine E_lstore [(7, .long (0 : Int64)), (6, .int (0 : Int32)), (0, .ref 124), (1, .int x1), (2, .int x2), (3, .int x3), (4, .int x4), (5, .int x5)] dX12_find_9 (by decide) rfl ?_
  refine E_iconst (0 : Int32) dX12_find_11 (by decide) ?_
  refine E_istore [(9, .int (0 : Int32)), (7, .long (0 : Int64)), (6, .int (0 : Int32)), (0, .ref 124), (1, .int x1), (2, .int x2), (3, .int x3), (4, .int x4), (5, .int x5)] dX12_find_12 (by decide) rfl ?_
  exact E_lv [3, 4, 5, 6, 7, 8, 2, 1, 0] rfl h
def W_X12_find_14 (X : Sx) (l : Launch) (D : Nat) (x1 : Int32) (x2 : Int32) (x3 : Int32) (x4 : Int32) (x5 : Int32) (x6 : Int32) (x7 : Int64) (x9 : Int32) (σ : AH) (r : Option Value) (σ' : AH) : Prop := (if (gI σ 125 0) ≤ x9 then ((x6 = 0 ∨ x6 = 1) ∧ r = some (.int x6) ∧ σ' = (sL σ 124 31 x7)) else E X l m_X12_find D 28 [(0, .ref 124), (1, .int x1), (2, .int x2), (3, .int x3), (4, .int x4), (5, .int x5), (6, .int x6), (7, .long x7), (9, .int x9), (10, .int (0 : Int32))] [] σ r σ')
set_option maxRecDepth 100000 in
theorem w_X12_find_14 {X : Sx} {l : Launch} {D : Nat} {x1 : Int32} {x2 : Int32} {x3 : Int32} {x4 : Int32} {x5 : Int32} {x6 : Int32} {x7 : Int64} {x9 : Int32} {σ : AH} {r : Option Value} {σ' : AH} (hs : Sh σ) (h : W_X12_find_14 X l D x1 x2 x3 x4 x5 x6 x7 x9 σ r σ') : E X l m_X12_find D 14 [(0, .ref 124), (1, .int x1), (2, .int x2), (3, .int x3), (4, .int x4), (5, .int x5), (6, .int x6), (7, .long x7), (9, .int x9)] [] σ r σ' := by
  unfold W_X12_find_14 at h
  refine E_iload 8 dX12_find_14 rfl ?_
  refine E_aload_n 0 dX12_find_16 rfl rfl ?_
  refine E_getR 125 dX12_find_17 fl_X12_8 rfl (sk_124 hs) (sn hs (by decide)) (sr_124_2 hs) ?_
  refine E_iconst (0 : Int32) dX12_find_20 (by decide) ?_
  refine E_iald2 0 dX12_find_21 (sk_125 hs) (sn hs (by decide)) (vp_lit (by decide)) (by decide) ?_
  refine E_icmp_ge 189 dX12_find_22 (by decide) (fun c => ?_) (fun c => ?_)
  · rw [if_pos c] at h
    refine E_aload_n 0 dX12_find_189 rfl rfl ?_
    refine E_lload 7 dX12_find_190 rfl ?_
    refine E_putL dX12_find_192 fl_X12_430 rfl (Or.inl rfl) (sk_124 hs) (sn hs (by decide)) (Or.inl (by decide)) rfl rfl ?_
    refine E_iload 6 dX12_find_195 rfl ?_
    obtain ⟨hz, rfl, rfl⟩ := h
    exact E_zret dX12_find_197 rfl hz
  · rw [if_neg c] at h
    refine E_iconst (0 : Int32) dX12_find_25 (by decide) ?_
    refine E_istore [(10, .int (0 : Int32)), (0, .ref 124), (1, .int x1), (2, .int x2), (3, .int x3), (4, .int x4), (5, .int x5), (6, .int x6), (7, .long x7), (9, .int x9)] dX12_find_26 (by decide) rfl ?_
    exact E_lv [1, 2, 3, 4, 5, 6, 7, 8, 9, 0] rfl h
def W_X12_find_177 (X : Sx) (l : Launch) (D : Nat) (x1 : Int32) (x2 : Int32) (x3 : Int32) (x4 : Int32) (x5 : Int32) (x6 : Int32) (x7 : Int64) (x9 : Int32) (x10 : Int32) (σ : AH) (r : Option Value) (σ' : AH) : Prop := E X l m_X12_find D 28 [(0, .ref 124), (1, .int x1), (2, .int x2), (3, .int x3), (4, .int x4), (5, .int x5), (6, .int x6), (7, .long x7), (9, .int x9), (10, .int (x10 + 1))] [] σ r σ'
set_option maxRecDepth 100000 in
theorem w_X12_find_177 {X : Sx} {l : Launch} {D : Nat} {x1 : Int32} {x2 : Int32} {x3 : Int32} {x4 : Int32} {x5 : Int32} {x6 : Int32} {x7 : Int64} {x9 : Int32} {x10 : Int32} {σ : AH} {r : Option Value} {σ' : AH} (hs : Sh σ) (h : W_X12_find_177 X l D x1 x2 x3 x4 x5 x6 x7 x9 x10 σ r σ') : E X l m_X12_find D 177 [(0, .ref 124), (1, .int x1), (2, .int x2), (3, .int x3), (4, .int x4), (5, .int x5), (6, .int x6), (7, .long x7), (9, .int x9), (10, .int x10)] [] σ r σ' := by
  unfold W_X12_find_177 at h
  refine E_iinc 9 (x10 + 1) [(10, .int (x10 + 1)), (0, .ref 124), (1, .int x1), (2, .int x2), (3, .int x3), (4, .int x4), (5, .int x5), (6, .int x6), (7, .long x7), (9, .int x9)] dX12_find_177 rfl (congrArg (x10 + ·) (by decide : Int32.ofInt 1 = 1)) (by decide) rfl ?_
  refine E_goto 28 dX12_find_180 (by decide) ?_
  exact E_lv [1, 2, 3, 4, 5, 6, 7, 8, 9, 0] rfl h
def W_X12_find_162 (X : Sx) (l : Launch) (D : Nat) (x1 : Int32) (x2 : Int32) (x3 : Int32) (x4 : Int32) (x5 : Int32) (x6 : Int32) (x9 : Int32) (x10 : Int32) (y0 : Int64) (σ : AH) (r : Option Value) (σ' : AH) : Prop := W_X12_find_177 X l D x1 x2 x3 x4 x5 x6 y0 x9 x10 (sL σ 124 32 ((gL σ 124 32) + (gL σ 124 31))) r σ'
set_option maxRecDepth 100000 in
theorem w_X12_find_162 {X : Sx} {l : Launch} {D : Nat} {x1 : Int32} {x2 : Int32} {x3 : Int32} {x4 : Int32} {x5 : Int32} {x6 : Int32} {x9 : Int32} {x10 : Int32} {y0 : Int64} {σ : AH} {r : Option Value} {σ' : AH} (hs : Sh σ) (h : W_X12_find_162 X l D x1 x2 x3 x4 x5 x6 x9 x10 y0 σ r σ') : E X l m_X12_find D 162 [(0, .ref 124), (1, .int x1), (2, .int x2), (3, .int x3), (4, .int x4), (5, .int x5), (6, .int x6), (9, .int x9), (10, .int x10)] [.long y0] σ r σ' := by
  unfold W_X12_find_162 at h
  refine E_lstore [(7, .long y0), (0, .ref 124), (1, .int x1), (2, .int x2), (3, .int x3), (4, .int x4), (5, .int x5), (6, .int x6), (9, .int x9), (10, .int x10)] dX12_find_162 (by decide) rfl ?_
  refine E_aload_n 1 dX12_find_164 rfl rfl ?_
  refine E_dup dX12_find_165 rfl ?_
  refine E_getL dX12_find_166 fl_X12_433 rfl (sk_124 hs) (sn hs (by decide)) ?_
  refine E_aload_n 1 dX12_find_169 rfl rfl ?_
  refine E_getL dX12_find_170 fl_X12_430 rfl (sk_124 hs) (sn hs (by decide)) ?_
  refine E_ladd dX12_find_173 ?_
  refine E_putL dX12_find_174 fl_X12_433 rfl (Or.inl rfl) (sk_124 hs) (sn hs (by decide)) (Or.inl (by decide)) rfl rfl ?_
  exact E_lv [1, 2, 3, 4, 5, 6, 7, 0, 8, 9] rfl (w_X12_find_177 hs h)
def W_X12_find_116 (X : Sx) (l : Launch) (D : Nat) (x1 : Int32) (x2 : Int32) (x3 : Int32) (x4 : Int32) (x5 : Int32) (x6 : Int32) (x7 : Int64) (x9 : Int32) (x10 : Int32) (x11 : Int32) (y0 : Int32) (σ : AH) (r : Option Value) (σ' : AH) : Prop := (if y0 = 0 then W_X12_find_177 X l D x1 x2 x3 x4 x5 x6 x7 x9 x10 σ r σ' else ∃ d18 : Nat, ∃ v23 : Int32, ∃ σ19 : AH, d18 + 1 ≤ D ∧ Call X l m_X12_holds d18 [.ref 124, .int x9, .int x10, .int x5] σ (some (.int v23)) σ19 ∧ (if v23 = 0 then W_X12_find_177 X l D x1 x2 x3 x4 x5 x6 x7 x9 x10 σ19 r σ' else (if x1 = (8 : Int32) then vp_in (x11 + (1 : Int32)) 269832 ∧ W_X12_find_162 X l D x1 x2 x3 x4 x5 (1 : Int32) x9 x10 (((gI σ19 125 (x11 + (1 : Int32)).toNatClampNeg)).toInt64) σ19 r σ' else W_X12_find_162 X l D x1 x2 x3 x4 x5 (1 : Int32) x9 x10 (gL σ19 124 31) σ19 r σ')))
set_option maxRecDepth 100000 in
theorem w_X12_find_116 {X : Sx} {l : Launch} {D : Nat} {x1 : Int32} {x2 : Int32} {x3 : Int32} {x4 : Int32} {x5 : Int32} {x6 : Int32} {x7 : Int64} {x9 : Int32} {x10 : Int32} {x11 : Int32} {y0 : Int32} {σ : AH} {r : Option Value} {σ' : AH} (hs : Sh σ) (h : W_X12_find_116 X l D x1 x2 x3 x4 x5 x6 x7 x9 x10 x11 y0 σ r σ') : E X l m_X12_find D 116 [(0, .ref 124), (1, .int x1), (2, .int x2), (3, .int x3), (4, .int x4), (5, .int x5), (6, .int x6), (7, .long x7), (9, .int x9), (10, .int x10), (11, .int x11)] [.int y0] σ r σ' := by
  unfold W_X12_find_116 at h
  refine E_istore [(12, .int y0), (0, .ref 124), (1, .int x1), (2, .int x2), (3, .int x3), (4, .int x4), (5, .int x5), (6, .int x6), (7, .long x7), (9, .int x9), (10, .int x10), (11, .int x11)] dX12_find_116 (by decide) rfl ?_
  refine E_iload 0 dX12_find_118 rfl ?_
  refine E_if_eq 177 dX12_find_120 (by decide) (fun c => ?_) (fun c => ?_)
  · rw [if_pos c] at h
    exact E_lv [1, 2, 3, 4, 5, 6, 7, 8, 9, 10] rfl (w_X12_find_177 hs h)
  · rw [if_neg c] at h
    refine E_aload_n 1 dX12_find_123 rfl rfl ?_
    refine E_iload 9 dX12_find_124 rfl ?_
    refine E_iload 10 dX12_find_126 rfl ?_
    refine E_iload 6 dX12_find_128 rfl ?_
    obtain ⟨d18, v23, σ19, hD20, hC21, h⟩ := h
    have hs22 := hC21.1.2.2.2.1 hs
    refine E_callV (As := [.int x9, .int x10, .int x5]) (rest := []) (r1 := (some (.int v23))) (b := 124) dX12_find_130 ok_X12_holds in_X12_holds se_X12_holds ml_X12_436 hD20 rfl rfl (Nat.le_of_ble_eq_true rfl) (sk_124 hs) (sn hs (by decide)) (by decide) rfl (by decide +kernel) hC21 ?_
    refine E_if_eq 177 dX12_find_133 (by decide) (fun c => ?_) (fun c => ?_)
    · rw [if_pos c] at h
      exact E_lv [1, 2, 3, 4, 5, 6, 7, 8, 9, 10] rfl (w_X12_find_177 hs22 h)
    · rw [if_neg c] at h
      refine E_iconst (1 : Int32) dX12_find_136 (by decide) ?_
      refine E_istore [(6, .int (1 : Int32)), (12, .int y0), (0, .ref 124), (1, .int x1), (2, .int x2), (3, .int x3), (4, .int x4), (5, .int x5), (7, .long x7), (9, .int x9), (10, .int x10), (11, .int x11)] dX12_find_137 (by decide) rfl ?_
      refine E_iload_n 3 dX12_find_139 rfl rfl ?_
      refine E_bipush (8 : Int32) dX12_find_140 (by decide) ?_
      refine E_icmp_ne 158 dX12_find_142 (by decide) (fun c => ?_) (fun c => ?_)
      · rw [if_neg c] at h
        refine E_aload_n 2 dX12_find_158 rfl rfl ?_
        refine E_getL dX12_find_159 fl_X12_430 rfl (sk_124 hs22) (sn hs22 (by decide)) ?_
        exact E_lv [2, 3, 4, 5, 6, 7, 0, 9, 10] rfl (w_X12_find_162 hs22 h)
      · rw [if_pos c] at h
        refine E_aload_n 2 dX12_find_145 rfl rfl ?_
        refine E_getR 125 dX12_find_146 fl_X12_8 rfl (sk_124 hs22) (sn hs22 (by decide)) (sr_124_2 hs22) ?_
        refine E_iload 11 dX12_find_149 rfl ?_
        refine E_iconst (1 : Int32) dX12_find_151 (by decide) ?_
        refine E_iadd dX12_find_152 ?_
        obtain ⟨g24, h⟩ := h
        refine E_iald2 ((x11 + (1 : Int32)).toNatClampNeg) dX12_find_153 (sk_125 hs22) (sn hs22 (by decide)) g24 rfl ?_
        refine E_i2l dX12_find_154 ?_
        refine E_goto 162 dX12_find_155 (by decide) ?_
        exact E_lv [2, 3, 4, 5, 6, 7, 0, 9, 10] rfl (w_X12_find_162 hs22 h)
def W_X12_find_111 (X : Sx) (l : Launch) (D : Nat) (x1 : Int32) (x2 : Int32) (x3 : Int32) (x4 : Int32) (x5 : Int32) (x6 : Int32) (x7 : Int64) (x9 : Int32) (x10 : Int32) (x11 : Int32) (σ : AH) (r : Option Value) (σ' : AH) : Prop := W_X12_find_116 X l D x1 x2 x3 x4 x5 x6 x7 x9 x10 x11 (1 : Int32) σ r σ'
set_option maxRecDepth 100000 in
theorem w_X12_find_111 {X : Sx} {l : Launch} {D : Nat} {x1 : Int32} {x2 : Int32} {x3 : Int32} {x4 : Int32} {x5 : Int32} {x6 : Int32} {x7 : Int64} {x9 : Int32} {x10 : Int32} {x11 : Int32} {σ : AH} {r : Option Value} {σ' : AH} (hs : Sh σ) (h : W_X12_find_111 X l D x1 x2 x3 x4 x5 x6 x7 x9 x10 x11 σ r σ') : E X l m_X12_find D 111 [(0, .ref 124), (1, .int x1), (2, .int x2), (3, .int x3), (4, .int x4), (5, .int x5), (6, .int x6), (7, .long x7), (9, .int x9), (10, .int x10), (11, .int x11)] [] σ r σ' := by
  unfold W_X12_find_111 at h
  refine E_iconst (1 : Int32) dX12_find_111 (by decide) ?_
  refine E_goto 116 dX12_find_112 (by decide) ?_
  exact E_lv [0, 1, 2, 3, 4, 5, 6, 7, 8, 9, 10] rfl (w_X12_find_116 hs h)
def W_X12_find_115 (X : Sx) (l : Launch) (D : Nat) (x1 : Int32) (x2 : Int32) (x3 : Int32) (x4 : Int32) (x5 : Int32) (x6 : Int32) (x7 : Int64) (x9 : Int32) (x10 : Int32) (x11 : Int32) (σ : AH) (r : Option Value) (σ' : AH) : Prop := W_X12_find_116 X l D x1 x2 x3 x4 x5 x6 x7 x9 x10 x11 (0 : Int32) σ r σ'
set_option maxRecDepth 100000 in
theorem w_X12_find_115 {X : Sx} {l : Launch} {D : Nat} {x1 : Int32} {x2 : Int32} {x3 : Int32} {x4 : Int32} {x5 : Int32} {x6 : Int32} {x7 : Int64} {x9 : Int32} {x10 : Int32} {x11 : Int32} {σ : AH} {r : Option Value} {σ' : AH} (hs : Sh σ) (h : W_X12_find_115 X l D x1 x2 x3 x4 x5 x6 x7 x9 x10 x11 σ r σ') : E X l m_X12_find D 115 [(0, .ref 124), (1, .int x1), (2, .int x2), (3, .int x3), (4, .int x4), (5, .int x5), (6, .int x6), (7, .long x7), (9, .int x9), (10, .int x10), (11, .int x11)] [] σ r σ' := by
  unfold W_X12_find_115 at h
  refine E_iconst (0 : Int32) dX12_find_115 (by decide) ?_
  exact E_lv [0, 1, 2, 3, 4, 5, 6, 7, 8, 9, 10] rfl (w_X12_find_116 hs h)
def W_X12_find_28 (X : Sx) (l : Launch) (D : Nat) (x1 : Int32) (x2 : Int32) (x3 : Int32) (x4 : Int32) (x5 : Int32) (x6 : Int32) (x7 : Int64) (x9 : Int32) (x10 : Int32) (σ : AH) (r : Option Value) (σ' : AH) : Prop := ∃ d1 : Nat, ∃ v6 : Int32, ∃ σ2 : AH, d1 + 1 ≤ D ∧ Call X l m_X12_actAt d1 [.int x9] σ (some (.int v6)) σ2 ∧ vp_in (v6 + (2 : Int32)) 269832 ∧ (if (gI σ2 125 (v6 + (2 : Int32)).toNatClampNeg) ≤ x10 then E X l m_X12_find D 14 [(0, .ref 124), (1, .int x1), (2, .int x2), (3, .int x3), (4, .int x4), (5, .int x5), (6, .int x6), (7, .long x7), (9, .int (x9 + 1))] [] σ2 r σ' else ∃ d8 : Nat, ∃ v13 : Int32, ∃ σ9 : AH, d8 + 1 ≤ D ∧ Call X l m_X12_clauseAt d8 [.int x9, .int x10] σ2 (some (.int v13)) σ9 ∧ vp_in v13 269832 ∧ (if (gI σ9 125 v13.toNatClampNeg) = x1 then (if x1 = (8 : Int32) then W_X12_find_111 X l D x1 x2 x3 x4 x5 x6 x7 x9 x10 v13 σ9 r σ' else vp_in (v13 + (1 : Int32)) 269832 ∧ (if (gI σ9 125 (v13 + (1 : Int32)).toNatClampNeg) = x2 then vp_in (v13 + (2 : Int32)) 269832 ∧ (if (gI σ9 125 (v13 + (2 : Int32)).toNatClampNeg) = x3 then vp_in (v13 + (3 : Int32)) 269832 ∧ (if (gI σ9 125 (v13 + (3 : Int32)).toNatClampNeg) = x4 then W_X12_find_111 X l D x1 x2 x3 x4 x5 x6 x7 x9 x10 v13 σ9 r σ' else W_X12_find_115 X l D x1 x2 x3 x4 x5 x6 x7 x9 x10 v13 σ9 r σ') else W_X12_find_115 X l D x1 x2 x3 x4 x5 x6 x7 x9 x10 v13 σ9 r σ') else W_X12_find_115 X l D x1 x2 x3 x4 x5 x6 x7 x9 x10 v13 σ9 r σ')) else W_X12_find_115 X l D x1 x2 x3 x4 x5 x6 x7 x9 x10 v13 σ9 r σ'))
set_option maxRecDepth 100000 in
theorem w_X12_find_28 {X : Sx} {l : Launch} {D : Nat} {x1 : Int32} {x2 : Int32} {x3 : Int32} {x4 : Int32} {x5 : Int32} {x6 : Int32} {x7 : Int64} {x9 : Int32} {x10 : Int32} {σ : AH} {r : Option Value} {σ' : AH} (hs : Sh σ) (h : W_X12_find_28 X l D x1 x2 x3 x4 x5 x6 x7 x9 x10 σ r σ') : E X l m_X12_find D 28 [(0, .ref 124), (1, .int x1), (2, .int x2), (3, .int x3), (4, .int x4), (5, .int x5), (6, .int x6), (7, .long x7), (9, .int x9), (10, .int x10)] [] σ r σ' := by
  unfold W_X12_find_28 at h
  refine E_iload 9 dX12_find_28 rfl ?_
  refine E_aload_n 0 dX12_find_30 rfl rfl ?_
  refine E_getR 125 dX12_find_31 fl_X12_8 rfl (sk_124 hs) (sn hs (by decide)) (sr_124_2 hs) ?_
  refine E_iload 8 dX12_find_34 rfl ?_
  obtain ⟨d1, v6, σ2, hD3, hC4, h⟩ := h
  have hs5 := hC4.1.2.2.2.1 hs
  refine E_callS (As := [.int x9]) (rest := [.ref 125, .int x10]) (r1 := (some (.int v6))) dX12_find_36 ok_X12_actAt is_X12_actAt ml_X12_396 hD3 rfl rfl (Nat.le_of_ble_eq_true rfl) (by decide +kernel) hC4 ?_
  refine E_iconst (2 : Int32) dX12_find_39 (by decide) ?_
  refine E_iadd dX12_find_40 ?_
  obtain ⟨g7, h⟩ := h
  refine E_iald2 ((v6 + (2 : Int32)).toNatClampNeg) dX12_find_41 (sk_125 hs5) (sn hs5 (by decide)) g7 rfl ?_
  refine E_icmp_ge 183 dX12_find_42 (by decide) (fun c => ?_) (fun c => ?_)
  · rw [if_pos c] at h
    refine E_iinc 8 (x9 + 1) [(9, .int (x9 + 1)), (0, .ref 124), (1, .int x1), (2, .int x2), (3, .int x3), (4, .int x4), (5, .int x5), (6, .int x6), (7, .long x7), (10, .int x10)] dX12_find_183 rfl (congrArg (x9 + ·) (by decide : Int32.ofInt 1 = 1)) (by decide) rfl ?_
    refine E_goto 14 dX12_find_186 (by decide) ?_
    exact E_lv [1, 2, 3, 4, 5, 6, 7, 8, 0] rfl h
  · rw [if_neg c] at h
    refine E_iload 8 dX12_find_45 rfl ?_
    refine E_iload 9 dX12_find_47 rfl ?_
    obtain ⟨d8, v13, σ9, hD10, hC11, h⟩ := h
    have hs12 := hC11.1.2.2.2.1 hs5
    refine E_callS (As := [.int x9, .int x10]) (rest := []) (r1 := (some (.int v13))) dX12_find_49 ok_X12_clauseAt is_X12_clauseAt ml_X12_402 hD10 rfl rfl (Nat.le_of_ble_eq_true rfl) (by decide +kernel) hC11 ?_
    refine E_istore [(11, .int v13), (0, .ref 124), (1, .int x1), (2, .int x2), (3, .int x3), (4, .int x4), (5, .int x5), (6, .int x6), (7, .long x7), (9, .int x9), (10, .int x10)] dX12_find_52 (by decide) rfl ?_
    refine E_aload_n 1 dX12_find_54 rfl rfl ?_
    refine E_getR 125 dX12_find_55 fl_X12_8 rfl (sk_124 hs12) (sn hs12 (by decide)) (sr_124_2 hs12) ?_
    refine E_iload 0 dX12_find_58 rfl ?_
    obtain ⟨g14, h⟩ := h
    refine E_iald2 (v13.toNatClampNeg) dX12_find_60 (sk_125 hs12) (sn hs12 (by decide)) g14 rfl ?_
    refine E_iload_n 2 dX12_find_61 rfl rfl ?_
    refine E_icmp_ne 115 dX12_find_62 (by decide) (fun c => ?_) (fun c => ?_)
    · rw [if_neg c] at h
      exact E_lv [1, 2, 3, 4, 5, 6, 7, 8, 9, 10, 0] rfl (w_X12_find_115 hs12 h)
    · rw [if_pos c] at h
      refine E_iload_n 2 dX12_find_65 rfl rfl ?_
      refine E_bipush (8 : Int32) dX12_find_66 (by decide) ?_
      refine E_icmp_eq 111 dX12_find_68 (by decide) (fun c => ?_) (fun c => ?_)
      · rw [if_pos c] at h
        exact E_lv [1, 2, 3, 4, 5, 6, 7, 8, 9, 10, 0] rfl (w_X12_find_111 hs12 h)
      · rw [if_neg c] at h
        refine E_aload_n 1 dX12_find_71 rfl rfl ?_
        refine E_getR 125 dX12_find_72 fl_X12_8 rfl (sk_124 hs12) (sn hs12 (by decide)) (sr_124_2 hs12) ?_
        refine E_iload 0 dX12_find_75 rfl ?_
        refine E_iconst (1 : Int32) dX12_find_77 (by decide) ?_
        refine E_iadd dX12_find_78 ?_
        obtain ⟨g15, h⟩ := h
        refine E_iald2 ((v13 + (1 : Int32)).toNatClampNeg) dX12_find_79 (sk_125 hs12) (sn hs12 (by decide)) g15 rfl ?_
        refine E_iload_n 3 dX12_find_80 rfl rfl ?_
        refine E_icmp_ne 115 dX12_find_81 (by decide) (fun c => ?_) (fun c => ?_)
        · rw [if_neg c] at h
          exact E_lv [1, 2, 3, 4, 5, 6, 7, 8, 9, 10, 0] rfl (w_X12_find_115 hs12 h)
        · rw [if_pos c] at h
          refine E_aload_n 1 dX12_find_84 rfl rfl ?_
          refine E_getR 125 dX12_find_85 fl_X12_8 rfl (sk_124 hs12) (sn hs12 (by decide)) (sr_124_2 hs12) ?_
          refine E_iload 0 dX12_find_88 rfl ?_
          refine E_iconst (2 : Int32) dX12_find_90 (by decide) ?_
          refine E_iadd dX12_find_91 ?_
          obtain ⟨g16, h⟩ := h
          refine E_iald2 ((v13 + (2 : Int32)).toNatClampNeg) dX12_find_92 (sk_125 hs12) (sn hs12 (by decide)) g16 rfl ?_
          refine E_iload_n 4 dX12_find_93 rfl rfl ?_
          refine E_icmp_ne 115 dX12_find_94 (by decide) (fun c => ?_) (fun c => ?_)
          · rw [if_neg c] at h
            exact E_lv [1, 2, 3, 4, 5, 6, 7, 8, 9, 10, 0] rfl (w_X12_find_115 hs12 h)
          · rw [if_pos c] at h
            refine E_aload_n 1 dX12_find_97 rfl rfl ?_
            refine E_getR 125 dX12_find_98 fl_X12_8 rfl (sk_124 hs12) (sn hs12 (by decide)) (sr_124_2 hs12) ?_
            refine E_iload 0 dX12_find_101 rfl ?_
            refine E_iconst (3 : Int32) dX12_find_103 (by decide) ?_
            refine E_iadd dX12_find_104 ?_
            obtain ⟨g17, h⟩ := h
            refine E_iald2 ((v13 + (3 : Int32)).toNatClampNeg) dX12_find_105 (sk_125 hs12) (sn hs12 (by decide)) g17 rfl ?_
            refine E_iload 5 dX12_find_106 rfl ?_
            refine E_icmp_ne 115 dX12_find_108 (by decide) (fun c => ?_) (fun c => ?_)
            · rw [if_neg c] at h
              exact E_lv [1, 2, 3, 4, 5, 6, 7, 8, 9, 10, 0] rfl (w_X12_find_115 hs12 h)
            · rw [if_pos c] at h
              exact E_lv [1, 2, 3, 4, 5, 6, 7, 8, 9, 10, 0] rfl (w_X12_find_111 hs12 h)
def W_X12_atLeastNought_0 (X : Sx) (l : Launch) (D : Nat) (σ : AH) (r : Option Value) (σ' : AH) : Prop := (if (0 : Int64) ≤ (gL σ 124 31) then (r = some (.int ((gL σ 124 31)).toInt32) ∧ σ' = σ) else (r = some (.int (0 : Int32)) ∧ σ' = σ))
set_option maxRecDepth 100000 in
theorem w_X12_atLeastNought_0 {X : Sx} {l : Launch} {D : Nat} {σ : AH} {r : Option Value} {σ' : AH} (hs : Sh σ) (h : W_X12_atLeastNought_0 X l D σ r σ') : E X l m_X12_atLeastNought D 0 [(0, .ref 124)] [] σ r σ' := by
  unfold W_X12_atLeastNought_0 at h
  refine E_aload_n 0 dX12_atLeastNought_0 rfl rfl ?_
  refine E_getL dX12_atLeastNought_1 fl_X12_430 rfl (sk_124 hs) (sn hs (by decide)) ?_
  refine E_lconst (0 : Int64) dX12_atLeastNought_4 (by decide) ?_
  refine E_lcmp dX12_atLeastNought_5 ?_
  refine E_if_ge 13 dX12_atLeastNought_6 (by decide) (fun c => ?_) (fun c => ?_)
  · rw [if_pos ((lc_ge _ _).mp c)] at h
    refine E_aload_n 0 dX12_atLeastNought_13 rfl rfl ?_
    refine E_getL dX12_atLeastNought_14 fl_X12_430 rfl (sk_124 hs) (sn hs (by decide)) ?_
    refine E_l2i dX12_atLeastNought_17 ?_
    obtain ⟨rfl, rfl⟩ := h
    exact E_iret dX12_atLeastNought_18 rfl
  · rw [if_neg (fun q => c ((lc_ge _ _).mpr q))] at h
    refine E_iconst (0 : Int32) dX12_atLeastNought_9 (by decide) ?_
    refine E_goto 18 dX12_atLeastNought_10 (by decide) ?_
    obtain ⟨rfl, rfl⟩ := h
    exact E_iret dX12_atLeastNought_18 rfl
def W_X12_counts_90 (X : Sx) (l : Launch) (D : Nat) (x2 : Int32) (y0 : Int32) (y1 : Int32) (σ : AH) (r : Option Value) (σ' : AH) : Prop := ∃ d29 : Nat, ∃ v34 : Int32, ∃ σ30 : AH, d29 + 1 ≤ D ∧ Call X l m_X12_find d29 [.ref 124, .int y1, .int y0, .int (0 : Int32), .int (0 : Int32), .int x2] σ (some (.int v34)) σ30 ∧ (if v34 = 0 then (r = some (.int (-1 : Int32)) ∧ σ' = σ30) else ∃ d35 : Nat, ∃ v40 : Int32, ∃ σ36 : AH, d35 + 1 ≤ D ∧ Call X l m_X12_atLeastNought d35 [.ref 124] σ30 (some (.int v40)) σ36 ∧ (r = some (.int v40) ∧ σ' = σ36))
set_option maxRecDepth 100000 in
theorem w_X12_counts_90 {X : Sx} {l : Launch} {D : Nat} {x2 : Int32} {y0 : Int32} {y1 : Int32} {σ : AH} {r : Option Value} {σ' : AH} (hs : Sh σ) (h : W_X12_counts_90 X l D x2 y0 y1 σ r σ') : E X l m_X12_counts D 90 [(0, .ref 124), (2, .int x2)] [.int y0, .int y1, .ref 124] σ r σ' := by
  unfold W_X12_counts_90 at h
  refine E_iconst (0 : Int32) dX12_counts_90 (by decide) ?_
  refine E_iconst (0 : Int32) dX12_counts_91 (by decide) ?_
  refine E_iload_n 1 dX12_counts_92 rfl rfl ?_
  obtain ⟨d29, v34, σ30, hD31, hC32, h⟩ := h
  have hs33 := hC32.1.2.2.2.1 hs
  refine E_callV (As := [.int y1, .int y0, .int (0 : Int32), .int (0 : Int32), .int x2]) (rest := []) (r1 := (some (.int v34))) (b := 124) dX12_counts_93 ok_X12_find in_X12_find se_X12_find ml_X12_443 hD31 rfl rfl (Nat.le_of_ble_eq_true rfl) (sk_124 hs) (sn hs (by decide)) (by decide) rfl (by decide +kernel) hC32 ?_
  refine E_if_eq 106 dX12_counts_96 (by decide) (fun c => ?_) (fun c => ?_)
  · rw [if_pos c] at h
    refine E_iconst (-1 : Int32) dX12_counts_106 (by decide) ?_
    obtain ⟨rfl, rfl⟩ := h
    exact E_iret dX12_counts_107 rfl
  · rw [if_neg c] at h
    refine E_aload_n 0 dX12_counts_99 rfl rfl ?_
    obtain ⟨d35, v40, σ36, hD37, hC38, h⟩ := h
    have hs39 := hC38.1.2.2.2.1 hs33
    refine E_callV (As := []) (rest := []) (r1 := (some (.int v40))) (b := 124) dX12_counts_100 ok_X12_atLeastNought in_X12_atLeastNought se_X12_atLeastNought ml_X12_447 hD37 rfl rfl (Nat.le_of_ble_eq_true rfl) (sk_124 hs33) (sn hs33 (by decide)) (by decide) rfl (by decide +kernel) hC38 ?_
    refine E_goto 107 dX12_counts_103 (by decide) ?_
    obtain ⟨rfl, rfl⟩ := h
    exact E_iret dX12_counts_107 rfl
def W_X12_counts_75 (X : Sx) (l : Launch) (D : Nat) (x1 : Int32) (x2 : Int32) (y0 : Int32) (σ : AH) (r : Option Value) (σ' : AH) : Prop := (if (3 : Int32) ≤ x1 then W_X12_counts_90 X l D x2 (0 : Int32) y0 σ r σ' else W_X12_counts_90 X l D x2 x1 y0 σ r σ')
set_option maxRecDepth 100000 in
theorem w_X12_counts_75 {X : Sx} {l : Launch} {D : Nat} {x1 : Int32} {x2 : Int32} {y0 : Int32} {σ : AH} {r : Option Value} {σ' : AH} (hs : Sh σ) (h : W_X12_counts_75 X l D x1 x2 y0 σ r σ') : E X l m_X12_counts D 75 [(0, .ref 124), (1, .int x1), (2, .int x2)] [.int y0] σ r σ' := by
  unfold W_X12_counts_75 at h
  refine E_istore [(4, .int y0), (0, .ref 124), (1, .int x1), (2, .int x2)] dX12_counts_75 (by decide) rfl ?_
  refine E_aload_n 1 dX12_counts_77 rfl rfl ?_
  refine E_iload 0 dX12_counts_78 rfl ?_
  refine E_iload_n 2 dX12_counts_80 rfl rfl ?_
  refine E_iconst (3 : Int32) dX12_counts_81 (by decide) ?_
  refine E_icmp_ge 89 dX12_counts_82 (by decide) (fun c => ?_) (fun c => ?_)
  · rw [if_pos c] at h
    refine E_iconst (0 : Int32) dX12_counts_89 (by decide) ?_
    exact E_lv [1, 3] rfl (w_X12_counts_90 hs h)
  · rw [if_neg c] at h
    refine E_iload_n 2 dX12_counts_85 rfl rfl ?_
    refine E_goto 90 dX12_counts_86 (by decide) ?_
    exact E_lv [1, 3] rfl (w_X12_counts_90 hs h)
def W_X12_counts_0 (X : Sx) (l : Launch) (D : Nat) (x1 : Int32) (x2 : Int32) (x3 : Int32) (σ : AH) (r : Option Value) (σ' : AH) : Prop := ∃ d1 : Nat, ∃ v6 : Int32, ∃ σ2 : AH, d1 + 1 ≤ D ∧ Call X l m_X12_in d1 [.long (x1).toInt64, .long (0 : Int64), .long (5 : Int64)] (sI σ 124 0 (0 : Int32)) (some (.int v6)) σ2 ∧ (if v6 = 0 then (r = some (.int (-1 : Int32)) ∧ σ' = σ2) else ∃ d7 : Nat, ∃ v12 : Int32, ∃ σ8 : AH, d7 + 1 ≤ D ∧ Call X l m_X12_isWeek d7 [.int x2] σ2 (some (.int v12)) σ8 ∧ (if v12 = 0 then (r = some (.int (-1 : Int32)) ∧ σ' = σ8) else ∃ d13 : Nat, ∃ v18 : Int32, ∃ σ14 : AH, d13 + 1 ≤ D ∧ Call X l m_X12_isWeek d13 [.int x3] σ8 (some (.int v18)) σ14 ∧ (if v18 = 0 then (r = some (.int (-1 : Int32)) ∧ σ' = σ14) else ∃ d19 : Nat, ∃ σ20 : AH, d19 + 1 ≤ D ∧ Call X l m_X12_knowBy d19 [.ref 124, .int x3] σ14 none σ20 ∧ ∃ d24 : Nat, ∃ σ25 : AH, d24 + 1 ≤ D ∧ Call X l m_X12_setOnly d24 [.ref 124, .int (0 : Int32), .int x2] σ20 none σ25 ∧ (if (3 : Int32) ≤ x1 then (if x1 = (3 : Int32) then W_X12_counts_75 X l D x1 x2 (6 : Int32) σ25 r σ' else (if x1 = (4 : Int32) then W_X12_counts_75 X l D x1 x2 (7 : Int32) σ25 r σ' else W_X12_counts_75 X l D x1 x2 (8 : Int32) σ25 r σ')) else W_X12_counts_75 X l D x1 x2 (4 : Int32) σ25 r σ'))))
set_option maxRecDepth 100000 in
theorem w_X12_counts_0 {X : Sx} {l : Launch} {D : Nat} {x1 : Int32} {x2 : Int32} {x3 : Int32} {σ : AH} {r : Option Value} {σ' : AH} (hs : Sh σ) (h : W_X12_counts_0 X l D x1 x2 x3 σ r σ') : E X l m_X12_counts D 0 [(0, .ref 124), (1, .int x1), (2, .int x2), (3, .int x3)] [] σ r σ' := by
  unfold W_X12_counts_0 at h
  refine E_aload_n 0 dX12_counts_0 rfl rfl ?_
  refine E_iconst (0 : Int32) dX12_counts_1 (by decide) ?_
  refine E_putI dX12_counts_2 fl_X12_145 rfl (Or.inl rfl) (sk_124 hs) (sn hs (by decide)) (Or.inl (by decide)) rfl rfl ?_
  refine E_iload_n 1 dX12_counts_5 rfl rfl ?_
  refine E_i2l dX12_counts_6 ?_
  refine E_lconst (0 : Int64) dX12_counts_7 (by decide) ?_
  refine E_ldc2 (5 : Int64) dX12_counts_8 cl_X12_157 ?_
  obtain ⟨d1, v6, σ2, hD3, hC4, h⟩ := h
  have hs5 := hC4.1.2.2.2.1 hs
  refine E_callS (As := [.long (x1).toInt64, .long (0 : Int64), .long (5 : Int64)]) (rest := []) (r1 := (some (.int v6))) dX12_counts_11 ok_X12_in is_X12_in ml_X12_153 hD3 rfl rfl (Nat.le_of_ble_eq_true rfl) (by decide +kernel) hC4 ?_
  refine E_if_eq 31 dX12_counts_14 (by decide) (fun c => ?_) (fun c => ?_)
  · rw [if_pos c] at h
    refine E_iconst (-1 : Int32) dX12_counts_31 (by decide) ?_
    obtain ⟨rfl, rfl⟩ := h
    exact E_iret dX12_counts_32 rfl
  · rw [if_neg c] at h
    refine E_iload_n 2 dX12_counts_17 rfl rfl ?_
    obtain ⟨d7, v12, σ8, hD9, hC10, h⟩ := h
    have hs11 := hC10.1.2.2.2.1 hs5
    refine E_callS (As := [.int x2]) (rest := []) (r1 := (some (.int v12))) dX12_counts_18 ok_X12_isWeek is_X12_isWeek ml_X12_387 hD9 rfl rfl (Nat.le_of_ble_eq_true rfl) (by decide +kernel) hC10 ?_
    refine E_if_eq 31 dX12_counts_21 (by decide) (fun c => ?_) (fun c => ?_)
    · rw [if_pos c] at h
      refine E_iconst (-1 : Int32) dX12_counts_31 (by decide) ?_
      obtain ⟨rfl, rfl⟩ := h
      exact E_iret dX12_counts_32 rfl
    · rw [if_neg c] at h
      refine E_iload_n 3 dX12_counts_24 rfl rfl ?_
      obtain ⟨d13, v18, σ14, hD15, hC16, h⟩ := h
      have hs17 := hC16.1.2.2.2.1 hs11
      refine E_callS (As := [.int x3]) (rest := []) (r1 := (some (.int v18))) dX12_counts_25 ok_X12_isWeek is_X12_isWeek ml_X12_387 hD15 rfl rfl (Nat.le_of_ble_eq_true rfl) (by decide +kernel) hC16 ?_
      refine E_if_ne 33 dX12_counts_28 (by decide) (fun c => ?_) (fun c => ?_)
      · rw [if_neg c] at h
        refine E_aload_n 0 dX12_counts_33 rfl rfl ?_
        refine E_iload_n 3 dX12_counts_34 rfl rfl ?_
        obtain ⟨d19, σ20, hD21, hC22, h⟩ := h
        have hs23 := hC22.1.2.2.2.1 hs17
        refine E_callV (As := [.int x3]) (rest := []) (r1 := none) (b := 124) dX12_counts_35 ok_X12_knowBy in_X12_knowBy se_X12_knowBy ml_X12_406 hD21 rfl rfl (Nat.le_of_ble_eq_true rfl) (sk_124 hs17) (sn hs17 (by decide)) (by decide) rfl (by decide +kernel) hC22 ?_
        refine E_aload_n 0 dX12_counts_38 rfl rfl ?_
        refine E_iconst (0 : Int32) dX12_counts_39 (by decide) ?_
        refine E_iload_n 2 dX12_counts_40 rfl rfl ?_
        obtain ⟨d24, σ25, hD26, hC27, h⟩ := h
        have hs28 := hC27.1.2.2.2.1 hs23
        refine E_callV (As := [.int (0 : Int32), .int x2]) (rest := []) (r1 := none) (b := 124) dX12_counts_41 ok_X12_setOnly in_X12_setOnly se_X12_setOnly ml_X12_440 hD26 rfl rfl (Nat.le_of_ble_eq_true rfl) (sk_124 hs23) (sn hs23 (by decide)) (by decide) rfl (by decide +kernel) hC27 ?_
        refine E_iload_n 1 dX12_counts_44 rfl rfl ?_
        refine E_iconst (3 : Int32) dX12_counts_45 (by decide) ?_
        refine E_icmp_ge 53 dX12_counts_46 (by decide) (fun c => ?_) (fun c => ?_)
        · rw [if_pos c] at h
          refine E_iload_n 1 dX12_counts_53 rfl rfl ?_
          refine E_iconst (3 : Int32) dX12_counts_54 (by decide) ?_
          refine E_icmp_ne 63 dX12_counts_55 (by decide) (fun c => ?_) (fun c => ?_)
          · rw [if_neg c] at h
            refine E_iload_n 1 dX12_counts_63 rfl rfl ?_
            refine E_iconst (4 : Int32) dX12_counts_64 (by decide) ?_
            refine E_icmp_ne 73 dX12_counts_65 (by decide) (fun c => ?_) (fun c => ?_)
            · rw [if_neg c] at h
              refine E_bipush (8 : Int32) dX12_counts_73 (by decide) ?_
              exact E_lv [0, 1, 2] rfl (w_X12_counts_75 hs28 h)
            · rw [if_pos c] at h
              refine E_bipush (7 : Int32) dX12_counts_68 (by decide) ?_
              refine E_goto 75 dX12_counts_70 (by decide) ?_
              exact E_lv [0, 1, 2] rfl (w_X12_counts_75 hs28 h)
          · rw [if_pos c] at h
            refine E_bipush (6 : Int32) dX12_counts_58 (by decide) ?_
            refine E_goto 75 dX12_counts_60 (by decide) ?_
            exact E_lv [0, 1, 2] rfl (w_X12_counts_75 hs28 h)
        · rw [if_neg c] at h
          refine E_iconst (4 : Int32) dX12_counts_49 (by decide) ?_
          refine E_goto 75 dX12_counts_50 (by decide) ?_
          exact E_lv [0, 1, 2] rfl (w_X12_counts_75 hs28 h)
      · rw [if_pos c] at h
        refine E_iconst (-1 : Int32) dX12_counts_31 (by decide) ?_
        obtain ⟨rfl, rfl⟩ := h
        exact E_iret dX12_counts_32 rfl
def W_X12_needOf_95 (X : Sx) (l : Launch) (D : Nat) (x6 : Int32) (σ : AH) (r : Option Value) (σ' : AH) : Prop := vp_in x6 84240 ∧ (r = some (.int (gI σ 138 x6.toNatClampNeg)) ∧ σ' = σ)
set_option maxRecDepth 100000 in
theorem w_X12_needOf_95 {X : Sx} {l : Launch} {D : Nat} {x6 : Int32} {σ : AH} {r : Option Value} {σ' : AH} (hs : Sh σ) (h : W_X12_needOf_95 X l D x6 σ r σ') : E X l m_X12_needOf D 95 [(0, .ref 124), (6, .int x6)] [] σ r σ' := by
  unfold W_X12_needOf_95 at h
  refine E_aload_n 0 dX12_needOf_95 rfl rfl ?_
  refine E_getR 138 dX12_needOf_96 fl_X12_61 rfl (sk_124 hs) (sn hs (by decide)) (sr_124_33 hs) ?_
  refine E_iload 1 dX12_needOf_99 rfl ?_
  obtain ⟨g19, h⟩ := h
  refine E_iald2 (x6.toNatClampNeg) dX12_needOf_101 (sk_138 hs) (sn hs (by decide)) g19 rfl ?_
  obtain ⟨rfl, rfl⟩ := h
  exact E_iret dX12_needOf_102 rfl
def W_X12_needOf_94 (X : Sx) (l : Launch) (D : Nat) (x6 : Int32) (y0 : Int32) (y1 : Int32) (σ : AH) (r : Option Value) (σ' : AH) : Prop := vp_in y1 84240 ∧ W_X12_needOf_95 X l D x6 (sI σ 138 y1.toNatClampNeg y0) r σ'
set_option maxRecDepth 100000 in
theorem w_X12_needOf_94 {X : Sx} {l : Launch} {D : Nat} {x6 : Int32} {y0 : Int32} {y1 : Int32} {σ : AH} {r : Option Value} {σ' : AH} (hs : Sh σ) (h : W_X12_needOf_94 X l D x6 y0 y1 σ r σ') : E X l m_X12_needOf D 94 [(0, .ref 124), (6, .int x6)] [.int y0, .int y1, .ref 138] σ r σ' := by
  unfold W_X12_needOf_94 at h
  obtain ⟨g26, h⟩ := h
  refine E_iast2 (y1.toNatClampNeg) dX12_needOf_94 (sk_138 hs) (sn hs (by decide)) (Or.inl (by decide)) g26 rfl ?_
  exact E_lv [0, 1] rfl (w_X12_needOf_95 hs h)
def W_X12_needOf_73 (X : Sx) (l : Launch) (D : Nat) (x6 : Int32) (y0 : Int32) (σ : AH) (r : Option Value) (σ' : AH) : Prop := (if y0 = 0 then W_X12_needOf_94 X l D x6 (0 : Int32) x6 σ r σ' else ∃ d20 : Nat, ∃ v25 : Int32, ∃ σ21 : AH, d20 + 1 ≤ D ∧ Call X l m_X12_atLeastNought d20 [.ref 124] σ (some (.int v25)) σ21 ∧ W_X12_needOf_94 X l D x6 v25 x6 σ21 r σ')
set_option maxRecDepth 100000 in
theorem w_X12_needOf_73 {X : Sx} {l : Launch} {D : Nat} {x6 : Int32} {y0 : Int32} {σ : AH} {r : Option Value} {σ' : AH} (hs : Sh σ) (h : W_X12_needOf_73 X l D x6 y0 σ r σ') : E X l m_X12_needOf D 73 [(0, .ref 124), (6, .int x6)] [.int y0] σ r σ' := by
  unfold W_X12_needOf_73 at h
  refine E_istore [(7, .int y0), (0, .ref 124), (6, .int x6)] dX12_needOf_73 (by decide) rfl ?_
  refine E_aload_n 1 dX12_needOf_75 rfl rfl ?_
  refine E_getR 138 dX12_needOf_76 fl_X12_61 rfl (sk_124 hs) (sn hs (by decide)) (sr_124_33 hs) ?_
  refine E_iload 2 dX12_needOf_79 rfl ?_
  refine E_iload 0 dX12_needOf_81 rfl ?_
  refine E_if_eq 93 dX12_needOf_83 (by decide) (fun c => ?_) (fun c => ?_)
  · rw [if_pos c] at h
    refine E_iconst (0 : Int32) dX12_needOf_93 (by decide) ?_
    exact E_lv [1, 2] rfl (w_X12_needOf_94 hs h)
  · rw [if_neg c] at h
    refine E_aload_n 1 dX12_needOf_86 rfl rfl ?_
    obtain ⟨d20, v25, σ21, hD22, hC23, h⟩ := h
    have hs24 := hC23.1.2.2.2.1 hs
    refine E_callV (As := []) (rest := [.int x6, .ref 138]) (r1 := (some (.int v25))) (b := 124) dX12_needOf_87 ok_X12_atLeastNought in_X12_atLeastNought se_X12_atLeastNought ml_X12_447 hD22 rfl rfl (Nat.le_of_ble_eq_true rfl) (sk_124 hs) (sn hs (by decide)) (by decide) rfl (by decide +kernel) hC23 ?_
    refine E_goto 94 dX12_needOf_90 (by decide) ?_
    exact E_lv [1, 2] rfl (w_X12_needOf_94 hs24 h)
def W_X12_needOf_0 (X : Sx) (l : Launch) (D : Nat) (x1 : Int32) (x2 : Int32) (x3 : Int32) (x4 : Int32) (x5 : Int32) (σ : AH) (r : Option Value) (σ' : AH) : Prop := vp_in (((((((((x5 * (3 : Int32)) + x1) * (3 : Int32)) + x2) * (6 : Int32)) + x3) * (6 : Int32)) + x4) - (1 : Int32)) 84240 ∧ (if (gI σ 138 (((((((((x5 * (3 : Int32)) + x1) * (3 : Int32)) + x2) * (6 : Int32)) + x3) * (6 : Int32)) + x4) - (1 : Int32)).toNatClampNeg) = (-2 : Int32) then ∃ d2 : Nat, ∃ σ3 : AH, d2 + 1 ≤ D ∧ Call X l m_X12_setOnly d2 [.ref 124, .int x4, .int x5] σ none σ3 ∧ (if (5 : Int32) ≤ x3 then ∃ d7 : Nat, ∃ v12 : Int32, ∃ σ8 : AH, d7 + 1 ≤ D ∧ Call X l m_X12_find d7 [.ref 124, .int (2 : Int32), .int x1, .int x2, .int (0 : Int32), .int x5] σ3 (some (.int v12)) σ8 ∧ W_X12_needOf_73 X l D (((((((((x5 * (3 : Int32)) + x1) * (3 : Int32)) + x2) * (6 : Int32)) + x3) * (6 : Int32)) + x4) - (1 : Int32)) v12 σ8 r σ' else ∃ d13 : Nat, ∃ v18 : Int32, ∃ σ14 : AH, d13 + 1 ≤ D ∧ Call X l m_X12_find d13 [.ref 124, .int (1 : Int32), .int x1, .int x2, .int x3, .int x5] σ3 (some (.int v18)) σ14 ∧ W_X12_needOf_73 X l D (((((((((x5 * (3 : Int32)) + x1) * (3 : Int32)) + x2) * (6 : Int32)) + x3) * (6 : Int32)) + x4) - (1 : Int32)) v18 σ14 r σ') else W_X12_needOf_95 X l D (((((((((x5 * (3 : Int32)) + x1) * (3 : Int32)) + x2) * (6 : Int32)) + x3) * (6 : Int32)) + x4) - (1 : Int32)) σ r σ')
set_option maxRecDepth 100000 in
theorem w_X12_needOf_0 {X : Sx} {l : Launch} {D : Nat} {x1 : Int32} {x2 : Int32} {x3 : Int32} {x4 : Int32} {x5 : Int32} {σ : AH} {r : Option Value} {σ' : AH} (hs : Sh σ) (h : W_X12_needOf_0 X l D x1 x2 x3 x4 x5 σ r σ') : E X l m_X12_needOf D 0 [(0, .ref 124), (1, .int x1), (2, .int x2), (3, .int x3), (4, .int x4), (5, .int x5)] [] σ r σ' := by
  unfold W_X12_needOf_0 at h
  refine E_iload 5 dX12_needOf_0 rfl ?_
  refine E_iconst (3 : Int32) dX12_needOf_2 (by decide) ?_
  refine E_imul dX12_needOf_3 ?_
  refine E_iload_n 1 dX12_needOf_4 rfl rfl ?_
  refine E_iadd dX12_needOf_5 ?_
  refine E_iconst (3 : Int32) dX12_needOf_6 (by decide) ?_
  refine E_imul dX12_needOf_7 ?_
  refine E_iload_n 2 dX12_needOf_8 rfl rfl ?_
  refine E_iadd dX12_needOf_9 ?_
  refine E_bipush (6 : Int32) dX12_needOf_10 (by decide) ?_
  refine E_imul dX12_needOf_12 ?_
  refine E_iload_n 3 dX12_needOf_13 rfl rfl ?_
  refine E_iadd dX12_needOf_14 ?_
  refine E_bipush (6 : Int32) dX12_needOf_15 (by decide) ?_
  refine E_imul dX12_needOf_17 ?_
  refine E_iload 4 dX12_needOf_18 rfl ?_
  refine E_iadd dX12_needOf_20 ?_
  refine E_iconst (1 : Int32) dX12_needOf_21 (by decide) ?_
  refine E_isub dX12_needOf_22 ?_
  refine E_istore [(6, .int (((((((((x5 * (3 : Int32)) + x1) * (3 : Int32)) + x2) * (6 : Int32)) + x3) * (6 : Int32)) + x4) - (1 : Int32))), (0, .ref 124), (1, .int x1), (2, .int x2), (3, .int x3), (4, .int x4), (5, .int x5)] dX12_needOf_23 (by decide) rfl ?_
  refine E_aload_n 1 dX12_needOf_25 rfl rfl ?_
  refine E_getR 138 dX12_needOf_26 fl_X12_61 rfl (sk_124 hs) (sn hs (by decide)) (sr_124_33 hs) ?_
  refine E_iload 0 dX12_needOf_29 rfl ?_
  obtain ⟨g1, h⟩ := h
  refine E_iald2 ((((((((((x5 * (3 : Int32)) + x1) * (3 : Int32)) + x2) * (6 : Int32)) + x3) * (6 : Int32)) + x4) - (1 : Int32)).toNatClampNeg) dX12_needOf_31 (sk_138 hs) (sn hs (by decide)) g1 rfl ?_
  refine E_bipush (-2 : Int32) dX12_needOf_32 (by decide) ?_
  refine E_icmp_ne 95 dX12_needOf_34 (by decide) (fun c => ?_) (fun c => ?_)
  · rw [if_neg c] at h
    exact E_lv [1, 0] rfl (w_X12_needOf_95 hs h)
  · rw [if_pos c] at h
    refine E_aload_n 1 dX12_needOf_37 rfl rfl ?_
    refine E_iload 5 dX12_needOf_38 rfl ?_
    refine E_iload 6 dX12_needOf_40 rfl ?_
    obtain ⟨d2, σ3, hD4, hC5, h⟩ := h
    have hs6 := hC5.1.2.2.2.1 hs
    refine E_callV (As := [.int x4, .int x5]) (rest := []) (r1 := none) (b := 124) dX12_needOf_42 ok_X12_setOnly in_X12_setOnly se_X12_setOnly ml_X12_440 hD4 rfl rfl (Nat.le_of_ble_eq_true rfl) (sk_124 hs) (sn hs (by decide)) (by decide) rfl (by decide +kernel) hC5 ?_
    refine E_iload_n 4 dX12_needOf_45 rfl rfl ?_
    refine E_iconst (5 : Int32) dX12_needOf_46 (by decide) ?_
    refine E_icmp_ge 63 dX12_needOf_47 (by decide) (fun c => ?_) (fun c => ?_)
    · rw [if_pos c] at h
      refine E_aload_n 1 dX12_needOf_63 rfl rfl ?_
      refine E_iconst (2 : Int32) dX12_needOf_64 (by decide) ?_
      refine E_iload_n 2 dX12_needOf_65 rfl rfl ?_
      refine E_iload_n 3 dX12_needOf_66 rfl rfl ?_
      refine E_iconst (0 : Int32) dX12_needOf_67 (by decide) ?_
      refine E_iload 6 dX12_needOf_68 rfl ?_
      obtain ⟨d7, v12, σ8, hD9, hC10, h⟩ := h
      have hs11 := hC10.1.2.2.2.1 hs6
      refine E_callV (As := [.int (2 : Int32), .int x1, .int x2, .int (0 : Int32), .int x5]) (rest := []) (r1 := (some (.int v12))) (b := 124) dX12_needOf_70 ok_X12_find in_X12_find se_X12_find ml_X12_443 hD9 rfl rfl (Nat.le_of_ble_eq_true rfl) (sk_124 hs6) (sn hs6 (by decide)) (by decide) rfl (by decide +kernel) hC10 ?_
      exact E_lv [1, 0] rfl (w_X12_needOf_73 hs11 h)
    · rw [if_neg c] at h
      refine E_aload_n 1 dX12_needOf_50 rfl rfl ?_
      refine E_iconst (1 : Int32) dX12_needOf_51 (by decide) ?_
      refine E_iload_n 2 dX12_needOf_52 rfl rfl ?_
      refine E_iload_n 3 dX12_needOf_53 rfl rfl ?_
      refine E_iload_n 4 dX12_needOf_54 rfl rfl ?_
      refine E_iload 6 dX12_needOf_55 rfl ?_
      obtain ⟨d13, v18, σ14, hD15, hC16, h⟩ := h
      have hs17 := hC16.1.2.2.2.1 hs6
      refine E_callV (As := [.int (1 : Int32), .int x1, .int x2, .int x3, .int x5]) (rest := []) (r1 := (some (.int v18))) (b := 124) dX12_needOf_57 ok_X12_find in_X12_find se_X12_find ml_X12_443 hD15 rfl rfl (Nat.le_of_ble_eq_true rfl) (sk_124 hs6) (sn hs6 (by decide)) (by decide) rfl (by decide +kernel) hC16 ?_
      refine E_goto 73 dX12_needOf_60 (by decide) ?_
      exact E_lv [1, 0] rfl (w_X12_needOf_73 hs17 h)
def W_X12_firstOf_45 (X : Sx) (l : Launch) (D : Nat) (x1 : Int32) (σ : AH) (r : Option Value) (σ' : AH) : Prop := vp_in x1 260 ∧ (r = some (.int (gI σ 139 x1.toNatClampNeg)) ∧ σ' = σ)
set_option maxRecDepth 100000 in
theorem w_X12_firstOf_45 {X : Sx} {l : Launch} {D : Nat} {x1 : Int32} {σ : AH} {r : Option Value} {σ' : AH} (hs : Sh σ) (h : W_X12_firstOf_45 X l D x1 σ r σ') : E X l m_X12_firstOf D 45 [(0, .ref 124), (1, .int x1)] [] σ r σ' := by
  unfold W_X12_firstOf_45 at h
  refine E_aload_n 0 dX12_firstOf_45 rfl rfl ?_
  refine E_getR 139 dX12_firstOf_46 fl_X12_64 rfl (sk_124 hs) (sn hs (by decide)) (sr_124_34 hs) ?_
  refine E_iload_n 1 dX12_firstOf_49 rfl rfl ?_
  obtain ⟨g13, h⟩ := h
  refine E_iald2 (x1.toNatClampNeg) dX12_firstOf_50 (sk_139 hs) (sn hs (by decide)) g13 rfl ?_
  obtain ⟨rfl, rfl⟩ := h
  exact E_iret dX12_firstOf_51 rfl
def W_X12_firstOf_44 (X : Sx) (l : Launch) (D : Nat) (x1 : Int32) (y0 : Int32) (y1 : Int32) (σ : AH) (r : Option Value) (σ' : AH) : Prop := vp_in y1 260 ∧ W_X12_firstOf_45 X l D x1 (sI σ 139 y1.toNatClampNeg y0) r σ'
set_option maxRecDepth 100000 in
theorem w_X12_firstOf_44 {X : Sx} {l : Launch} {D : Nat} {x1 : Int32} {y0 : Int32} {y1 : Int32} {σ : AH} {r : Option Value} {σ' : AH} (hs : Sh σ) (h : W_X12_firstOf_44 X l D x1 y0 y1 σ r σ') : E X l m_X12_firstOf D 44 [(0, .ref 124), (1, .int x1)] [.int y0, .int y1, .ref 139] σ r σ' := by
  unfold W_X12_firstOf_44 at h
  obtain ⟨g14, h⟩ := h
  refine E_iast2 (y1.toNatClampNeg) dX12_firstOf_44 (sk_139 hs) (sn hs (by decide)) (Or.inl (by decide)) g14 rfl ?_
  exact E_lv [0, 1] rfl (w_X12_firstOf_45 hs h)
def W_X12_firstOf_0 (X : Sx) (l : Launch) (D : Nat) (x1 : Int32) (σ : AH) (r : Option Value) (σ' : AH) : Prop := vp_in x1 260 ∧ (if (gI σ 139 x1.toNatClampNeg) = (-2 : Int32) then ∃ d2 : Nat, ∃ σ3 : AH, d2 + 1 ≤ D ∧ Call X l m_X12_setOnly d2 [.ref 124, .int (0 : Int32), .int x1] σ none σ3 ∧ ∃ d7 : Nat, ∃ v12 : Int32, ∃ σ8 : AH, d7 + 1 ≤ D ∧ Call X l m_X12_find d7 [.ref 124, .int (8 : Int32), .int (0 : Int32), .int (0 : Int32), .int (0 : Int32), .int x1] σ3 (some (.int v12)) σ8 ∧ (if v12 = 0 then W_X12_firstOf_44 X l D x1 (-1 : Int32) x1 σ8 r σ' else W_X12_firstOf_44 X l D x1 (((gL σ8 124 31)).toInt32) x1 σ8 r σ') else W_X12_firstOf_45 X l D x1 σ r σ')
set_option maxRecDepth 100000 in
theorem w_X12_firstOf_0 {X : Sx} {l : Launch} {D : Nat} {x1 : Int32} {σ : AH} {r : Option Value} {σ' : AH} (hs : Sh σ) (h : W_X12_firstOf_0 X l D x1 σ r σ') : E X l m_X12_firstOf D 0 [(0, .ref 124), (1, .int x1)] [] σ r σ' := by
  unfold W_X12_firstOf_0 at h
  refine E_aload_n 0 dX12_firstOf_0 rfl rfl ?_
  refine E_getR 139 dX12_firstOf_1 fl_X12_64 rfl (sk_124 hs) (sn hs (by decide)) (sr_124_34 hs) ?_
  refine E_iload_n 1 dX12_firstOf_4 rfl rfl ?_
  obtain ⟨g1, h⟩ := h
  refine E_iald2 (x1.toNatClampNeg) dX12_firstOf_5 (sk_139 hs) (sn hs (by decide)) g1 rfl ?_
  refine E_bipush (-2 : Int32) dX12_firstOf_6 (by decide) ?_
  refine E_icmp_ne 45 dX12_firstOf_8 (by decide) (fun c => ?_) (fun c => ?_)
  · rw [if_neg c] at h
    exact E_lv [0, 1] rfl (w_X12_firstOf_45 hs h)
  · rw [if_pos c] at h
    refine E_aload_n 0 dX12_firstOf_11 rfl rfl ?_
    refine E_iconst (0 : Int32) dX12_firstOf_12 (by decide) ?_
    refine E_iload_n 1 dX12_firstOf_13 rfl rfl ?_
    obtain ⟨d2, σ3, hD4, hC5, h⟩ := h
    have hs6 := hC5.1.2.2.2.1 hs
    refine E_callV (As := [.int (0 : Int32), .int x1]) (rest := []) (r1 := none) (b := 124) dX12_firstOf_14 ok_X12_setOnly in_X12_setOnly se_X12_setOnly ml_X12_440 hD4 rfl rfl (Nat.le_of_ble_eq_true rfl) (sk_124 hs) (sn hs (by decide)) (by decide) rfl (by decide +kernel) hC5 ?_
    refine E_aload_n 0 dX12_firstOf_17 rfl rfl ?_
    refine E_getR 139 dX12_firstOf_18 fl_X12_64 rfl (sk_124 hs6) (sn hs6 (by decide)) (sr_124_34 hs6) ?_
    refine E_iload_n 1 dX12_firstOf_21 rfl rfl ?_
    refine E_aload_n 0 dX12_firstOf_22 rfl rfl ?_
    refine E_bipush (8 : Int32) dX12_firstOf_23 (by decide) ?_
    refine E_iconst (0 : Int32) dX12_firstOf_25 (by decide) ?_
    refine E_iconst (0 : Int32) dX12_firstOf_26 (by decide) ?_
    refine E_iconst (0 : Int32) dX12_firstOf_27 (by decide) ?_
    refine E_iload_n 1 dX12_firstOf_28 rfl rfl ?_
    obtain ⟨d7, v12, σ8, hD9, hC10, h⟩ := h
    have hs11 := hC10.1.2.2.2.1 hs6
    refine E_callV (As := [.int (8 : Int32), .int (0 : Int32), .int (0 : Int32), .int (0 : Int32), .int x1]) (rest := [.int x1, .ref 139]) (r1 := (some (.int v12))) (b := 124) dX12_firstOf_29 ok_X12_find in_X12_find se_X12_find ml_X12_443 hD9 rfl rfl (Nat.le_of_ble_eq_true rfl) (sk_124 hs6) (sn hs6 (by decide)) (by decide) rfl (by decide +kernel) hC10 ?_
    refine E_if_eq 43 dX12_firstOf_32 (by decide) (fun c => ?_) (fun c => ?_)
    · rw [if_pos c] at h
      refine E_iconst (-1 : Int32) dX12_firstOf_43 (by decide) ?_
      exact E_lv [0, 1] rfl (w_X12_firstOf_44 hs11 h)
    · rw [if_neg c] at h
      refine E_aload_n 0 dX12_firstOf_35 rfl rfl ?_
      refine E_getL dX12_firstOf_36 fl_X12_430 rfl (sk_124 hs11) (sn hs11 (by decide)) ?_
      refine E_l2i dX12_firstOf_39 ?_
      refine E_goto 44 dX12_firstOf_40 (by decide) ?_
      exact E_lv [0, 1] rfl (w_X12_firstOf_44 hs11 h)
def W_X12_need_0 (X : Sx) (l : Launch) (D : Nat) (x1 : Int32) (x2 : Int32) (x3 : Int32) (x4 : Int32) (x5 : Int32) (x6 : Int32) (σ : AH) (r : Option Value) (σ' : AH) : Prop := ∃ d1 : Nat, ∃ v6 : Int32, ∃ σ2 : AH, d1 + 1 ≤ D ∧ Call X l m_X12_in d1 [.long (x1).toInt64, .long (0 : Int64), .long (2 : Int64)] (sI σ 124 0 (0 : Int32)) (some (.int v6)) σ2 ∧ (if v6 = 0 then (r = some (.int (-1 : Int32)) ∧ σ' = σ2) else ∃ d7 : Nat, ∃ v12 : Int32, ∃ σ8 : AH, d7 + 1 ≤ D ∧ Call X l m_X12_in d7 [.long (x2).toInt64, .long (0 : Int64), .long (2 : Int64)] σ2 (some (.int v12)) σ8 ∧ (if v12 = 0 then (r = some (.int (-1 : Int32)) ∧ σ' = σ8) else ∃ d13 : Nat, ∃ v18 : Int32, ∃ σ14 : AH, d13 + 1 ≤ D ∧ Call X l m_X12_in d13 [.long (x3).toInt64, .long (0 : Int64), .long (5 : Int64)] σ8 (some (.int v18)) σ14 ∧ (if v18 = 0 then (r = some (.int (-1 : Int32)) ∧ σ' = σ14) else ∃ d19 : Nat, ∃ v24 : Int32, ∃ σ20 : AH, d19 + 1 ≤ D ∧ Call X l m_X12_in d19 [.long (x4).toInt64, .long (1 : Int64), .long (6 : Int64)] σ14 (some (.int v24)) σ20 ∧ (if v24 = 0 then (r = some (.int (-1 : Int32)) ∧ σ' = σ20) else ∃ d25 : Nat, ∃ v30 : Int32, ∃ σ26 : AH, d25 + 1 ≤ D ∧ Call X l m_X12_isWeek d25 [.int x5] σ20 (some (.int v30)) σ26 ∧ (if v30 = 0 then (r = some (.int (-1 : Int32)) ∧ σ' = σ26) else ∃ d31 : Nat, ∃ v36 : Int32, ∃ σ32 : AH, d31 + 1 ≤ D ∧ Call X l m_X12_isWeek d31 [.int x6] σ26 (some (.int v36)) σ32 ∧ (if v36 = 0 then (r = some (.int (-1 : Int32)) ∧ σ' = σ32) else ∃ d37 : Nat, ∃ σ38 : AH, d37 + 1 ≤ D ∧ Call X l m_X12_knowBy d37 [.ref 124, .int x6] σ32 none σ38 ∧ ∃ d42 : Nat, ∃ v47 : Int32, ∃ σ43 : AH, d42 + 1 ≤ D ∧ Call X l m_X12_needOf d42 [.ref 124, .int x1, .int x2, .int x3, .int x4, .int x5] σ38 (some (.int v47)) σ43 ∧ (r = some (.int v47) ∧ σ' = σ43)))))))
set_option maxRecDepth 100000 in
theorem w_X12_need_0 {X : Sx} {l : Launch} {D : Nat} {x1 : Int32} {x2 : Int32} {x3 : Int32} {x4 : Int32} {x5 : Int32} {x6 : Int32} {σ : AH} {r : Option Value} {σ' : AH} (hs : Sh σ) (h : W_X12_need_0 X l D x1 x2 x3 x4 x5 x6 σ r σ') : E X l m_X12_need D 0 [(0, .ref 124), (1, .int x1), (2, .int x2), (3, .int x3), (4, .int x4), (5, .int x5), (6, .int x6)] [] σ r σ' := by
  unfold W_X12_need_0 at h
  refine E_aload_n 0 dX12_need_0 rfl rfl ?_
  refine E_iconst (0 : Int32) dX12_need_1 (by decide) ?_
  refine E_putI dX12_need_2 fl_X12_145 rfl (Or.inl rfl) (sk_124 hs) (sn hs (by decide)) (Or.inl (by decide)) rfl rfl ?_
  refine E_iload_n 1 dX12_need_5 rfl rfl ?_
  refine E_i2l dX12_need_6 ?_
  refine E_lconst (0 : Int64) dX12_need_7 (by decide) ?_
  refine E_ldc2 (2 : Int64) dX12_need_8 cl_X12_161 ?_
  obtain ⟨d1, v6, σ2, hD3, hC4, h⟩ := h
  have hs5 := hC4.1.2.2.2.1 hs
  refine E_callS (As := [.long (x1).toInt64, .long (0 : Int64), .long (2 : Int64)]) (rest := []) (r1 := (some (.int v6))) dX12_need_11 ok_X12_in is_X12_in ml_X12_153 hD3 rfl rfl (Nat.le_of_ble_eq_true rfl) (by decide +kernel) hC4 ?_
  refine E_if_eq 70 dX12_need_14 (by decide) (fun c => ?_) (fun c => ?_)
  · rw [if_pos c] at h
    refine E_iconst (-1 : Int32) dX12_need_70 (by decide) ?_
    obtain ⟨rfl, rfl⟩ := h
    exact E_iret dX12_need_71 rfl
  · rw [if_neg c] at h
    refine E_iload_n 2 dX12_need_17 rfl rfl ?_
    refine E_i2l dX12_need_18 ?_
    refine E_lconst (0 : Int64) dX12_need_19 (by decide) ?_
    refine E_ldc2 (2 : Int64) dX12_need_20 cl_X12_161 ?_
    obtain ⟨d7, v12, σ8, hD9, hC10, h⟩ := h
    have hs11 := hC10.1.2.2.2.1 hs5
    refine E_callS (As := [.long (x2).toInt64, .long (0 : Int64), .long (2 : Int64)]) (rest := []) (r1 := (some (.int v12))) dX12_need_23 ok_X12_in is_X12_in ml_X12_153 hD9 rfl rfl (Nat.le_of_ble_eq_true rfl) (by decide +kernel) hC10 ?_
    refine E_if_eq 70 dX12_need_26 (by decide) (fun c => ?_) (fun c => ?_)
    · rw [if_pos c] at h
      refine E_iconst (-1 : Int32) dX12_need_70 (by decide) ?_
      obtain ⟨rfl, rfl⟩ := h
      exact E_iret dX12_need_71 rfl
    · rw [if_neg c] at h
      refine E_iload_n 3 dX12_need_29 rfl rfl ?_
      refine E_i2l dX12_need_30 ?_
      refine E_lconst (0 : Int64) dX12_need_31 (by decide) ?_
      refine E_ldc2 (5 : Int64) dX12_need_32 cl_X12_157 ?_
      obtain ⟨d13, v18, σ14, hD15, hC16, h⟩ := h
      have hs17 := hC16.1.2.2.2.1 hs11
      refine E_callS (As := [.long (x3).toInt64, .long (0 : Int64), .long (5 : Int64)]) (rest := []) (r1 := (some (.int v18))) dX12_need_35 ok_X12_in is_X12_in ml_X12_153 hD15 rfl rfl (Nat.le_of_ble_eq_true rfl) (by decide +kernel) hC16 ?_
      refine E_if_eq 70 dX12_need_38 (by decide) (fun c => ?_) (fun c => ?_)
      · rw [if_pos c] at h
        refine E_iconst (-1 : Int32) dX12_need_70 (by decide) ?_
        obtain ⟨rfl, rfl⟩ := h
        exact E_iret dX12_need_71 rfl
      · rw [if_neg c] at h
        refine E_iload 4 dX12_need_41 rfl ?_
        refine E_i2l dX12_need_43 ?_
        refine E_lconst (1 : Int64) dX12_need_44 (by decide) ?_
        refine E_ldc2 (6 : Int64) dX12_need_45 cl_X12_450 ?_
        obtain ⟨d19, v24, σ20, hD21, hC22, h⟩ := h
        have hs23 := hC22.1.2.2.2.1 hs17
        refine E_callS (As := [.long (x4).toInt64, .long (1 : Int64), .long (6 : Int64)]) (rest := []) (r1 := (some (.int v24))) dX12_need_48 ok_X12_in is_X12_in ml_X12_153 hD21 rfl rfl (Nat.le_of_ble_eq_true rfl) (by decide +kernel) hC22 ?_
        refine E_if_eq 70 dX12_need_51 (by decide) (fun c => ?_) (fun c => ?_)
        · rw [if_pos c] at h
          refine E_iconst (-1 : Int32) dX12_need_70 (by decide) ?_
          obtain ⟨rfl, rfl⟩ := h
          exact E_iret dX12_need_71 rfl
        · rw [if_neg c] at h
          refine E_iload 5 dX12_need_54 rfl ?_
          obtain ⟨d25, v30, σ26, hD27, hC28, h⟩ := h
          have hs29 := hC28.1.2.2.2.1 hs23
          refine E_callS (As := [.int x5]) (rest := []) (r1 := (some (.int v30))) dX12_need_56 ok_X12_isWeek is_X12_isWeek ml_X12_387 hD27 rfl rfl (Nat.le_of_ble_eq_true rfl) (by decide +kernel) hC28 ?_
          refine E_if_eq 70 dX12_need_59 (by decide) (fun c => ?_) (fun c => ?_)
          · rw [if_pos c] at h
            refine E_iconst (-1 : Int32) dX12_need_70 (by decide) ?_
            obtain ⟨rfl, rfl⟩ := h
            exact E_iret dX12_need_71 rfl
          · rw [if_neg c] at h
            refine E_iload 6 dX12_need_62 rfl ?_
            obtain ⟨d31, v36, σ32, hD33, hC34, h⟩ := h
            have hs35 := hC34.1.2.2.2.1 hs29
            refine E_callS (As := [.int x6]) (rest := []) (r1 := (some (.int v36))) dX12_need_64 ok_X12_isWeek is_X12_isWeek ml_X12_387 hD33 rfl rfl (Nat.le_of_ble_eq_true rfl) (by decide +kernel) hC34 ?_
            refine E_if_ne 72 dX12_need_67 (by decide) (fun c => ?_) (fun c => ?_)
            · rw [if_neg c] at h
              refine E_aload_n 0 dX12_need_72 rfl rfl ?_
              refine E_iload 6 dX12_need_73 rfl ?_
              obtain ⟨d37, σ38, hD39, hC40, h⟩ := h
              have hs41 := hC40.1.2.2.2.1 hs35
              refine E_callV (As := [.int x6]) (rest := []) (r1 := none) (b := 124) dX12_need_75 ok_X12_knowBy in_X12_knowBy se_X12_knowBy ml_X12_406 hD39 rfl rfl (Nat.le_of_ble_eq_true rfl) (sk_124 hs35) (sn hs35 (by decide)) (by decide) rfl (by decide +kernel) hC40 ?_
              refine E_aload_n 0 dX12_need_78 rfl rfl ?_
              refine E_iload_n 1 dX12_need_79 rfl rfl ?_
              refine E_iload_n 2 dX12_need_80 rfl rfl ?_
              refine E_iload_n 3 dX12_need_81 rfl rfl ?_
              refine E_iload 4 dX12_need_82 rfl ?_
              refine E_iload 5 dX12_need_84 rfl ?_
              obtain ⟨d42, v47, σ43, hD44, hC45, h⟩ := h
              have hs46 := hC45.1.2.2.2.1 hs41
              refine E_callV (As := [.int x1, .int x2, .int x3, .int x4, .int x5]) (rest := []) (r1 := (some (.int v47))) (b := 124) dX12_need_86 ok_X12_needOf in_X12_needOf se_X12_needOf ml_X12_452 hD44 rfl rfl (Nat.le_of_ble_eq_true rfl) (sk_124 hs41) (sn hs41 (by decide)) (by decide) rfl (by decide +kernel) hC45 ?_
              obtain ⟨rfl, rfl⟩ := h
              exact E_iret dX12_need_89 rfl
            · rw [if_pos c] at h
              refine E_iconst (-1 : Int32) dX12_need_70 (by decide) ?_
              obtain ⟨rfl, rfl⟩ := h
              exact E_iret dX12_need_71 rfl
def W_X12_deliver_44 (X : Sx) (l : Launch) (D : Nat) (σ : AH) (r : Option Value) (σ' : AH) : Prop := ∃ d42 : Nat, ∃ v47 : Int32, ∃ σ43 : AH, d42 + 1 ≤ D ∧ Call X l m_X12_told d42 [.ref 124, .int (-1 : Int32)] σ (some (.int v47)) σ43 ∧ (r = some (.int v47) ∧ σ' = σ43)
set_option maxRecDepth 100000 in
theorem w_X12_deliver_44 {X : Sx} {l : Launch} {D : Nat} {σ : AH} {r : Option Value} {σ' : AH} (hs : Sh σ) (h : W_X12_deliver_44 X l D σ r σ') : E X l m_X12_deliver D 44 [(0, .ref 124)] [] σ r σ' := by
  unfold W_X12_deliver_44 at h
  refine E_aload_n 0 dX12_deliver_44 rfl rfl ?_
  refine E_iconst (-1 : Int32) dX12_deliver_45 (by decide) ?_
  obtain ⟨d42, v47, σ43, hD44, hC45, h⟩ := h
  have hs46 := hC45.1.2.2.2.1 hs
  refine E_callV (As := [.int (-1 : Int32)]) (rest := []) (r1 := (some (.int v47))) (b := 124) dX12_deliver_46 ok_X12_told in_X12_told se_X12_told ml_X12_163 hD44 rfl rfl (Nat.le_of_ble_eq_true rfl) (sk_124 hs) (sn hs (by decide)) (by decide) rfl (by decide +kernel) hC45 ?_
  obtain ⟨rfl, rfl⟩ := h
  exact E_iret dX12_deliver_49 rfl
def W_X12_deliver_0 (X : Sx) (l : Launch) (D : Nat) (x1 : Int32) (x2 : Int32) (x3 : Int32) (x4 : Int32) (σ : AH) (r : Option Value) (σ' : AH) : Prop := ∃ d1 : Nat, ∃ v6 : Int32, ∃ σ2 : AH, d1 + 1 ≤ D ∧ Call X l m_X12_in d1 [.long (x1).toInt64, .long (0 : Int64), .long (4 : Int64)] (sI σ 124 0 (0 : Int32)) (some (.int v6)) σ2 ∧ (if v6 = 0 then W_X12_deliver_44 X l D σ2 r σ' else ∃ d7 : Nat, ∃ v12 : Int32, ∃ σ8 : AH, d7 + 1 ≤ D ∧ Call X l m_X12_isWeek d7 [.int x2] σ2 (some (.int v12)) σ8 ∧ (if v12 = 0 then W_X12_deliver_44 X l D σ8 r σ' else ∃ d13 : Nat, ∃ v18 : Int32, ∃ σ14 : AH, d13 + 1 ≤ D ∧ Call X l m_X12_in d13 [.long (x3).toInt64, .long (1 : Int64), .long (100000 : Int64)] σ8 (some (.int v18)) σ14 ∧ (if v18 = 0 then W_X12_deliver_44 X l D σ14 r σ' else ∃ d19 : Nat, ∃ v24 : Int32, ∃ σ20 : AH, d19 + 1 ≤ D ∧ Call X l m_X12_isWeek d19 [.int x4] σ14 (some (.int v24)) σ20 ∧ (if v24 = 0 then W_X12_deliver_44 X l D σ20 r σ' else (if (gI σ20 125 1) = (120 : Int32) then ∃ d36 : Nat, ∃ v41 : Int32, ∃ σ37 : AH, d36 + 1 ≤ D ∧ Call X l m_X12_told d36 [.ref 124, .int (-5 : Int32)] σ20 (some (.int v41)) σ37 ∧ (r = some (.int v41) ∧ σ' = σ37) else ∃ d25 : Nat, ∃ σ26 : AH, d25 + 1 ≤ D ∧ Call X l m_X12_addFour d25 [.ref 124, .int ((22748 : Int32) + ((4 : Int32) * (gI σ20 125 1))), .int x1, .int x2, .int x3, .int x4] σ20 none σ26 ∧ ∃ d30 : Nat, ∃ v35 : Int32, ∃ σ31 : AH, d30 + 1 ≤ D ∧ Call X l m_X12_told d30 [.ref 124, .int (gI (sI σ26 125 1 ((gI σ26 125 1) + (1 : Int32))) 125 1)] (sI σ26 125 1 ((gI σ26 125 1) + (1 : Int32))) (some (.int v35)) σ31 ∧ (r = some (.int v35) ∧ σ' = σ31))))))
set_option maxRecDepth 100000 in
theorem w_X12_deliver_0 {X : Sx} {l : Launch} {D : Nat} {x1 : Int32} {x2 : Int32} {x3 : Int32} {x4 : Int32} {σ : AH} {r : Option Value} {σ' : AH} (hs : Sh σ) (h : W_X12_deliver_0 X l D x1 x2 x3 x4 σ r σ') : E X l m_X12_deliver D 0 [(0, .ref 124), (1, .int x1), (2, .int x2), (3, .int x3), (4, .int x4)] [] σ r σ' := by
  unfold W_X12_deliver_0 at h
  refine E_aload_n 0 dX12_deliver_0 rfl rfl ?_
  refine E_iconst (0 : Int32) dX12_deliver_1 (by decide) ?_
  refine E_putI dX12_deliver_2 fl_X12_145 rfl (Or.inl rfl) (sk_124 hs) (sn hs (by decide)) (Or.inl (by decide)) rfl rfl ?_
  refine E_iload_n 1 dX12_deliver_5 rfl rfl ?_
  refine E_i2l dX12_deliver_6 ?_
  refine E_lconst (0 : Int64) dX12_deliver_7 (by decide) ?_
  refine E_ldc2 (4 : Int64) dX12_deliver_8 cl_X12_456 ?_
  obtain ⟨d1, v6, σ2, hD3, hC4, h⟩ := h
  have hs5 := hC4.1.2.2.2.1 hs
  refine E_callS (As := [.long (x1).toInt64, .long (0 : Int64), .long (4 : Int64)]) (rest := []) (r1 := (some (.int v6))) dX12_deliver_11 ok_X12_in is_X12_in ml_X12_153 hD3 rfl rfl (Nat.le_of_ble_eq_true rfl) (by decide +kernel) hC4 ?_
  refine E_if_eq 44 dX12_deliver_14 (by decide) (fun c => ?_) (fun c => ?_)
  · rw [if_pos c] at h
    exact E_lv [0] rfl (w_X12_deliver_44 hs5 h)
  · rw [if_neg c] at h
    refine E_iload_n 2 dX12_deliver_17 rfl rfl ?_
    obtain ⟨d7, v12, σ8, hD9, hC10, h⟩ := h
    have hs11 := hC10.1.2.2.2.1 hs5
    refine E_callS (As := [.int x2]) (rest := []) (r1 := (some (.int v12))) dX12_deliver_18 ok_X12_isWeek is_X12_isWeek ml_X12_387 hD9 rfl rfl (Nat.le_of_ble_eq_true rfl) (by decide +kernel) hC10 ?_
    refine E_if_eq 44 dX12_deliver_21 (by decide) (fun c => ?_) (fun c => ?_)
    · rw [if_pos c] at h
      exact E_lv [0] rfl (w_X12_deliver_44 hs11 h)
    · rw [if_neg c] at h
      refine E_iload_n 3 dX12_deliver_24 rfl rfl ?_
      refine E_i2l dX12_deliver_25 ?_
      refine E_lconst (1 : Int64) dX12_deliver_26 (by decide) ?_
      refine E_ldc2 (100000 : Int64) dX12_deliver_27 cl_X12_210 ?_
      obtain ⟨d13, v18, σ14, hD15, hC16, h⟩ := h
      have hs17 := hC16.1.2.2.2.1 hs11
      refine E_callS (As := [.long (x3).toInt64, .long (1 : Int64), .long (100000 : Int64)]) (rest := []) (r1 := (some (.int v18))) dX12_deliver_30 ok_X12_in is_X12_in ml_X12_153 hD15 rfl rfl (Nat.le_of_ble_eq_true rfl) (by decide +kernel) hC16 ?_
      refine E_if_eq 44 dX12_deliver_33 (by decide) (fun c => ?_) (fun c => ?_)
      · rw [if_pos c] at h
        exact E_lv [0] rfl (w_X12_deliver_44 hs17 h)
      · rw [if_neg c] at h
        refine E_iload 4 dX12_deliver_36 rfl ?_
        obtain ⟨d19, v24, σ20, hD21, hC22, h⟩ := h
        have hs23 := hC22.1.2.2.2.1 hs17
        refine E_callS (As := [.int x4]) (rest := []) (r1 := (some (.int v24))) dX12_deliver_38 ok_X12_isWeek is_X12_isWeek ml_X12_387 hD21 rfl rfl (Nat.le_of_ble_eq_true rfl) (by decide +kernel) hC22 ?_
        refine E_if_ne 50 dX12_deliver_41 (by decide) (fun c => ?_) (fun c => ?_)
        · rw [if_neg c] at h
          refine E_aload_n 0 dX12_deliver_50 rfl rfl ?_
          refine E_getR 125 dX12_deliver_51 fl_X12_8 rfl (sk_124 hs23) (sn hs23 (by decide)) (sr_124_2 hs23) ?_
          refine E_iconst (1 : Int32) dX12_deliver_54 (by decide) ?_
          refine E_iald2 1 dX12_deliver_55 (sk_125 hs23) (sn hs23 (by decide)) (vp_lit (by decide)) (by decide) ?_
          refine E_bipush (120 : Int32) dX12_deliver_56 (by decide) ?_
          refine E_icmp_ne 68 dX12_deliver_58 (by decide) (fun c => ?_) (fun c => ?_)
          · rw [if_neg c] at h
            refine E_aload_n 0 dX12_deliver_68 rfl rfl ?_
            refine E_sipush (22748 : Int32) dX12_deliver_69 (by decide) ?_
            refine E_iconst (4 : Int32) dX12_deliver_72 (by decide) ?_
            refine E_aload_n 0 dX12_deliver_73 rfl rfl ?_
            refine E_getR 125 dX12_deliver_74 fl_X12_8 rfl (sk_124 hs23) (sn hs23 (by decide)) (sr_124_2 hs23) ?_
            refine E_iconst (1 : Int32) dX12_deliver_77 (by decide) ?_
            refine E_iald2 1 dX12_deliver_78 (sk_125 hs23) (sn hs23 (by decide)) (vp_lit (by decide)) (by decide) ?_
            refine E_imul dX12_deliver_79 ?_
            refine E_iadd dX12_deliver_80 ?_
            refine E_iload_n 1 dX12_deliver_81 rfl rfl ?_
            refine E_iload_n 2 dX12_deliver_82 rfl rfl ?_
            refine E_iload_n 3 dX12_deliver_83 rfl rfl ?_
            refine E_iload 4 dX12_deliver_84 rfl ?_
            obtain ⟨d25, σ26, hD27, hC28, h⟩ := h
            have hs29 := hC28.1.2.2.2.1 hs23
            refine E_callV (As := [.int ((22748 : Int32) + ((4 : Int32) * (gI σ20 125 1))), .int x1, .int x2, .int x3, .int x4]) (rest := []) (r1 := none) (b := 124) dX12_deliver_86 ok_X12_addFour in_X12_addFour se_X12_addFour ml_X12_458 hD27 rfl rfl (Nat.le_of_ble_eq_true rfl) (sk_124 hs23) (sn hs23 (by decide)) (by decide) rfl (by decide +kernel) hC28 ?_
            refine E_aload_n 0 dX12_deliver_89 rfl rfl ?_
            refine E_getR 125 dX12_deliver_90 fl_X12_8 rfl (sk_124 hs29) (sn hs29 (by decide)) (sr_124_2 hs29) ?_
            refine E_iconst (1 : Int32) dX12_deliver_93 (by decide) ?_
            refine E_dup2 dX12_deliver_94 rfl rfl ?_
            refine E_iald2 1 dX12_deliver_95 (sk_125 hs29) (sn hs29 (by decide)) (vp_lit (by decide)) (by decide) ?_
            refine E_iconst (1 : Int32) dX12_deliver_96 (by decide) ?_
            refine E_iadd dX12_deliver_97 ?_
            refine E_iast2 1 dX12_deliver_98 (sk_125 hs29) (sn hs29 (by decide)) (Or.inl (by decide)) (vp_lit (by decide)) (by decide) ?_
            refine E_aload_n 0 dX12_deliver_99 rfl rfl ?_
            refine E_aload_n 0 dX12_deliver_100 rfl rfl ?_
            refine E_getR 125 dX12_deliver_101 fl_X12_8 rfl (sk_124 hs29) (sn hs29 (by decide)) (sr_124_2 hs29) ?_
            refine E_iconst (1 : Int32) dX12_deliver_104 (by decide) ?_
            refine E_iald2 1 dX12_deliver_105 (sk_125 hs29) (sn hs29 (by decide)) (vp_lit (by decide)) (by decide) ?_
            obtain ⟨d30, v35, σ31, hD32, hC33, h⟩ := h
            have hs34 := hC33.1.2.2.2.1 hs29
            refine E_callV (As := [.int (gI (sI σ26 125 1 ((gI σ26 125 1) + (1 : Int32))) 125 1)]) (rest := []) (r1 := (some (.int v35))) (b := 124) dX12_deliver_106 ok_X12_told in_X12_told se_X12_told ml_X12_163 hD32 rfl rfl (Nat.le_of_ble_eq_true rfl) (sk_124 hs29) (sn hs29 (by decide)) (by decide) rfl (by decide +kernel) hC33 ?_
            obtain ⟨rfl, rfl⟩ := h
            exact E_iret dX12_deliver_109 rfl
          · rw [if_pos c] at h
            refine E_aload_n 0 dX12_deliver_61 rfl rfl ?_
            refine E_bipush (-5 : Int32) dX12_deliver_62 (by decide) ?_
            obtain ⟨d36, v41, σ37, hD38, hC39, h⟩ := h
            have hs40 := hC39.1.2.2.2.1 hs23
            refine E_callV (As := [.int (-5 : Int32)]) (rest := []) (r1 := (some (.int v41))) (b := 124) dX12_deliver_64 ok_X12_told in_X12_told se_X12_told ml_X12_163 hD38 rfl rfl (Nat.le_of_ble_eq_true rfl) (sk_124 hs23) (sn hs23 (by decide)) (by decide) rfl (by decide +kernel) hC39 ?_
            obtain ⟨rfl, rfl⟩ := h
            exact E_iret dX12_deliver_67 rfl
        · rw [if_pos c] at h
          exact E_lv [0] rfl (w_X12_deliver_44 hs23 h)
