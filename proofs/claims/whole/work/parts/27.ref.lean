theorem dX12_squat_0 : decode cX12_squat 0 = .ok (.aload_n 0, 1) := by decide +kernel
theorem dX12_squat_1 : decode cX12_squat 1 = .ok (.iconst 0, 1) := by decide +kernel
theorem dX12_squat_2 : decode cX12_squat 2 = .ok (.putfield 145, 3) := by decide +kernel
theorem dX12_squat_5 : decode cX12_squat 5 = .ok (.iload_n 3, 1) := by decide +kernel
theorem dX12_squat_6 : decode cX12_squat 6 = .ok (.invokestatic 387, 3) := by decide +kernel
theorem dX12_squat_9 : decode cX12_squat 9 = .ok (.ifCond .eq 14, 3) := by decide +kernel
theorem dX12_squat_12 : decode cX12_squat 12 = .ok (.iload_n 3, 1) := by decide +kernel
theorem dX12_squat_13 : decode cX12_squat 13 = .ok (.aload_n 0, 1) := by decide +kernel
theorem dX12_squat_14 : decode cX12_squat 14 = .ok (.getfield 8, 3) := by decide +kernel
theorem dX12_squat_17 : decode cX12_squat 17 = .ok (.bipush 12, 2) := by decide +kernel
theorem dX12_squat_19 : decode cX12_squat 19 = .ok (.iaload, 1) := by decide +kernel
theorem dX12_squat_20 : decode cX12_squat 20 = .ok (.if_icmp .ge 9, 3) := by decide +kernel
theorem dX12_squat_23 : decode cX12_squat 23 = .ok (.aload_n 0, 1) := by decide +kernel
theorem dX12_squat_24 : decode cX12_squat 24 = .ok (.iconst (-1), 1) := by decide +kernel
theorem dX12_squat_25 : decode cX12_squat 25 = .ok (.invokevirtual 163, 3) := by decide +kernel
theorem dX12_squat_28 : decode cX12_squat 28 = .ok (.ireturn, 1) := by decide +kernel
theorem dX12_squat_29 : decode cX12_squat 29 = .ok (.aload_n 0, 1) := by decide +kernel
theorem dX12_squat_30 : decode cX12_squat 30 = .ok (.iload_n 1, 1) := by decide +kernel
theorem dX12_squat_31 : decode cX12_squat 31 = .ok (.invokevirtual 559, 3) := by decide +kernel
theorem dX12_squat_34 : decode cX12_squat 34 = .ok (.ifCond .eq 22, 3) := by decide +kernel
theorem dX12_squat_37 : decode cX12_squat 37 = .ok (.aload_n 0, 1) := by decide +kernel
theorem dX12_squat_38 : decode cX12_squat 38 = .ok (.iload_n 2, 1) := by decide +kernel
theorem dX12_squat_39 : decode cX12_squat 39 = .ok (.invokevirtual 471, 3) := by decide +kernel
theorem dX12_squat_42 : decode cX12_squat 42 = .ok (.ifCond .eq 14, 3) := by decide +kernel
theorem dX12_squat_45 : decode cX12_squat 45 = .ok (.aload_n 0, 1) := by decide +kernel
theorem dX12_squat_46 : decode cX12_squat 46 = .ok (.iload_n 1, 1) := by decide +kernel
theorem dX12_squat_47 : decode cX12_squat 47 = .ok (.bipush 6, 2) := by decide +kernel
theorem dX12_squat_49 : decode cX12_squat 49 = .ok (.invokevirtual 562, 3) := by decide +kernel
theorem dX12_squat_52 : decode cX12_squat 52 = .ok (.iload_n 3, 1) := by decide +kernel
theorem dX12_squat_53 : decode cX12_squat 53 = .ok (.if_icmp .le 10, 3) := by decide +kernel
theorem dX12_squat_56 : decode cX12_squat 56 = .ok (.aload_n 0, 1) := by decide +kernel
theorem dX12_squat_57 : decode cX12_squat 57 = .ok (.bipush (-2), 2) := by decide +kernel
theorem dX12_squat_59 : decode cX12_squat 59 = .ok (.invokevirtual 163, 3) := by decide +kernel
theorem dX12_squat_62 : decode cX12_squat 62 = .ok (.ireturn, 1) := by decide +kernel
theorem dX12_squat_63 : decode cX12_squat 63 = .ok (.aload_n 0, 1) := by decide +kernel
theorem dX12_squat_64 : decode cX12_squat 64 = .ok (.iload_n 3, 1) := by decide +kernel
theorem dX12_squat_65 : decode cX12_squat 65 = .ok (.invokevirtual 622, 3) := by decide +kernel
theorem dX12_squat_68 : decode cX12_squat 68 = .ok (.aload_n 0, 1) := by decide +kernel
theorem dX12_squat_69 : decode cX12_squat 69 = .ok (.iload_n 3, 1) := by decide +kernel
theorem dX12_squat_70 : decode cX12_squat 70 = .ok (.invokevirtual 568, 3) := by decide +kernel
theorem dX12_squat_73 : decode cX12_squat 73 = .ok (.aload_n 0, 1) := by decide +kernel
theorem dX12_squat_74 : decode cX12_squat 74 = .ok (.iload_n 2, 1) := by decide +kernel
theorem dX12_squat_75 : decode cX12_squat 75 = .ok (.iload_n 3, 1) := by decide +kernel
theorem dX12_squat_76 : decode cX12_squat 76 = .ok (.invokevirtual 609, 3) := by decide +kernel
theorem dX12_squat_79 : decode cX12_squat 79 = .ok (.ifCond .eq 44, 3) := by decide +kernel
theorem dX12_squat_82 : decode cX12_squat 82 = .ok (.aload_n 0, 1) := by decide +kernel
theorem dX12_squat_83 : decode cX12_squat 83 = .ok (.iload_n 2, 1) := by decide +kernel
theorem dX12_squat_84 : decode cX12_squat 84 = .ok (.iload_n 3, 1) := by decide +kernel
theorem dX12_squat_85 : decode cX12_squat 85 = .ok (.invokevirtual 612, 3) := by decide +kernel
theorem dX12_squat_88 : decode cX12_squat 88 = .ok (.ifCond .eq 35, 3) := by decide +kernel
theorem dX12_squat_91 : decode cX12_squat 91 = .ok (.aload_n 0, 1) := by decide +kernel
theorem dX12_squat_92 : decode cX12_squat 92 = .ok (.aload_n 0, 1) := by decide +kernel
theorem dX12_squat_93 : decode cX12_squat 93 = .ok (.getfield 127, 3) := by decide +kernel
theorem dX12_squat_96 : decode cX12_squat 96 = .ok (.iload_n 1, 1) := by decide +kernel
theorem dX12_squat_97 : decode cX12_squat 97 = .ok (.iaload, 1) := by decide +kernel
theorem dX12_squat_98 : decode cX12_squat 98 = .ok (.iload_n 3, 1) := by decide +kernel
theorem dX12_squat_99 : decode cX12_squat 99 = .ok (.iconst 1, 1) := by decide +kernel
theorem dX12_squat_100 : decode cX12_squat 100 = .ok (.invokevirtual 605, 3) := by decide +kernel
theorem dX12_squat_103 : decode cX12_squat 103 = .ok (.iconst (-1), 1) := by decide +kernel
theorem dX12_squat_104 : decode cX12_squat 104 = .ok (.if_icmp .ne 19, 3) := by decide +kernel
theorem dX12_squat_107 : decode cX12_squat 107 = .ok (.aload_n 0, 1) := by decide +kernel
theorem dX12_squat_108 : decode cX12_squat 108 = .ok (.aload_n 0, 1) := by decide +kernel
theorem dX12_squat_109 : decode cX12_squat 109 = .ok (.getfield 127, 3) := by decide +kernel
theorem dX12_squat_112 : decode cX12_squat 112 = .ok (.iload_n 1, 1) := by decide +kernel
theorem dX12_squat_113 : decode cX12_squat 113 = .ok (.iaload, 1) := by decide +kernel
theorem dX12_squat_114 : decode cX12_squat 114 = .ok (.iload_n 3, 1) := by decide +kernel
theorem dX12_squat_115 : decode cX12_squat 115 = .ok (.iconst 0, 1) := by decide +kernel
theorem dX12_squat_116 : decode cX12_squat 116 = .ok (.invokevirtual 605, 3) := by decide +kernel
theorem dX12_squat_119 : decode cX12_squat 119 = .ok (.iconst (-1), 1) := by decide +kernel
theorem dX12_squat_120 : decode cX12_squat 120 = .ok (.if_icmp .eq 10, 3) := by decide +kernel
theorem dX12_squat_123 : decode cX12_squat 123 = .ok (.aload_n 0, 1) := by decide +kernel
theorem dX12_squat_124 : decode cX12_squat 124 = .ok (.bipush (-3), 2) := by decide +kernel
theorem dX12_squat_126 : decode cX12_squat 126 = .ok (.invokevirtual 163, 3) := by decide +kernel
theorem dX12_squat_129 : decode cX12_squat 129 = .ok (.ireturn, 1) := by decide +kernel
theorem dX12_squat_130 : decode cX12_squat 130 = .ok (.aload_n 0, 1) := by decide +kernel
theorem dX12_squat_131 : decode cX12_squat 131 = .ok (.getfield 8, 3) := by decide +kernel
theorem dX12_squat_134 : decode cX12_squat 134 = .ok (.bipush 8, 2) := by decide +kernel
theorem dX12_squat_136 : decode cX12_squat 136 = .ok (.iaload, 1) := by decide +kernel
theorem dX12_squat_137 : decode cX12_squat 137 = .ok (.bipush 40, 2) := by decide +kernel
theorem dX12_squat_139 : decode cX12_squat 139 = .ok (.if_icmp .ne 10, 3) := by decide +kernel
theorem dX12_squat_142 : decode cX12_squat 142 = .ok (.aload_n 0, 1) := by decide +kernel
theorem dX12_squat_143 : decode cX12_squat 143 = .ok (.bipush (-5), 2) := by decide +kernel
theorem dX12_squat_145 : decode cX12_squat 145 = .ok (.invokevirtual 163, 3) := by decide +kernel
theorem dX12_squat_148 : decode cX12_squat 148 = .ok (.ireturn, 1) := by decide +kernel
theorem dX12_squat_149 : decode cX12_squat 149 = .ok (.aload_n 0, 1) := by decide +kernel
theorem dX12_squat_150 : decode cX12_squat 150 = .ok (.iconst 0, 1) := by decide +kernel
theorem dX12_squat_151 : decode cX12_squat 151 = .ok (.iload_n 3, 1) := by decide +kernel
theorem dX12_squat_152 : decode cX12_squat 152 = .ok (.invokevirtual 440, 3) := by decide +kernel
theorem dX12_squat_155 : decode cX12_squat 155 = .ok (.aload_n 0, 1) := by decide +kernel
theorem dX12_squat_156 : decode cX12_squat 156 = .ok (.bipush 7, 2) := by decide +kernel
theorem dX12_squat_158 : decode cX12_squat 158 = .ok (.iconst 0, 1) := by decide +kernel
theorem dX12_squat_159 : decode cX12_squat 159 = .ok (.iconst 0, 1) := by decide +kernel
theorem dX12_squat_160 : decode cX12_squat 160 = .ok (.iconst 0, 1) := by decide +kernel
theorem dX12_squat_161 : decode cX12_squat 161 = .ok (.iload_n 3, 1) := by decide +kernel
theorem dX12_squat_162 : decode cX12_squat 162 = .ok (.invokevirtual 443, 3) := by decide +kernel
theorem dX12_squat_165 : decode cX12_squat 165 = .ok (.ifCond .eq 12, 3) := by decide +kernel
theorem dX12_squat_168 : decode cX12_squat 168 = .ok (.iload_n 3, 1) := by decide +kernel
theorem dX12_squat_169 : decode cX12_squat 169 = .ok (.aload_n 0, 1) := by decide +kernel
theorem dX12_squat_170 : decode cX12_squat 170 = .ok (.invokevirtual 447, 3) := by decide +kernel
theorem dX12_squat_173 : decode cX12_squat 173 = .ok (.iadd, 1) := by decide +kernel
theorem dX12_squat_174 : decode cX12_squat 174 = .ok (.goto 6, 3) := by decide +kernel
theorem dX12_squat_177 : decode cX12_squat 177 = .ok (.ldc_w 592, 3) := by decide +kernel
theorem dX12_squat_180 : decode cX12_squat 180 = .ok (.istore 4, 2) := by decide +kernel
theorem dX12_squat_182 : decode cX12_squat 182 = .ok (.aload_n 0, 1) := by decide +kernel
theorem dX12_squat_183 : decode cX12_squat 183 = .ok (.iload_n 2, 1) := by decide +kernel
theorem dX12_squat_184 : decode cX12_squat 184 = .ok (.iload_n 1, 1) := by decide +kernel
theorem dX12_squat_185 : decode cX12_squat 185 = .ok (.iload_n 3, 1) := by decide +kernel
theorem dX12_squat_186 : decode cX12_squat 186 = .ok (.iload 4, 2) := by decide +kernel
theorem dX12_squat_188 : decode cX12_squat 188 = .ok (.iconst 0, 1) := by decide +kernel
theorem dX12_squat_189 : decode cX12_squat 189 = .ok (.iconst 1, 1) := by decide +kernel
theorem dX12_squat_190 : decode cX12_squat 190 = .ok (.invokevirtual 618, 3) := by decide +kernel
theorem dX12_squat_193 : decode cX12_squat 193 = .ok (.aload_n 0, 1) := by decide +kernel
theorem dX12_squat_194 : decode cX12_squat 194 = .ok (.getfield 8, 3) := by decide +kernel
theorem dX12_squat_197 : decode cX12_squat 197 = .ok (.bipush 8, 2) := by decide +kernel
theorem dX12_squat_199 : decode cX12_squat 199 = .ok (.dup2, 1) := by decide +kernel
theorem dX12_squat_200 : decode cX12_squat 200 = .ok (.iaload, 1) := by decide +kernel
theorem dX12_squat_201 : decode cX12_squat 201 = .ok (.iconst 1, 1) := by decide +kernel
theorem dX12_squat_202 : decode cX12_squat 202 = .ok (.iadd, 1) := by decide +kernel
theorem dX12_squat_203 : decode cX12_squat 203 = .ok (.iastore, 1) := by decide +kernel
theorem dX12_squat_204 : decode cX12_squat 204 = .ok (.aload_n 0, 1) := by decide +kernel
theorem dX12_squat_205 : decode cX12_squat 205 = .ok (.getfield 8, 3) := by decide +kernel
theorem dX12_squat_208 : decode cX12_squat 208 = .ok (.bipush 12, 2) := by decide +kernel
theorem dX12_squat_210 : decode cX12_squat 210 = .ok (.iload_n 3, 1) := by decide +kernel
theorem dX12_squat_211 : decode cX12_squat 211 = .ok (.iastore, 1) := by decide +kernel
theorem dX12_squat_212 : decode cX12_squat 212 = .ok (.aload_n 0, 1) := by decide +kernel
theorem dX12_squat_213 : decode cX12_squat 213 = .ok (.aload_n 0, 1) := by decide +kernel
theorem dX12_squat_214 : decode cX12_squat 214 = .ok (.getfield 8, 3) := by decide +kernel
theorem dX12_squat_217 : decode cX12_squat 217 = .ok (.bipush 8, 2) := by decide +kernel
theorem dX12_squat_219 : decode cX12_squat 219 = .ok (.iaload, 1) := by decide +kernel
theorem dX12_squat_220 : decode cX12_squat 220 = .ok (.invokevirtual 163, 3) := by decide +kernel
theorem dX12_squat_223 : decode cX12_squat 223 = .ok (.ireturn, 1) := by decide +kernel
theorem dX12_out_0 : decode cX12_out 0 = .ok (.aload_n 0, 1) := by decide +kernel
theorem dX12_out_1 : decode cX12_out 1 = .ok (.iconst 0, 1) := by decide +kernel
theorem dX12_out_2 : decode cX12_out 2 = .ok (.putfield 145, 3) := by decide +kernel
theorem dX12_out_5 : decode cX12_out 5 = .ok (.iload_n 2, 1) := by decide +kernel
theorem dX12_out_6 : decode cX12_out 6 = .ok (.invokestatic 387, 3) := by decide +kernel
theorem dX12_out_9 : decode cX12_out 9 = .ok (.ifCond .eq 14, 3) := by decide +kernel
theorem dX12_out_12 : decode cX12_out 12 = .ok (.iload_n 2, 1) := by decide +kernel
theorem dX12_out_13 : decode cX12_out 13 = .ok (.aload_n 0, 1) := by decide +kernel
theorem dX12_out_14 : decode cX12_out 14 = .ok (.getfield 8, 3) := by decide +kernel
theorem dX12_out_17 : decode cX12_out 17 = .ok (.bipush 12, 2) := by decide +kernel
theorem dX12_out_19 : decode cX12_out 19 = .ok (.iaload, 1) := by decide +kernel
theorem dX12_out_20 : decode cX12_out 20 = .ok (.if_icmp .ge 9, 3) := by decide +kernel
theorem dX12_out_23 : decode cX12_out 23 = .ok (.aload_n 0, 1) := by decide +kernel
theorem dX12_out_24 : decode cX12_out 24 = .ok (.iconst (-1), 1) := by decide +kernel
theorem dX12_out_25 : decode cX12_out 25 = .ok (.invokevirtual 163, 3) := by decide +kernel
theorem dX12_out_28 : decode cX12_out 28 = .ok (.ireturn, 1) := by decide +kernel
theorem dX12_out_29 : decode cX12_out 29 = .ok (.aload_n 0, 1) := by decide +kernel
theorem dX12_out_30 : decode cX12_out 30 = .ok (.iload_n 1, 1) := by decide +kernel
theorem dX12_out_31 : decode cX12_out 31 = .ok (.invokevirtual 471, 3) := by decide +kernel
theorem dX12_out_34 : decode cX12_out 34 = .ok (.ifCond .ne 10, 3) := by decide +kernel
theorem dX12_out_37 : decode cX12_out 37 = .ok (.aload_n 0, 1) := by decide +kernel
theorem dX12_out_38 : decode cX12_out 38 = .ok (.bipush (-2), 2) := by decide +kernel
theorem dX12_out_40 : decode cX12_out 40 = .ok (.invokevirtual 163, 3) := by decide +kernel
theorem dX12_out_43 : decode cX12_out 43 = .ok (.ireturn, 1) := by decide +kernel
theorem dX12_out_44 : decode cX12_out 44 = .ok (.iconst (-1), 1) := by decide +kernel
theorem dX12_out_45 : decode cX12_out 45 = .ok (.istore_n 3, 1) := by decide +kernel
theorem dX12_out_46 : decode cX12_out 46 = .ok (.iconst 0, 1) := by decide +kernel
theorem dX12_out_47 : decode cX12_out 47 = .ok (.istore 4, 2) := by decide +kernel
theorem dX12_out_49 : decode cX12_out 49 = .ok (.iload 4, 2) := by decide +kernel
theorem dX12_out_51 : decode cX12_out 51 = .ok (.aload_n 0, 1) := by decide +kernel
theorem dX12_out_52 : decode cX12_out 52 = .ok (.getfield 8, 3) := by decide +kernel
theorem dX12_out_55 : decode cX12_out 55 = .ok (.bipush 7, 2) := by decide +kernel
theorem dX12_out_57 : decode cX12_out 57 = .ok (.iaload, 1) := by decide +kernel
theorem dX12_out_58 : decode cX12_out 58 = .ok (.if_icmp .ge 41, 3) := by decide +kernel
theorem dX12_out_61 : decode cX12_out 61 = .ok (.aload_n 0, 1) := by decide +kernel
theorem dX12_out_62 : decode cX12_out 62 = .ok (.getfield 8, 3) := by decide +kernel
theorem dX12_out_65 : decode cX12_out 65 = .ok (.aload_n 0, 1) := by decide +kernel
theorem dX12_out_66 : decode cX12_out 66 = .ok (.iload 4, 2) := by decide +kernel
theorem dX12_out_68 : decode cX12_out 68 = .ok (.invokevirtual 593, 3) := by decide +kernel
theorem dX12_out_71 : decode cX12_out 71 = .ok (.iaload, 1) := by decide +kernel
theorem dX12_out_72 : decode cX12_out 72 = .ok (.iload_n 1, 1) := by decide +kernel
theorem dX12_out_73 : decode cX12_out 73 = .ok (.if_icmp .ne 18, 3) := by decide +kernel
theorem dX12_out_76 : decode cX12_out 76 = .ok (.aload_n 0, 1) := by decide +kernel
theorem dX12_out_77 : decode cX12_out 77 = .ok (.iload 4, 2) := by decide +kernel
theorem dX12_out_79 : decode cX12_out 79 = .ok (.iload_n 2, 1) := by decide +kernel
theorem dX12_out_80 : decode cX12_out 80 = .ok (.invokevirtual 599, 3) := by decide +kernel
theorem dX12_out_83 : decode cX12_out 83 = .ok (.ifCond .eq 8, 3) := by decide +kernel
theorem dX12_out_86 : decode cX12_out 86 = .ok (.iload 4, 2) := by decide +kernel
theorem dX12_out_88 : decode cX12_out 88 = .ok (.goto 4, 3) := by decide +kernel
theorem dX12_out_91 : decode cX12_out 91 = .ok (.iload_n 3, 1) := by decide +kernel
theorem dX12_out_92 : decode cX12_out 92 = .ok (.istore_n 3, 1) := by decide +kernel
theorem dX12_out_93 : decode cX12_out 93 = .ok (.iinc 4 1, 3) := by decide +kernel
theorem dX12_out_96 : decode cX12_out 96 = .ok (.goto (-47), 3) := by decide +kernel
theorem dX12_out_99 : decode cX12_out 99 = .ok (.iload_n 3, 1) := by decide +kernel
theorem dX12_out_100 : decode cX12_out 100 = .ok (.iconst (-1), 1) := by decide +kernel
theorem dX12_out_101 : decode cX12_out 101 = .ok (.if_icmp .ne 10, 3) := by decide +kernel
theorem dX12_out_104 : decode cX12_out 104 = .ok (.aload_n 0, 1) := by decide +kernel
theorem dX12_out_105 : decode cX12_out 105 = .ok (.bipush (-3), 2) := by decide +kernel
theorem dX12_out_107 : decode cX12_out 107 = .ok (.invokevirtual 163, 3) := by decide +kernel
theorem dX12_out_110 : decode cX12_out 110 = .ok (.ireturn, 1) := by decide +kernel
theorem dX12_out_111 : decode cX12_out 111 = .ok (.aload_n 0, 1) := by decide +kernel
theorem dX12_out_112 : decode cX12_out 112 = .ok (.getfield 8, 3) := by decide +kernel
theorem dX12_out_115 : decode cX12_out 115 = .ok (.aload_n 0, 1) := by decide +kernel
theorem dX12_out_116 : decode cX12_out 116 = .ok (.iload_n 3, 1) := by decide +kernel
theorem dX12_out_117 : decode cX12_out 117 = .ok (.invokevirtual 593, 3) := by decide +kernel
theorem dX12_out_120 : decode cX12_out 120 = .ok (.iconst 5, 1) := by decide +kernel
theorem dX12_out_121 : decode cX12_out 121 = .ok (.iadd, 1) := by decide +kernel
theorem dX12_out_122 : decode cX12_out 122 = .ok (.iload_n 2, 1) := by decide +kernel
theorem dX12_out_123 : decode cX12_out 123 = .ok (.iastore, 1) := by decide +kernel
theorem dX12_out_124 : decode cX12_out 124 = .ok (.aload_n 0, 1) := by decide +kernel
theorem dX12_out_125 : decode cX12_out 125 = .ok (.getfield 8, 3) := by decide +kernel
theorem dX12_out_128 : decode cX12_out 128 = .ok (.bipush 12, 2) := by decide +kernel
theorem dX12_out_130 : decode cX12_out 130 = .ok (.iload_n 2, 1) := by decide +kernel
theorem dX12_out_131 : decode cX12_out 131 = .ok (.iastore, 1) := by decide +kernel
theorem dX12_out_132 : decode cX12_out 132 = .ok (.aload_n 0, 1) := by decide +kernel
theorem dX12_out_133 : decode cX12_out 133 = .ok (.iconst 0, 1) := by decide +kernel
theorem dX12_out_134 : decode cX12_out 134 = .ok (.invokevirtual 163, 3) := by decide +kernel
theorem dX12_out_137 : decode cX12_out 137 = .ok (.ireturn, 1) := by decide +kernel
theorem dX12_rent_0 : decode cX12_rent 0 = .ok (.aload_n 0, 1) := by decide +kernel
theorem dX12_rent_1 : decode cX12_rent 1 = .ok (.iconst 0, 1) := by decide +kernel
theorem dX12_rent_2 : decode cX12_rent 2 = .ok (.putfield 145, 3) := by decide +kernel
theorem dX12_rent_5 : decode cX12_rent 5 = .ok (.aload_n 0, 1) := by decide +kernel
theorem dX12_rent_6 : decode cX12_rent 6 = .ok (.iload_n 1, 1) := by decide +kernel
theorem dX12_rent_7 : decode cX12_rent 7 = .ok (.invokevirtual 471, 3) := by decide +kernel
theorem dX12_rent_10 : decode cX12_rent 10 = .ok (.ifCond .eq 17, 3) := by decide +kernel
theorem dX12_rent_13 : decode cX12_rent 13 = .ok (.iload_n 2, 1) := by decide +kernel
theorem dX12_rent_14 : decode cX12_rent 14 = .ok (.invokestatic 387, 3) := by decide +kernel
theorem dX12_rent_17 : decode cX12_rent 17 = .ok (.ifCond .eq 10, 3) := by decide +kernel
theorem dX12_rent_20 : decode cX12_rent 20 = .ok (.iload_n 3, 1) := by decide +kernel
theorem dX12_rent_21 : decode cX12_rent 21 = .ok (.invokestatic 387, 3) := by decide +kernel
theorem dX12_rent_24 : decode cX12_rent 24 = .ok (.ifCond .ne 5, 3) := by decide +kernel
theorem dX12_rent_27 : decode cX12_rent 27 = .ok (.iconst (-1), 1) := by decide +kernel
theorem dX12_rent_28 : decode cX12_rent 28 = .ok (.ireturn, 1) := by decide +kernel
theorem dX12_rent_29 : decode cX12_rent 29 = .ok (.aload_n 0, 1) := by decide +kernel
theorem dX12_rent_30 : decode cX12_rent 30 = .ok (.iload_n 3, 1) := by decide +kernel
theorem dX12_rent_31 : decode cX12_rent 31 = .ok (.invokevirtual 622, 3) := by decide +kernel
theorem dX12_rent_34 : decode cX12_rent 34 = .ok (.aload_n 0, 1) := by decide +kernel
theorem dX12_rent_35 : decode cX12_rent 35 = .ok (.iload_n 1, 1) := by decide +kernel
theorem dX12_rent_36 : decode cX12_rent 36 = .ok (.iload_n 2, 1) := by decide +kernel
theorem dX12_rent_37 : decode cX12_rent 37 = .ok (.invokevirtual 609, 3) := by decide +kernel
theorem dX12_rent_40 : decode cX12_rent 40 = .ok (.ifCond .ne 5, 3) := by decide +kernel
theorem dX12_rent_43 : decode cX12_rent 43 = .ok (.iconst (-1), 1) := by decide +kernel
theorem dX12_rent_44 : decode cX12_rent 44 = .ok (.ireturn, 1) := by decide +kernel
theorem dX12_rent_45 : decode cX12_rent 45 = .ok (.aload_n 0, 1) := by decide +kernel
theorem dX12_rent_46 : decode cX12_rent 46 = .ok (.iload_n 1, 1) := by decide +kernel
theorem dX12_rent_47 : decode cX12_rent 47 = .ok (.iload_n 2, 1) := by decide +kernel
theorem dX12_rent_48 : decode cX12_rent 48 = .ok (.invokevirtual 628, 3) := by decide +kernel
theorem dX12_rent_51 : decode cX12_rent 51 = .ok (.istore 4, 2) := by decide +kernel
theorem dX12_rent_53 : decode cX12_rent 53 = .ok (.aload_n 0, 1) := by decide +kernel
theorem dX12_rent_54 : decode cX12_rent 54 = .ok (.iconst 0, 1) := by decide +kernel
theorem dX12_rent_55 : decode cX12_rent 55 = .ok (.iload_n 2, 1) := by decide +kernel
theorem dX12_rent_56 : decode cX12_rent 56 = .ok (.invokevirtual 440, 3) := by decide +kernel
theorem dX12_rent_59 : decode cX12_rent 59 = .ok (.iload 4, 2) := by decide +kernel
theorem dX12_rent_61 : decode cX12_rent 61 = .ok (.iconst (-1), 1) := by decide +kernel
theorem dX12_rent_62 : decode cX12_rent 62 = .ok (.if_icmp .eq 21, 3) := by decide +kernel
theorem dX12_rent_65 : decode cX12_rent 65 = .ok (.aload_n 0, 1) := by decide +kernel
theorem dX12_rent_66 : decode cX12_rent 66 = .ok (.aload_n 0, 1) := by decide +kernel
theorem dX12_rent_67 : decode cX12_rent 67 = .ok (.getfield 8, 3) := by decide +kernel
theorem dX12_rent_70 : decode cX12_rent 70 = .ok (.aload_n 0, 1) := by decide +kernel
theorem dX12_rent_71 : decode cX12_rent 71 = .ok (.iload 4, 2) := by decide +kernel
theorem dX12_rent_73 : decode cX12_rent 73 = .ok (.invokevirtual 593, 3) := by decide +kernel
theorem dX12_rent_76 : decode cX12_rent 76 = .ok (.iconst 1, 1) := by decide +kernel
theorem dX12_rent_77 : decode cX12_rent 77 = .ok (.iadd, 1) := by decide +kernel
theorem dX12_rent_78 : decode cX12_rent 78 = .ok (.iaload, 1) := by decide +kernel
theorem dX12_rent_79 : decode cX12_rent 79 = .ok (.iload_n 2, 1) := by decide +kernel
theorem dX12_rent_80 : decode cX12_rent 80 = .ok (.invokevirtual 571, 3) := by decide +kernel
theorem dX12_rent_83 : decode cX12_rent 83 = .ok (.aload_n 0, 1) := by decide +kernel
theorem dX12_rent_84 : decode cX12_rent 84 = .ok (.getfield 53, 3) := by decide +kernel
theorem dX12_rent_87 : decode cX12_rent 87 = .ok (.iconst 1, 1) := by decide +kernel
theorem dX12_rent_88 : decode cX12_rent 88 = .ok (.aload_n 0, 1) := by decide +kernel
theorem dX12_rent_89 : decode cX12_rent 89 = .ok (.iload_n 1, 1) := by decide +kernel
theorem dX12_rent_90 : decode cX12_rent 90 = .ok (.invokevirtual 504, 3) := by decide +kernel
theorem dX12_rent_93 : decode cX12_rent 93 = .ok (.iastore, 1) := by decide +kernel
theorem dX12_rent_94 : decode cX12_rent 94 = .ok (.aload_n 0, 1) := by decide +kernel
theorem dX12_rent_95 : decode cX12_rent 95 = .ok (.iconst 5, 1) := by decide +kernel
theorem dX12_rent_96 : decode cX12_rent 96 = .ok (.iconst 0, 1) := by decide +kernel
theorem dX12_rent_97 : decode cX12_rent 97 = .ok (.iconst 0, 1) := by decide +kernel
theorem dX12_rent_98 : decode cX12_rent 98 = .ok (.iconst 0, 1) := by decide +kernel
theorem dX12_rent_99 : decode cX12_rent 99 = .ok (.iload_n 2, 1) := by decide +kernel
theorem dX12_rent_100 : decode cX12_rent 100 = .ok (.invokevirtual 443, 3) := by decide +kernel
theorem dX12_rent_103 : decode cX12_rent 103 = .ok (.pop, 1) := by decide +kernel
theorem dX12_rent_104 : decode cX12_rent 104 = .ok (.aload_n 0, 1) := by decide +kernel
theorem dX12_rent_105 : decode cX12_rent 105 = .ok (.getfield 433, 3) := by decide +kernel
theorem dX12_rent_108 : decode cX12_rent 108 = .ok (.lconst 0, 1) := by decide +kernel
theorem dX12_rent_109 : decode cX12_rent 109 = .ok (.lcmp, 1) := by decide +kernel
theorem dX12_rent_110 : decode cX12_rent 110 = .ok (.ifCond .ge 7, 3) := by decide +kernel
theorem dX12_rent_113 : decode cX12_rent 113 = .ok (.iconst 0, 1) := by decide +kernel
theorem dX12_rent_114 : decode cX12_rent 114 = .ok (.goto 10, 3) := by decide +kernel
theorem dX12_rent_117 : decode cX12_rent 117 = .ok (.aload_n 0, 1) := by decide +kernel
theorem dX12_rent_118 : decode cX12_rent 118 = .ok (.getfield 433, 3) := by decide +kernel
theorem dX12_rent_121 : decode cX12_rent 121 = .ok (.invokestatic 580, 3) := by decide +kernel
theorem dX12_rent_124 : decode cX12_rent 124 = .ok (.ireturn, 1) := by decide +kernel
theorem dX12_lodge_0 : decode cX12_lodge 0 = .ok (.aload_n 0, 1) := by decide +kernel
theorem dX12_lodge_1 : decode cX12_lodge 1 = .ok (.iconst 0, 1) := by decide +kernel
theorem dX12_lodge_2 : decode cX12_lodge 2 = .ok (.putfield 145, 3) := by decide +kernel
theorem dX12_lodge_5 : decode cX12_lodge 5 = .ok (.iload_n 2, 1) := by decide +kernel
theorem dX12_lodge_6 : decode cX12_lodge 6 = .ok (.i2l, 1) := by decide +kernel
theorem dX12_lodge_7 : decode cX12_lodge 7 = .ok (.lconst 1, 1) := by decide +kernel
theorem dX12_lodge_8 : decode cX12_lodge 8 = .ok (.ldc2_w 553, 3) := by decide +kernel
theorem dX12_lodge_11 : decode cX12_lodge 11 = .ok (.invokestatic 153, 3) := by decide +kernel
theorem dX12_lodge_14 : decode cX12_lodge 14 = .ok (.ifCond .eq 23, 3) := by decide +kernel
theorem dX12_lodge_17 : decode cX12_lodge 17 = .ok (.iload 4, 2) := by decide +kernel
theorem dX12_lodge_19 : decode cX12_lodge 19 = .ok (.invokestatic 387, 3) := by decide +kernel
theorem dX12_lodge_22 : decode cX12_lodge 22 = .ok (.ifCond .eq 15, 3) := by decide +kernel
theorem dX12_lodge_25 : decode cX12_lodge 25 = .ok (.iload_n 3, 1) := by decide +kernel
theorem dX12_lodge_26 : decode cX12_lodge 26 = .ok (.i2l, 1) := by decide +kernel
theorem dX12_lodge_27 : decode cX12_lodge 27 = .ok (.lconst 0, 1) := by decide +kernel
theorem dX12_lodge_28 : decode cX12_lodge 28 = .ok (.iload 4, 2) := by decide +kernel
theorem dX12_lodge_30 : decode cX12_lodge 30 = .ok (.i2l, 1) := by decide +kernel
theorem dX12_lodge_31 : decode cX12_lodge 31 = .ok (.invokestatic 153, 3) := by decide +kernel
theorem dX12_lodge_34 : decode cX12_lodge 34 = .ok (.ifCond .ne 9, 3) := by decide +kernel
theorem dX12_lodge_37 : decode cX12_lodge 37 = .ok (.aload_n 0, 1) := by decide +kernel
theorem dX12_lodge_38 : decode cX12_lodge 38 = .ok (.iconst (-1), 1) := by decide +kernel
theorem dX12_lodge_39 : decode cX12_lodge 39 = .ok (.invokevirtual 163, 3) := by decide +kernel
theorem dX12_lodge_42 : decode cX12_lodge 42 = .ok (.ireturn, 1) := by decide +kernel
theorem dX12_lodge_43 : decode cX12_lodge 43 = .ok (.aload_n 0, 1) := by decide +kernel
theorem dX12_lodge_44 : decode cX12_lodge 44 = .ok (.iload_n 1, 1) := by decide +kernel
theorem dX12_lodge_45 : decode cX12_lodge 45 = .ok (.invokevirtual 471, 3) := by decide +kernel
theorem dX12_lodge_48 : decode cX12_lodge 48 = .ok (.ifCond .ne 10, 3) := by decide +kernel
theorem dX12_lodge_51 : decode cX12_lodge 51 = .ok (.aload_n 0, 1) := by decide +kernel
theorem dX12_lodge_52 : decode cX12_lodge 52 = .ok (.bipush (-2), 2) := by decide +kernel
theorem dX12_lodge_54 : decode cX12_lodge 54 = .ok (.invokevirtual 163, 3) := by decide +kernel
theorem dX12_lodge_57 : decode cX12_lodge 57 = .ok (.ireturn, 1) := by decide +kernel
theorem dX12_lodge_58 : decode cX12_lodge 58 = .ok (.aload_n 0, 1) := by decide +kernel
theorem dX12_lodge_59 : decode cX12_lodge 59 = .ok (.getfield 8, 3) := by decide +kernel
theorem dX12_lodge_62 : decode cX12_lodge 62 = .ok (.bipush 9, 2) := by decide +kernel
theorem dX12_lodge_64 : decode cX12_lodge 64 = .ok (.iaload, 1) := by decide +kernel
theorem dX12_lodge_65 : decode cX12_lodge 65 = .ok (.bipush 40, 2) := by decide +kernel
theorem dX12_lodge_67 : decode cX12_lodge 67 = .ok (.if_icmp .ne 10, 3) := by decide +kernel
theorem dX12_lodge_70 : decode cX12_lodge 70 = .ok (.aload_n 0, 1) := by decide +kernel
theorem dX12_lodge_71 : decode cX12_lodge 71 = .ok (.bipush (-5), 2) := by decide +kernel
theorem dX12_lodge_73 : decode cX12_lodge 73 = .ok (.invokevirtual 163, 3) := by decide +kernel
theorem dX12_lodge_76 : decode cX12_lodge 76 = .ok (.ireturn, 1) := by decide +kernel
theorem dX12_lodge_77 : decode cX12_lodge 77 = .ok (.aload_n 0, 1) := by decide +kernel
theorem dX12_lodge_78 : decode cX12_lodge 78 = .ok (.sipush 24432, 3) := by decide +kernel
theorem dX12_lodge_81 : decode cX12_lodge 81 = .ok (.iconst 4, 1) := by decide +kernel
theorem dX12_lodge_82 : decode cX12_lodge 82 = .ok (.aload_n 0, 1) := by decide +kernel
theorem dX12_lodge_83 : decode cX12_lodge 83 = .ok (.getfield 8, 3) := by decide +kernel
theorem dX12_lodge_86 : decode cX12_lodge 86 = .ok (.bipush 9, 2) := by decide +kernel
theorem dX12_lodge_88 : decode cX12_lodge 88 = .ok (.iaload, 1) := by decide +kernel
theorem dX12_lodge_89 : decode cX12_lodge 89 = .ok (.imul, 1) := by decide +kernel
theorem dX12_lodge_90 : decode cX12_lodge 90 = .ok (.iadd, 1) := by decide +kernel
theorem dX12_lodge_91 : decode cX12_lodge 91 = .ok (.iload_n 1, 1) := by decide +kernel
theorem dX12_lodge_92 : decode cX12_lodge 92 = .ok (.iload_n 2, 1) := by decide +kernel
theorem dX12_lodge_93 : decode cX12_lodge 93 = .ok (.iload_n 3, 1) := by decide +kernel
theorem dX12_lodge_94 : decode cX12_lodge 94 = .ok (.iload 4, 2) := by decide +kernel
theorem dX12_lodge_96 : decode cX12_lodge 96 = .ok (.invokevirtual 458, 3) := by decide +kernel
theorem dX12_lodge_99 : decode cX12_lodge 99 = .ok (.aload_n 0, 1) := by decide +kernel
theorem dX12_lodge_100 : decode cX12_lodge 100 = .ok (.getfield 8, 3) := by decide +kernel
theorem dX12_lodge_103 : decode cX12_lodge 103 = .ok (.bipush 9, 2) := by decide +kernel
theorem dX12_lodge_105 : decode cX12_lodge 105 = .ok (.dup2, 1) := by decide +kernel
theorem dX12_lodge_106 : decode cX12_lodge 106 = .ok (.iaload, 1) := by decide +kernel
theorem dX12_lodge_107 : decode cX12_lodge 107 = .ok (.iconst 1, 1) := by decide +kernel
theorem dX12_lodge_108 : decode cX12_lodge 108 = .ok (.iadd, 1) := by decide +kernel
theorem dX12_lodge_109 : decode cX12_lodge 109 = .ok (.iastore, 1) := by decide +kernel
theorem dX12_lodge_110 : decode cX12_lodge 110 = .ok (.aload_n 0, 1) := by decide +kernel
theorem dX12_lodge_111 : decode cX12_lodge 111 = .ok (.aload_n 0, 1) := by decide +kernel
theorem dX12_lodge_112 : decode cX12_lodge 112 = .ok (.getfield 8, 3) := by decide +kernel
theorem dX12_lodge_115 : decode cX12_lodge 115 = .ok (.bipush 9, 2) := by decide +kernel
theorem dX12_lodge_117 : decode cX12_lodge 117 = .ok (.iaload, 1) := by decide +kernel
theorem dX12_lodge_118 : decode cX12_lodge 118 = .ok (.invokevirtual 163, 3) := by decide +kernel
theorem dX12_lodge_121 : decode cX12_lodge 121 = .ok (.ireturn, 1) := by decide +kernel
theorem dX12_under_0 : decode cX12_under 0 = .ok (.aload_n 0, 1) := by decide +kernel
theorem dX12_under_1 : decode cX12_under 1 = .ok (.iconst 0, 1) := by decide +kernel
theorem dX12_under_2 : decode cX12_under 2 = .ok (.putfield 145, 3) := by decide +kernel
theorem dX12_under_5 : decode cX12_under 5 = .ok (.aload_n 0, 1) := by decide +kernel
theorem dX12_under_6 : decode cX12_under 6 = .ok (.iload_n 1, 1) := by decide +kernel
theorem dX12_under_7 : decode cX12_under 7 = .ok (.invokevirtual 471, 3) := by decide +kernel
theorem dX12_under_10 : decode cX12_under 10 = .ok (.ifCond .eq 10, 3) := by decide +kernel
theorem dX12_under_13 : decode cX12_under 13 = .ok (.iload_n 2, 1) := by decide +kernel
theorem dX12_under_14 : decode cX12_under 14 = .ok (.invokestatic 387, 3) := by decide +kernel
theorem dX12_under_17 : decode cX12_under 17 = .ok (.ifCond .ne 5, 3) := by decide +kernel
theorem dX12_under_20 : decode cX12_under 20 = .ok (.iconst (-1), 1) := by decide +kernel
theorem dX12_under_21 : decode cX12_under 21 = .ok (.ireturn, 1) := by decide +kernel
theorem dX12_under_22 : decode cX12_under 22 = .ok (.aload_n 0, 1) := by decide +kernel
theorem dX12_under_23 : decode cX12_under 23 = .ok (.iload_n 1, 1) := by decide +kernel
theorem dX12_under_24 : decode cX12_under 24 = .ok (.iload_n 2, 1) := by decide +kernel
theorem dX12_under_25 : decode cX12_under 25 = .ok (.invokevirtual 628, 3) := by decide +kernel
theorem dX12_under_28 : decode cX12_under 28 = .ok (.istore_n 3, 1) := by decide +kernel
theorem dX12_under_29 : decode cX12_under 29 = .ok (.iload_n 3, 1) := by decide +kernel
theorem dX12_under_30 : decode cX12_under 30 = .ok (.iconst (-1), 1) := by decide +kernel
theorem dX12_under_31 : decode cX12_under 31 = .ok (.if_icmp .ne 7, 3) := by decide +kernel
theorem dX12_under_34 : decode cX12_under 34 = .ok (.iconst 0, 1) := by decide +kernel
theorem dX12_under_35 : decode cX12_under 35 = .ok (.goto 20, 3) := by decide +kernel
theorem dX12_under_38 : decode cX12_under 38 = .ok (.aload_n 0, 1) := by decide +kernel
theorem dX12_under_39 : decode cX12_under 39 = .ok (.aload_n 0, 1) := by decide +kernel
theorem dX12_under_40 : decode cX12_under 40 = .ok (.getfield 8, 3) := by decide +kernel
theorem dX12_under_43 : decode cX12_under 43 = .ok (.aload_n 0, 1) := by decide +kernel
theorem dX12_under_44 : decode cX12_under 44 = .ok (.iload_n 3, 1) := by decide +kernel
theorem dX12_under_45 : decode cX12_under 45 = .ok (.invokevirtual 593, 3) := by decide +kernel
theorem dX12_under_48 : decode cX12_under 48 = .ok (.iconst 1, 1) := by decide +kernel
theorem dX12_under_49 : decode cX12_under 49 = .ok (.iadd, 1) := by decide +kernel
theorem dX12_under_50 : decode cX12_under 50 = .ok (.iaload, 1) := by decide +kernel
theorem dX12_under_51 : decode cX12_under 51 = .ok (.iconst 2, 1) := by decide +kernel
theorem dX12_under_52 : decode cX12_under 52 = .ok (.invokevirtual 562, 3) := by decide +kernel
theorem dX12_under_55 : decode cX12_under 55 = .ok (.istore 4, 2) := by decide +kernel
theorem dX12_under_57 : decode cX12_under 57 = .ok (.iconst 0, 1) := by decide +kernel
theorem dX12_under_58 : decode cX12_under 58 = .ok (.istore 5, 2) := by decide +kernel
theorem dX12_under_60 : decode cX12_under 60 = .ok (.iload 5, 2) := by decide +kernel
theorem dX12_under_62 : decode cX12_under 62 = .ok (.aload_n 0, 1) := by decide +kernel
theorem dX12_under_63 : decode cX12_under 63 = .ok (.getfield 8, 3) := by decide +kernel
theorem dX12_under_66 : decode cX12_under 66 = .ok (.bipush 9, 2) := by decide +kernel
theorem dX12_under_68 : decode cX12_under 68 = .ok (.iaload, 1) := by decide +kernel
theorem dX12_under_69 : decode cX12_under 69 = .ok (.if_icmp .ge 76, 3) := by decide +kernel
theorem dX12_under_72 : decode cX12_under 72 = .ok (.sipush 24432, 3) := by decide +kernel
theorem dX12_under_75 : decode cX12_under 75 = .ok (.iconst 4, 1) := by decide +kernel
theorem dX12_under_76 : decode cX12_under 76 = .ok (.iload 5, 2) := by decide +kernel
theorem dX12_under_78 : decode cX12_under 78 = .ok (.imul, 1) := by decide +kernel
theorem dX12_under_79 : decode cX12_under 79 = .ok (.iadd, 1) := by decide +kernel
theorem dX12_under_80 : decode cX12_under 80 = .ok (.istore 6, 2) := by decide +kernel
theorem dX12_under_82 : decode cX12_under 82 = .ok (.iload 4, 2) := by decide +kernel
theorem dX12_under_84 : decode cX12_under 84 = .ok (.aload_n 0, 1) := by decide +kernel
theorem dX12_under_85 : decode cX12_under 85 = .ok (.getfield 8, 3) := by decide +kernel
theorem dX12_under_88 : decode cX12_under 88 = .ok (.iload 6, 2) := by decide +kernel
theorem dX12_under_90 : decode cX12_under 90 = .ok (.iaload, 1) := by decide +kernel
theorem dX12_under_91 : decode cX12_under 91 = .ok (.iload_n 1, 1) := by decide +kernel
theorem dX12_under_92 : decode cX12_under 92 = .ok (.if_icmp .ne 43, 3) := by decide +kernel
theorem dX12_under_95 : decode cX12_under 95 = .ok (.iload_n 2, 1) := by decide +kernel
theorem dX12_under_96 : decode cX12_under 96 = .ok (.i2l, 1) := by decide +kernel
theorem dX12_under_97 : decode cX12_under 97 = .ok (.aload_n 0, 1) := by decide +kernel
theorem dX12_under_98 : decode cX12_under 98 = .ok (.getfield 8, 3) := by decide +kernel
theorem dX12_under_101 : decode cX12_under 101 = .ok (.iload 6, 2) := by decide +kernel
theorem dX12_under_103 : decode cX12_under 103 = .ok (.iconst 2, 1) := by decide +kernel
theorem dX12_under_104 : decode cX12_under 104 = .ok (.iadd, 1) := by decide +kernel
theorem dX12_under_105 : decode cX12_under 105 = .ok (.iaload, 1) := by decide +kernel
theorem dX12_under_106 : decode cX12_under 106 = .ok (.i2l, 1) := by decide +kernel
theorem dX12_under_107 : decode cX12_under 107 = .ok (.aload_n 0, 1) := by decide +kernel
theorem dX12_under_108 : decode cX12_under 108 = .ok (.getfield 8, 3) := by decide +kernel
theorem dX12_under_111 : decode cX12_under 111 = .ok (.iload 6, 2) := by decide +kernel
theorem dX12_under_113 : decode cX12_under 113 = .ok (.iconst 3, 1) := by decide +kernel
theorem dX12_under_114 : decode cX12_under 114 = .ok (.iadd, 1) := by decide +kernel
theorem dX12_under_115 : decode cX12_under 115 = .ok (.iaload, 1) := by decide +kernel
theorem dX12_under_116 : decode cX12_under 116 = .ok (.i2l, 1) := by decide +kernel
theorem dX12_under_117 : decode cX12_under 117 = .ok (.invokestatic 153, 3) := by decide +kernel
theorem dX12_under_120 : decode cX12_under 120 = .ok (.ifCond .eq 15, 3) := by decide +kernel
theorem dX12_under_123 : decode cX12_under 123 = .ok (.aload_n 0, 1) := by decide +kernel
theorem dX12_under_124 : decode cX12_under 124 = .ok (.getfield 8, 3) := by decide +kernel
theorem dX12_under_127 : decode cX12_under 127 = .ok (.iload 6, 2) := by decide +kernel
theorem dX12_under_129 : decode cX12_under 129 = .ok (.iconst 1, 1) := by decide +kernel
theorem dX12_under_130 : decode cX12_under 130 = .ok (.iadd, 1) := by decide +kernel
theorem dX12_under_131 : decode cX12_under 131 = .ok (.iaload, 1) := by decide +kernel
theorem dX12_under_132 : decode cX12_under 132 = .ok (.goto 4, 3) := by decide +kernel
theorem dX12_under_135 : decode cX12_under 135 = .ok (.iconst 0, 1) := by decide +kernel
theorem dX12_under_136 : decode cX12_under 136 = .ok (.iadd, 1) := by decide +kernel
theorem dX12_under_137 : decode cX12_under 137 = .ok (.istore 4, 2) := by decide +kernel
theorem dX12_under_139 : decode cX12_under 139 = .ok (.iinc 5 1, 3) := by decide +kernel
theorem dX12_under_142 : decode cX12_under 142 = .ok (.goto (-82), 3) := by decide +kernel
theorem dX12_under_145 : decode cX12_under 145 = .ok (.iload 4, 2) := by decide +kernel
theorem dX12_under_147 : decode cX12_under 147 = .ok (.ireturn, 1) := by decide +kernel
theorem dX12_isTarget_0 : decode cX12_isTarget 0 = .ok (.iload_n 0, 1) := by decide +kernel
theorem dX12_isTarget_1 : decode cX12_isTarget 1 = .ok (.invokestatic 466, 3) := by decide +kernel
theorem dX12_isTarget_4 : decode cX12_isTarget 4 = .ok (.ifCond .eq 14, 3) := by decide +kernel
theorem dX12_isTarget_7 : decode cX12_isTarget 7 = .ok (.iload_n 1, 1) := by decide +kernel
theorem dX12_isTarget_8 : decode cX12_isTarget 8 = .ok (.invokestatic 535, 3) := by decide +kernel
theorem dX12_isTarget_11 : decode cX12_isTarget 11 = .ok (.ifCond .eq 7, 3) := by decide +kernel
theorem dX12_isTarget_14 : decode cX12_isTarget 14 = .ok (.iconst 1, 1) := by decide +kernel
theorem dX12_isTarget_15 : decode cX12_isTarget 15 = .ok (.goto 4, 3) := by decide +kernel
theorem dX12_isTarget_18 : decode cX12_isTarget 18 = .ok (.iconst 0, 1) := by decide +kernel
theorem dX12_isTarget_19 : decode cX12_isTarget 19 = .ok (.ireturn, 1) := by decide +kernel
theorem dX12_target_0 : decode cX12_target 0 = .ok (.aload_n 0, 1) := by decide +kernel
theorem dX12_target_1 : decode cX12_target 1 = .ok (.iconst 0, 1) := by decide +kernel
theorem dX12_target_2 : decode cX12_target 2 = .ok (.putfield 145, 3) := by decide +kernel
theorem dX12_target_5 : decode cX12_target 5 = .ok (.iload_n 1, 1) := by decide +kernel
theorem dX12_target_6 : decode cX12_target 6 = .ok (.iload_n 2, 1) := by decide +kernel
theorem dX12_target_7 : decode cX12_target 7 = .ok (.invokestatic 631, 3) := by decide +kernel
theorem dX12_target_10 : decode cX12_target 10 = .ok (.ifCond .eq 15, 3) := by decide +kernel
theorem dX12_target_13 : decode cX12_target 13 = .ok (.iload_n 3, 1) := by decide +kernel
theorem dX12_target_14 : decode cX12_target 14 = .ok (.i2l, 1) := by decide +kernel
theorem dX12_target_15 : decode cX12_target 15 = .ok (.lconst 0, 1) := by decide +kernel
theorem dX12_target_16 : decode cX12_target 16 = .ok (.ldc2_w 279, 3) := by decide +kernel
theorem dX12_target_19 : decode cX12_target 19 = .ok (.invokestatic 153, 3) := by decide +kernel
theorem dX12_target_22 : decode cX12_target 22 = .ok (.ifCond .ne 9, 3) := by decide +kernel
theorem dX12_target_25 : decode cX12_target 25 = .ok (.aload_n 0, 1) := by decide +kernel
theorem dX12_target_26 : decode cX12_target 26 = .ok (.iconst (-1), 1) := by decide +kernel
theorem dX12_target_27 : decode cX12_target 27 = .ok (.invokevirtual 163, 3) := by decide +kernel
theorem dX12_target_30 : decode cX12_target 30 = .ok (.ireturn, 1) := by decide +kernel
theorem dX12_target_31 : decode cX12_target 31 = .ok (.aload_n 0, 1) := by decide +kernel
theorem dX12_target_32 : decode cX12_target 32 = .ok (.getfield 8, 3) := by decide +kernel
theorem dX12_target_35 : decode cX12_target 35 = .ok (.sipush 24592, 3) := by decide +kernel
theorem dX12_target_38 : decode cX12_target 38 = .ok (.bipush 20, 2) := by decide +kernel
theorem dX12_target_40 : decode cX12_target 40 = .ok (.iload_n 1, 1) := by decide +kernel
theorem dX12_target_41 : decode cX12_target 41 = .ok (.imul, 1) := by decide +kernel
theorem dX12_target_42 : decode cX12_target 42 = .ok (.iadd, 1) := by decide +kernel
theorem dX12_target_43 : decode cX12_target 43 = .ok (.iload_n 2, 1) := by decide +kernel
theorem dX12_target_44 : decode cX12_target 44 = .ok (.iadd, 1) := by decide +kernel
theorem dX12_target_45 : decode cX12_target 45 = .ok (.iload_n 3, 1) := by decide +kernel
theorem dX12_target_46 : decode cX12_target 46 = .ok (.iconst 1, 1) := by decide +kernel
theorem dX12_target_47 : decode cX12_target 47 = .ok (.iadd, 1) := by decide +kernel
theorem dX12_target_48 : decode cX12_target 48 = .ok (.iastore, 1) := by decide +kernel
theorem dX12_target_49 : decode cX12_target 49 = .ok (.aload_n 0, 1) := by decide +kernel
theorem dX12_target_50 : decode cX12_target 50 = .ok (.iconst 0, 1) := by decide +kernel
theorem dX12_target_51 : decode cX12_target 51 = .ok (.invokevirtual 163, 3) := by decide +kernel
theorem dX12_target_54 : decode cX12_target 54 = .ok (.ireturn, 1) := by decide +kernel
theorem dX12_street_0 : decode cX12_street 0 = .ok (.aload_n 0, 1) := by decide +kernel
theorem dX12_street_1 : decode cX12_street 1 = .ok (.iconst 0, 1) := by decide +kernel
theorem dX12_street_2 : decode cX12_street 2 = .ok (.putfield 145, 3) := by decide +kernel
theorem dX12_street_5 : decode cX12_street 5 = .ok (.iload_n 2, 1) := by decide +kernel
theorem dX12_street_6 : decode cX12_street 6 = .ok (.iload_n 3, 1) := by decide +kernel
theorem dX12_street_7 : decode cX12_street 7 = .ok (.invokestatic 631, 3) := by decide +kernel
theorem dX12_street_10 : decode cX12_street 10 = .ok (.ifCond .eq 29, 3) := by decide +kernel
theorem dX12_street_13 : decode cX12_street 13 = .ok (.iload 4, 2) := by decide +kernel
theorem dX12_street_15 : decode cX12_street 15 = .ok (.i2l, 1) := by decide +kernel
theorem dX12_street_16 : decode cX12_street 16 = .ok (.lconst 0, 1) := by decide +kernel
theorem dX12_street_17 : decode cX12_street 17 = .ok (.ldc2_w 159, 3) := by decide +kernel
theorem dX12_street_20 : decode cX12_street 20 = .ok (.invokestatic 153, 3) := by decide +kernel
theorem dX12_street_23 : decode cX12_street 23 = .ok (.ifCond .eq 16, 3) := by decide +kernel
theorem dX12_street_26 : decode cX12_street 26 = .ok (.iload 5, 2) := by decide +kernel
theorem dX12_street_28 : decode cX12_street 28 = .ok (.i2l, 1) := by decide +kernel
theorem dX12_street_29 : decode cX12_street 29 = .ok (.lconst 0, 1) := by decide +kernel
theorem dX12_street_30 : decode cX12_street 30 = .ok (.ldc2_w 462, 3) := by decide +kernel
theorem dX12_street_33 : decode cX12_street 33 = .ok (.invokestatic 153, 3) := by decide +kernel
theorem dX12_street_36 : decode cX12_street 36 = .ok (.ifCond .ne 9, 3) := by decide +kernel
theorem dX12_street_39 : decode cX12_street 39 = .ok (.aload_n 0, 1) := by decide +kernel
theorem dX12_street_40 : decode cX12_street 40 = .ok (.iconst (-1), 1) := by decide +kernel
theorem dX12_street_41 : decode cX12_street 41 = .ok (.invokevirtual 163, 3) := by decide +kernel
theorem dX12_street_44 : decode cX12_street 44 = .ok (.ireturn, 1) := by decide +kernel
theorem dX12_street_45 : decode cX12_street 45 = .ok (.aload_n 0, 1) := by decide +kernel
theorem dX12_street_46 : decode cX12_street 46 = .ok (.getfield 8, 3) := by decide +kernel
theorem dX12_street_49 : decode cX12_street 49 = .ok (.iload_n 1, 1) := by decide +kernel
theorem dX12_street_50 : decode cX12_street 50 = .ok (.bipush 20, 2) := by decide +kernel
theorem dX12_street_52 : decode cX12_street 52 = .ok (.iload_n 2, 1) := by decide +kernel
theorem dX12_street_53 : decode cX12_street 53 = .ok (.imul, 1) := by decide +kernel
theorem dX12_street_54 : decode cX12_street 54 = .ok (.iload_n 3, 1) := by decide +kernel
theorem dX12_street_55 : decode cX12_street 55 = .ok (.iadd, 1) := by decide +kernel
theorem dX12_street_56 : decode cX12_street 56 = .ok (.bipush 20, 2) := by decide +kernel
theorem dX12_street_58 : decode cX12_street 58 = .ok (.imul, 1) := by decide +kernel
theorem dX12_street_59 : decode cX12_street 59 = .ok (.iadd, 1) := by decide +kernel
theorem dX12_street_60 : decode cX12_street 60 = .ok (.iload 4, 2) := by decide +kernel
theorem dX12_street_62 : decode cX12_street 62 = .ok (.iadd, 1) := by decide +kernel
theorem dX12_street_63 : decode cX12_street 63 = .ok (.iload 5, 2) := by decide +kernel
theorem dX12_street_65 : decode cX12_street 65 = .ok (.iconst 1, 1) := by decide +kernel
theorem dX12_street_66 : decode cX12_street 66 = .ok (.iadd, 1) := by decide +kernel
theorem dX12_street_67 : decode cX12_street 67 = .ok (.iastore, 1) := by decide +kernel
theorem dX12_street_68 : decode cX12_street 68 = .ok (.aload_n 0, 1) := by decide +kernel
theorem dX12_street_69 : decode cX12_street 69 = .ok (.iconst 0, 1) := by decide +kernel
theorem dX12_street_70 : decode cX12_street 70 = .ok (.invokevirtual 163, 3) := by decide +kernel
theorem dX12_street_73 : decode cX12_street 73 = .ok (.ireturn, 1) := by decide +kernel
theorem dX12_claim_0 : decode cX12_claim 0 = .ok (.aload_n 0, 1) := by decide +kernel
theorem dX12_claim_1 : decode cX12_claim 1 = .ok (.sipush 24712, 3) := by decide +kernel
theorem dX12_claim_4 : decode cX12_claim 4 = .ok (.iload_n 1, 1) := by decide +kernel
theorem dX12_claim_5 : decode cX12_claim 5 = .ok (.iload_n 2, 1) := by decide +kernel
theorem dX12_claim_6 : decode cX12_claim 6 = .ok (.iload_n 3, 1) := by decide +kernel
theorem dX12_claim_7 : decode cX12_claim 7 = .ok (.iload 4, 2) := by decide +kernel
theorem dX12_claim_9 : decode cX12_claim 9 = .ok (.invokevirtual 634, 3) := by decide +kernel
theorem dX12_claim_12 : decode cX12_claim 12 = .ok (.ireturn, 1) := by decide +kernel
theorem dX12_look_0 : decode cX12_look 0 = .ok (.aload_n 0, 1) := by decide +kernel
theorem dX12_look_1 : decode cX12_look 1 = .ok (.sipush 27112, 3) := by decide +kernel
theorem dX12_look_4 : decode cX12_look 4 = .ok (.iload_n 1, 1) := by decide +kernel
theorem dX12_look_5 : decode cX12_look 5 = .ok (.iload_n 2, 1) := by decide +kernel
theorem dX12_look_6 : decode cX12_look 6 = .ok (.iload_n 3, 1) := by decide +kernel
theorem dX12_look_7 : decode cX12_look 7 = .ok (.iload 4, 2) := by decide +kernel
theorem dX12_look_9 : decode cX12_look 9 = .ok (.invokevirtual 634, 3) := by decide +kernel
theorem dX12_look_12 : decode cX12_look 12 = .ok (.ireturn, 1) := by decide +kernel
theorem dX12_truth_0 : decode cX12_truth 0 = .ok (.aload_n 0, 1) := by decide +kernel
theorem dX12_truth_1 : decode cX12_truth 1 = .ok (.iconst 0, 1) := by decide +kernel
theorem dX12_truth_2 : decode cX12_truth 2 = .ok (.putfield 145, 3) := by decide +kernel
theorem dX12_truth_5 : decode cX12_truth 5 = .ok (.iload_n 1, 1) := by decide +kernel
theorem dX12_truth_6 : decode cX12_truth 6 = .ok (.iload_n 2, 1) := by decide +kernel
theorem dX12_truth_7 : decode cX12_truth 7 = .ok (.invokestatic 631, 3) := by decide +kernel
theorem dX12_truth_10 : decode cX12_truth 10 = .ok (.ifCond .eq 15, 3) := by decide +kernel
theorem dX12_truth_13 : decode cX12_truth 13 = .ok (.iload_n 3, 1) := by decide +kernel
theorem dX12_truth_14 : decode cX12_truth 14 = .ok (.i2l, 1) := by decide +kernel
theorem dX12_truth_15 : decode cX12_truth 15 = .ok (.lconst 0, 1) := by decide +kernel
theorem dX12_truth_16 : decode cX12_truth 16 = .ok (.ldc2_w 456, 3) := by decide +kernel
theorem dX12_truth_19 : decode cX12_truth 19 = .ok (.invokestatic 153, 3) := by decide +kernel
theorem dX12_truth_22 : decode cX12_truth 22 = .ok (.ifCond .ne 5, 3) := by decide +kernel
theorem dX12_truth_25 : decode cX12_truth 25 = .ok (.iconst (-1), 1) := by decide +kernel
theorem dX12_truth_26 : decode cX12_truth 26 = .ok (.ireturn, 1) := by decide +kernel
theorem dX12_truth_27 : decode cX12_truth 27 = .ok (.iconst 0, 1) := by decide +kernel
theorem dX12_truth_28 : decode cX12_truth 28 = .ok (.istore 4, 2) := by decide +kernel
theorem dX12_truth_30 : decode cX12_truth 30 = .ok (.iconst 0, 1) := by decide +kernel
theorem dX12_truth_31 : decode cX12_truth 31 = .ok (.istore 5, 2) := by decide +kernel
theorem dX12_truth_33 : decode cX12_truth 33 = .ok (.iconst 0, 1) := by decide +kernel
theorem dX12_truth_34 : decode cX12_truth 34 = .ok (.istore 6, 2) := by decide +kernel
theorem dX12_truth_36 : decode cX12_truth 36 = .ok (.iconst 0, 1) := by decide +kernel
theorem dX12_truth_37 : decode cX12_truth 37 = .ok (.istore 7, 2) := by decide +kernel
theorem dX12_truth_39 : decode cX12_truth 39 = .ok (.iload 7, 2) := by decide +kernel
theorem dX12_truth_41 : decode cX12_truth 41 = .ok (.bipush 20, 2) := by decide +kernel
theorem dX12_truth_43 : decode cX12_truth 43 = .ok (.if_icmp .ge 111, 3) := by decide +kernel
theorem dX12_truth_46 : decode cX12_truth 46 = .ok (.bipush 20, 2) := by decide +kernel
theorem dX12_truth_48 : decode cX12_truth 48 = .ok (.iload_n 1, 1) := by decide +kernel
theorem dX12_truth_49 : decode cX12_truth 49 = .ok (.imul, 1) := by decide +kernel
theorem dX12_truth_50 : decode cX12_truth 50 = .ok (.iload_n 2, 1) := by decide +kernel
theorem dX12_truth_51 : decode cX12_truth 51 = .ok (.iadd, 1) := by decide +kernel
theorem dX12_truth_52 : decode cX12_truth 52 = .ok (.bipush 20, 2) := by decide +kernel
theorem dX12_truth_54 : decode cX12_truth 54 = .ok (.imul, 1) := by decide +kernel
theorem dX12_truth_55 : decode cX12_truth 55 = .ok (.iload 7, 2) := by decide +kernel
theorem dX12_truth_57 : decode cX12_truth 57 = .ok (.iadd, 1) := by decide +kernel
theorem dX12_truth_58 : decode cX12_truth 58 = .ok (.istore 8, 2) := by decide +kernel
theorem dX12_truth_60 : decode cX12_truth 60 = .ok (.aload_n 0, 1) := by decide +kernel
theorem dX12_truth_61 : decode cX12_truth 61 = .ok (.getfield 8, 3) := by decide +kernel
theorem dX12_truth_64 : decode cX12_truth 64 = .ok (.sipush 24712, 3) := by decide +kernel
theorem dX12_truth_67 : decode cX12_truth 67 = .ok (.iload 8, 2) := by decide +kernel
theorem dX12_truth_69 : decode cX12_truth 69 = .ok (.iadd, 1) := by decide +kernel
theorem dX12_truth_70 : decode cX12_truth 70 = .ok (.iaload, 1) := by decide +kernel
theorem dX12_truth_71 : decode cX12_truth 71 = .ok (.ifCond .ne 7, 3) := by decide +kernel
theorem dX12_truth_74 : decode cX12_truth 74 = .ok (.iconst 0, 1) := by decide +kernel
theorem dX12_truth_75 : decode cX12_truth 75 = .ok (.goto 16, 3) := by decide +kernel
theorem dX12_truth_78 : decode cX12_truth 78 = .ok (.aload_n 0, 1) := by decide +kernel
theorem dX12_truth_79 : decode cX12_truth 79 = .ok (.getfield 8, 3) := by decide +kernel
theorem dX12_truth_82 : decode cX12_truth 82 = .ok (.sipush 24712, 3) := by decide +kernel
theorem dX12_truth_85 : decode cX12_truth 85 = .ok (.iload 8, 2) := by decide +kernel
theorem dX12_truth_87 : decode cX12_truth 87 = .ok (.iadd, 1) := by decide +kernel
theorem dX12_truth_88 : decode cX12_truth 88 = .ok (.iaload, 1) := by decide +kernel
theorem dX12_truth_89 : decode cX12_truth 89 = .ok (.iconst 1, 1) := by decide +kernel
theorem dX12_truth_90 : decode cX12_truth 90 = .ok (.isub, 1) := by decide +kernel
theorem dX12_truth_91 : decode cX12_truth 91 = .ok (.istore 9, 2) := by decide +kernel
theorem dX12_truth_93 : decode cX12_truth 93 = .ok (.aload_n 0, 1) := by decide +kernel
theorem dX12_truth_94 : decode cX12_truth 94 = .ok (.getfield 8, 3) := by decide +kernel
theorem dX12_truth_97 : decode cX12_truth 97 = .ok (.sipush 27112, 3) := by decide +kernel
theorem dX12_truth_100 : decode cX12_truth 100 = .ok (.iload 8, 2) := by decide +kernel
theorem dX12_truth_102 : decode cX12_truth 102 = .ok (.iadd, 1) := by decide +kernel
theorem dX12_truth_103 : decode cX12_truth 103 = .ok (.iaload, 1) := by decide +kernel
theorem dX12_truth_104 : decode cX12_truth 104 = .ok (.iconst 1, 1) := by decide +kernel
theorem dX12_truth_105 : decode cX12_truth 105 = .ok (.isub, 1) := by decide +kernel
theorem dX12_truth_106 : decode cX12_truth 106 = .ok (.istore 10, 2) := by decide +kernel
theorem dX12_truth_108 : decode cX12_truth 108 = .ok (.iload 6, 2) := by decide +kernel
theorem dX12_truth_110 : decode cX12_truth 110 = .ok (.iload 9, 2) := by decide +kernel
theorem dX12_truth_112 : decode cX12_truth 112 = .ok (.iadd, 1) := by decide +kernel
theorem dX12_truth_113 : decode cX12_truth 113 = .ok (.istore 6, 2) := by decide +kernel
theorem dX12_truth_115 : decode cX12_truth 115 = .ok (.iload 4, 2) := by decide +kernel
theorem dX12_truth_117 : decode cX12_truth 117 = .ok (.iload 10, 2) := by decide +kernel
theorem dX12_truth_119 : decode cX12_truth 119 = .ok (.ifCond .ge 7, 3) := by decide +kernel
theorem dX12_truth_122 : decode cX12_truth 122 = .ok (.iconst 0, 1) := by decide +kernel
theorem dX12_truth_123 : decode cX12_truth 123 = .ok (.goto 5, 3) := by decide +kernel
theorem dX12_truth_126 : decode cX12_truth 126 = .ok (.iload 10, 2) := by decide +kernel
theorem dX12_truth_128 : decode cX12_truth 128 = .ok (.iadd, 1) := by decide +kernel
theorem dX12_truth_129 : decode cX12_truth 129 = .ok (.istore 4, 2) := by decide +kernel
theorem dX12_truth_131 : decode cX12_truth 131 = .ok (.iload 5, 2) := by decide +kernel
theorem dX12_truth_133 : decode cX12_truth 133 = .ok (.iload 10, 2) := by decide +kernel
theorem dX12_truth_135 : decode cX12_truth 135 = .ok (.ifCond .ge 8, 3) := by decide +kernel
theorem dX12_truth_138 : decode cX12_truth 138 = .ok (.iload 9, 2) := by decide +kernel
theorem dX12_truth_140 : decode cX12_truth 140 = .ok (.goto 5, 3) := by decide +kernel
theorem dX12_truth_143 : decode cX12_truth 143 = .ok (.iload 10, 2) := by decide +kernel
theorem dX12_truth_145 : decode cX12_truth 145 = .ok (.iadd, 1) := by decide +kernel
theorem dX12_truth_146 : decode cX12_truth 146 = .ok (.istore 5, 2) := by decide +kernel
theorem dX12_truth_148 : decode cX12_truth 148 = .ok (.iinc 7 1, 3) := by decide +kernel
theorem dX12_truth_151 : decode cX12_truth 151 = .ok (.goto (-112), 3) := by decide +kernel
theorem dX12_truth_154 : decode cX12_truth 154 = .ok (.aload_n 0, 1) := by decide +kernel
theorem dX12_truth_155 : decode cX12_truth 155 = .ok (.getfield 8, 3) := by decide +kernel
theorem dX12_truth_158 : decode cX12_truth 158 = .ok (.sipush 24592, 3) := by decide +kernel
theorem dX12_truth_161 : decode cX12_truth 161 = .ok (.bipush 20, 2) := by decide +kernel
theorem dX12_truth_163 : decode cX12_truth 163 = .ok (.iload_n 1, 1) := by decide +kernel
theorem dX12_truth_164 : decode cX12_truth 164 = .ok (.imul, 1) := by decide +kernel
theorem dX12_truth_165 : decode cX12_truth 165 = .ok (.iadd, 1) := by decide +kernel
theorem dX12_truth_166 : decode cX12_truth 166 = .ok (.iload_n 2, 1) := by decide +kernel
theorem dX12_truth_167 : decode cX12_truth 167 = .ok (.iadd, 1) := by decide +kernel
theorem dX12_truth_168 : decode cX12_truth 168 = .ok (.iaload, 1) := by decide +kernel
theorem dX12_truth_169 : decode cX12_truth 169 = .ok (.iconst 1, 1) := by decide +kernel
theorem dX12_truth_170 : decode cX12_truth 170 = .ok (.isub, 1) := by decide +kernel
theorem dX12_truth_171 : decode cX12_truth 171 = .ok (.istore 7, 2) := by decide +kernel
theorem dX12_truth_173 : decode cX12_truth 173 = .ok (.iload_n 3, 1) := by decide +kernel
theorem dX12_truth_174 : decode cX12_truth 174 = .ok (.ifCond .ne 8, 3) := by decide +kernel
theorem dX12_truth_177 : decode cX12_truth 177 = .ok (.iload 4, 2) := by decide +kernel
theorem dX12_truth_179 : decode cX12_truth 179 = .ok (.goto 60, 3) := by decide +kernel
theorem dX12_truth_182 : decode cX12_truth 182 = .ok (.iload_n 3, 1) := by decide +kernel
theorem dX12_truth_183 : decode cX12_truth 183 = .ok (.iconst 1, 1) := by decide +kernel
theorem dX12_truth_184 : decode cX12_truth 184 = .ok (.if_icmp .ne 8, 3) := by decide +kernel
theorem dX12_truth_187 : decode cX12_truth 187 = .ok (.iload 5, 2) := by decide +kernel
theorem dX12_truth_189 : decode cX12_truth 189 = .ok (.goto 50, 3) := by decide +kernel
theorem dX12_truth_192 : decode cX12_truth 192 = .ok (.iload_n 3, 1) := by decide +kernel
theorem dX12_truth_193 : decode cX12_truth 193 = .ok (.iconst 2, 1) := by decide +kernel
theorem dX12_truth_194 : decode cX12_truth 194 = .ok (.if_icmp .ne 8, 3) := by decide +kernel
theorem dX12_truth_197 : decode cX12_truth 197 = .ok (.iload 6, 2) := by decide +kernel
theorem dX12_truth_199 : decode cX12_truth 199 = .ok (.goto 40, 3) := by decide +kernel
theorem dX12_truth_202 : decode cX12_truth 202 = .ok (.iload_n 3, 1) := by decide +kernel
theorem dX12_truth_203 : decode cX12_truth 203 = .ok (.iconst 3, 1) := by decide +kernel
theorem dX12_truth_204 : decode cX12_truth 204 = .ok (.if_icmp .ne 23, 3) := by decide +kernel
theorem dX12_truth_207 : decode cX12_truth 207 = .ok (.iload 7, 2) := by decide +kernel
theorem dX12_truth_209 : decode cX12_truth 209 = .ok (.ifCond .lt 14, 3) := by decide +kernel
theorem dX12_truth_212 : decode cX12_truth 212 = .ok (.iload 4, 2) := by decide +kernel
theorem dX12_truth_214 : decode cX12_truth 214 = .ok (.iload 7, 2) := by decide +kernel
theorem dX12_truth_216 : decode cX12_truth 216 = .ok (.if_icmp .lt 7, 3) := by decide +kernel
theorem dX12_truth_219 : decode cX12_truth 219 = .ok (.iconst 1, 1) := by decide +kernel
theorem dX12_truth_220 : decode cX12_truth 220 = .ok (.goto 19, 3) := by decide +kernel
theorem dX12_truth_223 : decode cX12_truth 223 = .ok (.iconst 0, 1) := by decide +kernel
theorem dX12_truth_224 : decode cX12_truth 224 = .ok (.goto 15, 3) := by decide +kernel
theorem dX12_truth_227 : decode cX12_truth 227 = .ok (.iload 5, 2) := by decide +kernel
theorem dX12_truth_229 : decode cX12_truth 229 = .ok (.iload 6, 2) := by decide +kernel
theorem dX12_truth_231 : decode cX12_truth 231 = .ok (.if_icmp .ge 7, 3) := by decide +kernel
theorem dX12_truth_234 : decode cX12_truth 234 = .ok (.iconst 1, 1) := by decide +kernel
theorem dX12_truth_235 : decode cX12_truth 235 = .ok (.goto 4, 3) := by decide +kernel
theorem dX12_truth_238 : decode cX12_truth 238 = .ok (.iconst 0, 1) := by decide +kernel
theorem dX12_truth_239 : decode cX12_truth 239 = .ok (.ireturn, 1) := by decide +kernel
theorem dX12_count_0 : decode cX12_count 0 = .ok (.aload_n 0, 1) := by decide +kernel
theorem dX12_count_1 : decode cX12_count 1 = .ok (.iconst 0, 1) := by decide +kernel
theorem dX12_count_2 : decode cX12_count 2 = .ok (.putfield 145, 3) := by decide +kernel
theorem dX12_count_5 : decode cX12_count 5 = .ok (.iload_n 1, 1) := by decide +kernel
theorem dX12_count_6 : decode cX12_count 6 = .ok (.tableswitch 123 0 9 #[54, 61, 68, 75, 82, 89, 94, 102, 110, 118], 54) := by decide +kernel
theorem dX12_count_60 : decode cX12_count 60 = .ok (.aload_n 0, 1) := by decide +kernel
theorem dX12_count_61 : decode cX12_count 61 = .ok (.getfield 8, 3) := by decide +kernel
theorem dX12_count_64 : decode cX12_count 64 = .ok (.iconst 0, 1) := by decide +kernel
theorem dX12_count_65 : decode cX12_count 65 = .ok (.iaload, 1) := by decide +kernel
theorem dX12_count_66 : decode cX12_count 66 = .ok (.ireturn, 1) := by decide +kernel
theorem dX12_count_67 : decode cX12_count 67 = .ok (.aload_n 0, 1) := by decide +kernel
theorem dX12_count_68 : decode cX12_count 68 = .ok (.getfield 8, 3) := by decide +kernel
theorem dX12_count_71 : decode cX12_count 71 = .ok (.iconst 1, 1) := by decide +kernel
theorem dX12_count_72 : decode cX12_count 72 = .ok (.iaload, 1) := by decide +kernel
theorem dX12_count_73 : decode cX12_count 73 = .ok (.ireturn, 1) := by decide +kernel
theorem dX12_count_74 : decode cX12_count 74 = .ok (.aload_n 0, 1) := by decide +kernel
theorem dX12_count_75 : decode cX12_count 75 = .ok (.getfield 8, 3) := by decide +kernel
theorem dX12_count_78 : decode cX12_count 78 = .ok (.iconst 2, 1) := by decide +kernel
theorem dX12_count_79 : decode cX12_count 79 = .ok (.iaload, 1) := by decide +kernel
theorem dX12_count_80 : decode cX12_count 80 = .ok (.ireturn, 1) := by decide +kernel
theorem dX12_count_81 : decode cX12_count 81 = .ok (.aload_n 0, 1) := by decide +kernel
theorem dX12_count_82 : decode cX12_count 82 = .ok (.getfield 8, 3) := by decide +kernel
theorem dX12_count_85 : decode cX12_count 85 = .ok (.iconst 4, 1) := by decide +kernel
theorem dX12_count_86 : decode cX12_count 86 = .ok (.iaload, 1) := by decide +kernel
theorem dX12_count_87 : decode cX12_count 87 = .ok (.ireturn, 1) := by decide +kernel
theorem dX12_count_88 : decode cX12_count 88 = .ok (.aload_n 0, 1) := by decide +kernel
theorem dX12_count_89 : decode cX12_count 89 = .ok (.getfield 8, 3) := by decide +kernel
theorem dX12_count_92 : decode cX12_count 92 = .ok (.iconst 5, 1) := by decide +kernel
theorem dX12_count_93 : decode cX12_count 93 = .ok (.iaload, 1) := by decide +kernel
theorem dX12_count_94 : decode cX12_count 94 = .ok (.ireturn, 1) := by decide +kernel
theorem dX12_count_95 : decode cX12_count 95 = .ok (.aload_n 0, 1) := by decide +kernel
theorem dX12_count_96 : decode cX12_count 96 = .ok (.getfield 170, 3) := by decide +kernel
theorem dX12_count_99 : decode cX12_count 99 = .ok (.ireturn, 1) := by decide +kernel
theorem dX12_count_100 : decode cX12_count 100 = .ok (.aload_n 0, 1) := by decide +kernel
theorem dX12_count_101 : decode cX12_count 101 = .ok (.getfield 8, 3) := by decide +kernel
theorem dX12_count_104 : decode cX12_count 104 = .ok (.bipush 6, 2) := by decide +kernel
theorem dX12_count_106 : decode cX12_count 106 = .ok (.iaload, 1) := by decide +kernel
theorem dX12_count_107 : decode cX12_count 107 = .ok (.ireturn, 1) := by decide +kernel
theorem dX12_count_108 : decode cX12_count 108 = .ok (.aload_n 0, 1) := by decide +kernel
theorem dX12_count_109 : decode cX12_count 109 = .ok (.getfield 8, 3) := by decide +kernel
theorem dX12_count_112 : decode cX12_count 112 = .ok (.bipush 11, 2) := by decide +kernel
theorem dX12_count_114 : decode cX12_count 114 = .ok (.iaload, 1) := by decide +kernel
theorem dX12_count_115 : decode cX12_count 115 = .ok (.ireturn, 1) := by decide +kernel
theorem dX12_count_116 : decode cX12_count 116 = .ok (.aload_n 0, 1) := by decide +kernel
theorem dX12_count_117 : decode cX12_count 117 = .ok (.getfield 8, 3) := by decide +kernel
theorem dX12_count_120 : decode cX12_count 120 = .ok (.bipush 8, 2) := by decide +kernel
theorem dX12_count_122 : decode cX12_count 122 = .ok (.iaload, 1) := by decide +kernel
theorem dX12_count_123 : decode cX12_count 123 = .ok (.ireturn, 1) := by decide +kernel
theorem dX12_count_124 : decode cX12_count 124 = .ok (.aload_n 0, 1) := by decide +kernel
theorem dX12_count_125 : decode cX12_count 125 = .ok (.getfield 167, 3) := by decide +kernel
theorem dX12_count_128 : decode cX12_count 128 = .ok (.ireturn, 1) := by decide +kernel
theorem dX12_count_129 : decode cX12_count 129 = .ok (.iconst (-1), 1) := by decide +kernel
theorem dX12_count_130 : decode cX12_count 130 = .ok (.ireturn, 1) := by decide +kernel
theorem dX12_status_0 : decode cX12_status 0 = .ok (.aload_n 0, 1) := by decide +kernel
theorem dX12_status_1 : decode cX12_status 1 = .ok (.iconst 0, 1) := by decide +kernel
theorem dX12_status_2 : decode cX12_status 2 = .ok (.putfield 145, 3) := by decide +kernel
theorem dX12_status_5 : decode cX12_status 5 = .ok (.aload_n 0, 1) := by decide +kernel
theorem dX12_status_6 : decode cX12_status 6 = .ok (.getfield 148, 3) := by decide +kernel
theorem dX12_status_9 : decode cX12_status 9 = .ok (.ireturn, 1) := by decide +kernel
def W_X12_squat_123 (X : Sx) (l : Launch) (D : Nat) (σ : AH) (r : Option Value) (σ' : AH) : Prop := ∃ d66 : Nat, ∃ v71 : Int32, ∃ σ67 : AH, d66 + 1 ≤ D ∧ Call X l m_X12_told d66 [.ref 124, .int (-3 : Int32)] σ (some (.int v71)) σ67 ∧ (r = some (.int v71) ∧ σ' = σ67)
set_option maxRecDepth 100000 in
theorem w_X12_squat_123 {X : Sx} {l : Launch} {D : Nat} {σ : AH} {r : Option Value} {σ' : AH} (hs : Sh σ) (h : W_X12_squat_123 X l D σ r σ') : E X l m_X12_squat D 123 [(0, .ref 124)] [] σ r σ' := by
  unfold W_X12_squat_123 at h
  refine E_aload_n 0 dX12_squat_123 rfl rfl ?_
  refine E_bipush (-3 : Int32) dX12_squat_124 (by decide) ?_
  obtain ⟨d66, v71, σ67, hD68, hC69, h⟩ := h
  have hs70 := hC69.1.2.2.2.1 hs
  refine E_callV (As := [.int (-3 : Int32)]) (rest := []) (r1 := (some (.int v71))) (b := 124) dX12_squat_126 ok_X12_told in_X12_told se_X12_told ml_X12_163 hD68 rfl rfl (Nat.le_of_ble_eq_true rfl) (sk_124 hs) (sn hs (by decide)) (by decide) rfl (by decide +kernel) hC69 ?_
  obtain ⟨rfl, rfl⟩ := h
  exact E_iret dX12_squat_129 rfl
def W_X12_squat_180 (X : Sx) (l : Launch) (D : Nat) (x1 : Int32) (x2 : Int32) (x3 : Int32) (y0 : Int32) (σ : AH) (r : Option Value) (σ' : AH) : Prop := ∃ d102 : Nat, ∃ σ103 : AH, d102 + 1 ≤ D ∧ Call X l m_X12_addStay d102 [.ref 124, .int x2, .int x1, .int x3, .int y0, .int (0 : Int32), .int (1 : Int32)] σ none σ103 ∧ ∃ d107 : Nat, ∃ v112 : Int32, ∃ σ108 : AH, d107 + 1 ≤ D ∧ Call X l m_X12_told d107 [.ref 124, .int (gI (sI (sI σ103 125 8 ((gI σ103 125 8) + (1 : Int32))) 125 12 x3) 125 8)] (sI (sI σ103 125 8 ((gI σ103 125 8) + (1 : Int32))) 125 12 x3) (some (.int v112)) σ108 ∧ (r = some (.int v112) ∧ σ' = σ108)
set_option maxRecDepth 100000 in
theorem w_X12_squat_180 {X : Sx} {l : Launch} {D : Nat} {x1 : Int32} {x2 : Int32} {x3 : Int32} {y0 : Int32} {σ : AH} {r : Option Value} {σ' : AH} (hs : Sh σ) (h : W_X12_squat_180 X l D x1 x2 x3 y0 σ r σ') : E X l m_X12_squat D 180 [(0, .ref 124), (1, .int x1), (2, .int x2), (3, .int x3)] [.int y0] σ r σ' := by
  unfold W_X12_squat_180 at h
  refine E_istore [(4, .int y0), (0, .ref 124), (1, .int x1), (2, .int x2), (3, .int x3)] dX12_squat_180 (by decide) rfl ?_
  refine E_aload_n 1 dX12_squat_182 rfl rfl ?_
  refine E_iload_n 3 dX12_squat_183 rfl rfl ?_
  refine E_iload_n 2 dX12_squat_184 rfl rfl ?_
  refine E_iload_n 4 dX12_squat_185 rfl rfl ?_
  refine E_iload 0 dX12_squat_186 rfl ?_
  refine E_iconst (0 : Int32) dX12_squat_188 (by decide) ?_
  refine E_iconst (1 : Int32) dX12_squat_189 (by decide) ?_
  obtain ⟨d102, σ103, hD104, hC105, h⟩ := h
  have hs106 := hC105.1.2.2.2.1 hs
  refine E_callV (As := [.int x2, .int x1, .int x3, .int y0, .int (0 : Int32), .int (1 : Int32)]) (rest := []) (r1 := none) (b := 124) dX12_squat_190 ok_X12_addStay in_X12_addStay se_X12_addStay ml_X12_618 hD104 rfl rfl (Nat.le_of_ble_eq_true rfl) (sk_124 hs) (sn hs (by decide)) (by decide) rfl (by decide +kernel) hC105 ?_
  refine E_aload_n 1 dX12_squat_193 rfl rfl ?_
  refine E_getR 125 dX12_squat_194 fl_X12_8 rfl (sk_124 hs106) (sn hs106 (by decide)) (sr_124_2 hs106) ?_
  refine E_bipush (8 : Int32) dX12_squat_197 (by decide) ?_
  refine E_dup2 dX12_squat_199 rfl rfl ?_
  refine E_iald2 8 dX12_squat_200 (sk_125 hs106) (sn hs106 (by decide)) (vp_lit (by decide)) (by decide) ?_
  refine E_iconst (1 : Int32) dX12_squat_201 (by decide) ?_
  refine E_iadd dX12_squat_202 ?_
  refine E_iast2 8 dX12_squat_203 (sk_125 hs106) (sn hs106 (by decide)) (Or.inl (by decide)) (vp_lit (by decide)) (by decide) ?_
  refine E_aload_n 1 dX12_squat_204 rfl rfl ?_
  refine E_getR 125 dX12_squat_205 fl_X12_8 rfl (sk_124 hs106) (sn hs106 (by decide)) (sr_124_2 hs106) ?_
  refine E_bipush (12 : Int32) dX12_squat_208 (by decide) ?_
  refine E_iload_n 4 dX12_squat_210 rfl rfl ?_
  refine E_iast2 12 dX12_squat_211 (sk_125 hs106) (sn hs106 (by decide)) (Or.inl (by decide)) (vp_lit (by decide)) (by decide) ?_
  refine E_aload_n 1 dX12_squat_212 rfl rfl ?_
  refine E_aload_n 1 dX12_squat_213 rfl rfl ?_
  refine E_getR 125 dX12_squat_214 fl_X12_8 rfl (sk_124 hs106) (sn hs106 (by decide)) (sr_124_2 hs106) ?_
  refine E_bipush (8 : Int32) dX12_squat_217 (by decide) ?_
  refine E_iald2 8 dX12_squat_219 (sk_125 hs106) (sn hs106 (by decide)) (vp_lit (by decide)) (by decide) ?_
  obtain ⟨d107, v112, σ108, hD109, hC110, h⟩ := h
  have hs111 := hC110.1.2.2.2.1 hs106
  refine E_callV (As := [.int (gI (sI (sI σ103 125 8 ((gI σ103 125 8) + (1 : Int32))) 125 12 x3) 125 8)]) (rest := []) (r1 := (some (.int v112))) (b := 124) dX12_squat_220 ok_X12_told in_X12_told se_X12_told ml_X12_163 hD109 rfl rfl (Nat.le_of_ble_eq_true rfl) (sk_124 hs106) (sn hs106 (by decide)) (by decide) rfl (by decide +kernel) hC110 ?_
  obtain ⟨rfl, rfl⟩ := h
  exact E_iret dX12_squat_223 rfl
def W_X12_squat_107 (X : Sx) (l : Launch) (D : Nat) (x1 : Int32) (x2 : Int32) (x3 : Int32) (σ : AH) (r : Option Value) (σ' : AH) : Prop := vp_in x1 60 ∧ ∃ d73 : Nat, ∃ v78 : Int32, ∃ σ74 : AH, d73 + 1 ≤ D ∧ Call X l m_X12_stayOf d73 [.ref 124, .int (gI σ 160 x1.toNatClampNeg), .int x3, .int (0 : Int32)] σ (some (.int v78)) σ74 ∧ (if v78 = (-1 : Int32) then (if (gI σ74 125 8) = (40 : Int32) then ∃ d96 : Nat, ∃ v101 : Int32, ∃ σ97 : AH, d96 + 1 ≤ D ∧ Call X l m_X12_told d96 [.ref 124, .int (-5 : Int32)] σ74 (some (.int v101)) σ97 ∧ (r = some (.int v101) ∧ σ' = σ97) else ∃ d79 : Nat, ∃ σ80 : AH, d79 + 1 ≤ D ∧ Call X l m_X12_setOnly d79 [.ref 124, .int (0 : Int32), .int x3] σ74 none σ80 ∧ ∃ d84 : Nat, ∃ v89 : Int32, ∃ σ85 : AH, d84 + 1 ≤ D ∧ Call X l m_X12_find d84 [.ref 124, .int (7 : Int32), .int (0 : Int32), .int (0 : Int32), .int (0 : Int32), .int x3] σ80 (some (.int v89)) σ85 ∧ (if v89 = 0 then W_X12_squat_180 X l D x1 x2 x3 (1000000 : Int32) σ85 r σ' else ∃ d90 : Nat, ∃ v95 : Int32, ∃ σ91 : AH, d90 + 1 ≤ D ∧ Call X l m_X12_atLeastNought d90 [.ref 124] σ85 (some (.int v95)) σ91 ∧ W_X12_squat_180 X l D x1 x2 x3 (x3 + v95) σ91 r σ')) else W_X12_squat_123 X l D σ74 r σ')
set_option maxRecDepth 100000 in
theorem w_X12_squat_107 {X : Sx} {l : Launch} {D : Nat} {x1 : Int32} {x2 : Int32} {x3 : Int32} {σ : AH} {r : Option Value} {σ' : AH} (hs : Sh σ) (h : W_X12_squat_107 X l D x1 x2 x3 σ r σ') : E X l m_X12_squat D 107 [(0, .ref 124), (1, .int x1), (2, .int x2), (3, .int x3)] [] σ r σ' := by
  unfold W_X12_squat_107 at h
  refine E_aload_n 0 dX12_squat_107 rfl rfl ?_
  refine E_aload_n 0 dX12_squat_108 rfl rfl ?_
  refine E_getR 160 dX12_squat_109 fl_X12_127 rfl (sk_124 hs) (sn hs (by decide)) (sr_124_62 hs) ?_
  refine E_iload_n 1 dX12_squat_112 rfl rfl ?_
  obtain ⟨g72, h⟩ := h
  refine E_iald2 (x1.toNatClampNeg) dX12_squat_113 (sk_160 hs) (sn hs (by decide)) g72 rfl ?_
  refine E_iload_n 3 dX12_squat_114 rfl rfl ?_
  refine E_iconst (0 : Int32) dX12_squat_115 (by decide) ?_
  obtain ⟨d73, v78, σ74, hD75, hC76, h⟩ := h
  have hs77 := hC76.1.2.2.2.1 hs
  refine E_callV (As := [.int (gI σ 160 x1.toNatClampNeg), .int x3, .int (0 : Int32)]) (rest := []) (r1 := (some (.int v78))) (b := 124) dX12_squat_116 ok_X12_stayOf in_X12_stayOf se_X12_stayOf ml_X12_605 hD75 rfl rfl (Nat.le_of_ble_eq_true rfl) (sk_124 hs) (sn hs (by decide)) (by decide) rfl (by decide +kernel) hC76 ?_
  refine E_iconst (-1 : Int32) dX12_squat_119 (by decide) ?_
  refine E_icmp_eq 130 dX12_squat_120 (by decide) (fun c => ?_) (fun c => ?_)
  · rw [if_pos c] at h
    refine E_aload_n 0 dX12_squat_130 rfl rfl ?_
    refine E_getR 125 dX12_squat_131 fl_X12_8 rfl (sk_124 hs77) (sn hs77 (by decide)) (sr_124_2 hs77) ?_
    refine E_bipush (8 : Int32) dX12_squat_134 (by decide) ?_
    refine E_iald2 8 dX12_squat_136 (sk_125 hs77) (sn hs77 (by decide)) (vp_lit (by decide)) (by decide) ?_
    refine E_bipush (40 : Int32) dX12_squat_137 (by decide) ?_
    refine E_icmp_ne 149 dX12_squat_139 (by decide) (fun c => ?_) (fun c => ?_)
    · rw [if_neg c] at h
      refine E_aload_n 0 dX12_squat_149 rfl rfl ?_
      refine E_iconst (0 : Int32) dX12_squat_150 (by decide) ?_
      refine E_iload_n 3 dX12_squat_151 rfl rfl ?_
      obtain ⟨d79, σ80, hD81, hC82, h⟩ := h
      have hs83 := hC82.1.2.2.2.1 hs77
      refine E_callV (As := [.int (0 : Int32), .int x3]) (rest := []) (r1 := none) (b := 124) dX12_squat_152 ok_X12_setOnly in_X12_setOnly se_X12_setOnly ml_X12_440 hD81 rfl rfl (Nat.le_of_ble_eq_true rfl) (sk_124 hs77) (sn hs77 (by decide)) (by decide) rfl (by decide +kernel) hC82 ?_
      refine E_aload_n 0 dX12_squat_155 rfl rfl ?_
      refine E_bipush (7 : Int32) dX12_squat_156 (by decide) ?_
      refine E_iconst (0 : Int32) dX12_squat_158 (by decide) ?_
      refine E_iconst (0 : Int32) dX12_squat_159 (by decide) ?_
      refine E_iconst (0 : Int32) dX12_squat_160 (by decide) ?_
      refine E_iload_n 3 dX12_squat_161 rfl rfl ?_
      obtain ⟨d84, v89, σ85, hD86, hC87, h⟩ := h
      have hs88 := hC87.1.2.2.2.1 hs83
      refine E_callV (As := [.int (7 : Int32), .int (0 : Int32), .int (0 : Int32), .int (0 : Int32), .int x3]) (rest := []) (r1 := (some (.int v89))) (b := 124) dX12_squat_162 ok_X12_find in_X12_find se_X12_find ml_X12_443 hD86 rfl rfl (Nat.le_of_ble_eq_true rfl) (sk_124 hs83) (sn hs83 (by decide)) (by decide) rfl (by decide +kernel) hC87 ?_
      refine E_if_eq 177 dX12_squat_165 (by decide) (fun c => ?_) (fun c => ?_)
      · rw [if_pos c] at h
        refine E_ldcw (1000000 : Int32) dX12_squat_177 ct_X12_592 ?_
        exact E_lv [0, 1, 2, 3] rfl (w_X12_squat_180 hs88 h)
      · rw [if_neg c] at h
        refine E_iload_n 3 dX12_squat_168 rfl rfl ?_
        refine E_aload_n 0 dX12_squat_169 rfl rfl ?_
        obtain ⟨d90, v95, σ91, hD92, hC93, h⟩ := h
        have hs94 := hC93.1.2.2.2.1 hs88
        refine E_callV (As := []) (rest := [.int x3]) (r1 := (some (.int v95))) (b := 124) dX12_squat_170 ok_X12_atLeastNought in_X12_atLeastNought se_X12_atLeastNought ml_X12_447 hD92 rfl rfl (Nat.le_of_ble_eq_true rfl) (sk_124 hs88) (sn hs88 (by decide)) (by decide) rfl (by decide +kernel) hC93 ?_
        refine E_iadd dX12_squat_173 ?_
        refine E_goto 180 dX12_squat_174 (by decide) ?_
        exact E_lv [0, 1, 2, 3] rfl (w_X12_squat_180 hs94 h)
    · rw [if_pos c] at h
      refine E_aload_n 0 dX12_squat_142 rfl rfl ?_
      refine E_bipush (-5 : Int32) dX12_squat_143 (by decide) ?_
      obtain ⟨d96, v101, σ97, hD98, hC99, h⟩ := h
      have hs100 := hC99.1.2.2.2.1 hs77
      refine E_callV (As := [.int (-5 : Int32)]) (rest := []) (r1 := (some (.int v101))) (b := 124) dX12_squat_145 ok_X12_told in_X12_told se_X12_told ml_X12_163 hD98 rfl rfl (Nat.le_of_ble_eq_true rfl) (sk_124 hs77) (sn hs77 (by decide)) (by decide) rfl (by decide +kernel) hC99 ?_
      obtain ⟨rfl, rfl⟩ := h
      exact E_iret dX12_squat_148 rfl
  · rw [if_neg c] at h
    exact E_lv [0] rfl (w_X12_squat_123 hs77 h)
def W_X12_squat_23 (X : Sx) (l : Launch) (D : Nat) (σ : AH) (r : Option Value) (σ' : AH) : Prop := ∃ d54 : Nat, ∃ v59 : Int32, ∃ σ55 : AH, d54 + 1 ≤ D ∧ Call X l m_X12_told d54 [.ref 124, .int (-1 : Int32)] σ (some (.int v59)) σ55 ∧ (r = some (.int v59) ∧ σ' = σ55)
set_option maxRecDepth 100000 in
theorem w_X12_squat_23 {X : Sx} {l : Launch} {D : Nat} {σ : AH} {r : Option Value} {σ' : AH} (hs : Sh σ) (h : W_X12_squat_23 X l D σ r σ') : E X l m_X12_squat D 23 [(0, .ref 124)] [] σ r σ' := by
  unfold W_X12_squat_23 at h
  refine E_aload_n 0 dX12_squat_23 rfl rfl ?_
  refine E_iconst (-1 : Int32) dX12_squat_24 (by decide) ?_
  obtain ⟨d54, v59, σ55, hD56, hC57, h⟩ := h
  have hs58 := hC57.1.2.2.2.1 hs
  refine E_callV (As := [.int (-1 : Int32)]) (rest := []) (r1 := (some (.int v59))) (b := 124) dX12_squat_25 ok_X12_told in_X12_told se_X12_told ml_X12_163 hD56 rfl rfl (Nat.le_of_ble_eq_true rfl) (sk_124 hs) (sn hs (by decide)) (by decide) rfl (by decide +kernel) hC57 ?_
  obtain ⟨rfl, rfl⟩ := h
  exact E_iret dX12_squat_28 rfl
def W_X12_squat_56 (X : Sx) (l : Launch) (D : Nat) (σ : AH) (r : Option Value) (σ' : AH) : Prop := ∃ d60 : Nat, ∃ v65 : Int32, ∃ σ61 : AH, d60 + 1 ≤ D ∧ Call X l m_X12_told d60 [.ref 124, .int (-2 : Int32)] σ (some (.int v65)) σ61 ∧ (r = some (.int v65) ∧ σ' = σ61)
set_option maxRecDepth 100000 in
theorem w_X12_squat_56 {X : Sx} {l : Launch} {D : Nat} {σ : AH} {r : Option Value} {σ' : AH} (hs : Sh σ) (h : W_X12_squat_56 X l D σ r σ') : E X l m_X12_squat D 56 [(0, .ref 124)] [] σ r σ' := by
  unfold W_X12_squat_56 at h
  refine E_aload_n 0 dX12_squat_56 rfl rfl ?_
  refine E_bipush (-2 : Int32) dX12_squat_57 (by decide) ?_
  obtain ⟨d60, v65, σ61, hD62, hC63, h⟩ := h
  have hs64 := hC63.1.2.2.2.1 hs
  refine E_callV (As := [.int (-2 : Int32)]) (rest := []) (r1 := (some (.int v65))) (b := 124) dX12_squat_59 ok_X12_told in_X12_told se_X12_told ml_X12_163 hD62 rfl rfl (Nat.le_of_ble_eq_true rfl) (sk_124 hs) (sn hs (by decide)) (by decide) rfl (by decide +kernel) hC63 ?_
  obtain ⟨rfl, rfl⟩ := h
  exact E_iret dX12_squat_62 rfl
def W_X12_squat_0 (X : Sx) (l : Launch) (D : Nat) (x1 : Int32) (x2 : Int32) (x3 : Int32) (σ : AH) (r : Option Value) (σ' : AH) : Prop := ∃ d1 : Nat, ∃ v6 : Int32, ∃ σ2 : AH, d1 + 1 ≤ D ∧ Call X l m_X12_isWeek d1 [.int x3] (sI σ 124 0 (0 : Int32)) (some (.int v6)) σ2 ∧ (if v6 = 0 then W_X12_squat_23 X l D σ2 r σ' else (if (gI σ2 125 12) ≤ x3 then ∃ d7 : Nat, ∃ v12 : Int32, ∃ σ8 : AH, d7 + 1 ≤ D ∧ Call X l m_X12_isEntry d7 [.ref 124, .int x1] σ2 (some (.int v12)) σ8 ∧ (if v12 = 0 then W_X12_squat_56 X l D σ8 r σ' else ∃ d13 : Nat, ∃ v18 : Int32, ∃ σ14 : AH, d13 + 1 ≤ D ∧ Call X l m_X12_isPlot d13 [.ref 124, .int x2] σ8 (some (.int v18)) σ14 ∧ (if v18 = 0 then W_X12_squat_56 X l D σ14 r σ' else ∃ d19 : Nat, ∃ v24 : Int32, ∃ σ20 : AH, d19 + 1 ≤ D ∧ Call X l m_X12_entryAt d19 [.ref 124, .int x1, .int (6 : Int32)] σ14 (some (.int v24)) σ20 ∧ (if v24 ≤ x3 then ∃ d25 : Nat, ∃ σ26 : AH, d25 + 1 ≤ D ∧ Call X l m_X12_findHomes d25 [.ref 124, .int x3] σ20 none σ26 ∧ ∃ d30 : Nat, ∃ σ31 : AH, d30 + 1 ≤ D ∧ Call X l m_X12_findFamilies d30 [.ref 124, .int x3] σ26 none σ31 ∧ ∃ d35 : Nat, ∃ v40 : Int32, ∃ σ36 : AH, d35 + 1 ≤ D ∧ Call X l m_X12_isHome d35 [.ref 124, .int x2, .int x3] σ31 (some (.int v40)) σ36 ∧ (if v40 = 0 then W_X12_squat_123 X l D σ36 r σ' else ∃ d41 : Nat, ∃ v46 : Int32, ∃ σ42 : AH, d41 + 1 ≤ D ∧ Call X l m_X12_isFree d41 [.ref 124, .int x2, .int x3] σ36 (some (.int v46)) σ42 ∧ (if v46 = 0 then W_X12_squat_123 X l D σ42 r σ' else vp_in x1 60 ∧ ∃ d48 : Nat, ∃ v53 : Int32, ∃ σ49 : AH, d48 + 1 ≤ D ∧ Call X l m_X12_stayOf d48 [.ref 124, .int (gI σ42 160 x1.toNatClampNeg), .int x3, .int (1 : Int32)] σ42 (some (.int v53)) σ49 ∧ (if v53 = (-1 : Int32) then W_X12_squat_107 X l D x1 x2 x3 σ49 r σ' else W_X12_squat_123 X l D σ49 r σ'))) else W_X12_squat_56 X l D σ20 r σ'))) else W_X12_squat_23 X l D σ2 r σ'))
set_option maxRecDepth 100000 in
theorem w_X12_squat_0 {X : Sx} {l : Launch} {D : Nat} {x1 : Int32} {x2 : Int32} {x3 : Int32} {σ : AH} {r : Option Value} {σ' : AH} (hs : Sh σ) (h : W_X12_squat_0 X l D x1 x2 x3 σ r σ') : E X l m_X12_squat D 0 [(0, .ref 124), (1, .int x1), (2, .int x2), (3, .int x3)] [] σ r σ' := by
  unfold W_X12_squat_0 at h
  refine E_aload_n 0 dX12_squat_0 rfl rfl ?_
  refine E_iconst (0 : Int32) dX12_squat_1 (by decide) ?_
  refine E_putI dX12_squat_2 fl_X12_145 rfl (Or.inl rfl) (sk_124 hs) (sn hs (by decide)) (Or.inl (by decide)) rfl rfl ?_
  refine E_iload_n 3 dX12_squat_5 rfl rfl ?_
  obtain ⟨d1, v6, σ2, hD3, hC4, h⟩ := h
  have hs5 := hC4.1.2.2.2.1 hs
  refine E_callS (As := [.int x3]) (rest := []) (r1 := (some (.int v6))) dX12_squat_6 ok_X12_isWeek is_X12_isWeek ml_X12_387 hD3 rfl rfl (Nat.le_of_ble_eq_true rfl) (by decide +kernel) hC4 ?_
  refine E_if_eq 23 dX12_squat_9 (by decide) (fun c => ?_) (fun c => ?_)
  · rw [if_pos c] at h
    exact E_lv [0] rfl (w_X12_squat_23 hs5 h)
  · rw [if_neg c] at h
    refine E_iload_n 3 dX12_squat_12 rfl rfl ?_
    refine E_aload_n 0 dX12_squat_13 rfl rfl ?_
    refine E_getR 125 dX12_squat_14 fl_X12_8 rfl (sk_124 hs5) (sn hs5 (by decide)) (sr_124_2 hs5) ?_
    refine E_bipush (12 : Int32) dX12_squat_17 (by decide) ?_
    refine E_iald2 12 dX12_squat_19 (sk_125 hs5) (sn hs5 (by decide)) (vp_lit (by decide)) (by decide) ?_
    refine E_icmp_ge 29 dX12_squat_20 (by decide) (fun c => ?_) (fun c => ?_)
    · rw [if_pos c] at h
      refine E_aload_n 0 dX12_squat_29 rfl rfl ?_
      refine E_iload_n 1 dX12_squat_30 rfl rfl ?_
      obtain ⟨d7, v12, σ8, hD9, hC10, h⟩ := h
      have hs11 := hC10.1.2.2.2.1 hs5
      refine E_callV (As := [.int x1]) (rest := []) (r1 := (some (.int v12))) (b := 124) dX12_squat_31 ok_X12_isEntry in_X12_isEntry se_X12_isEntry ml_X12_559 hD9 rfl rfl (Nat.le_of_ble_eq_true rfl) (sk_124 hs5) (sn hs5 (by decide)) (by decide) rfl (by decide +kernel) hC10 ?_
      refine E_if_eq 56 dX12_squat_34 (by decide) (fun c => ?_) (fun c => ?_)
      · rw [if_pos c] at h
        exact E_lv [0] rfl (w_X12_squat_56 hs11 h)
      · rw [if_neg c] at h
        refine E_aload_n 0 dX12_squat_37 rfl rfl ?_
        refine E_iload_n 2 dX12_squat_38 rfl rfl ?_
        obtain ⟨d13, v18, σ14, hD15, hC16, h⟩ := h
        have hs17 := hC16.1.2.2.2.1 hs11
        refine E_callV (As := [.int x2]) (rest := []) (r1 := (some (.int v18))) (b := 124) dX12_squat_39 ok_X12_isPlot in_X12_isPlot se_X12_isPlot ml_X12_471 hD15 rfl rfl (Nat.le_of_ble_eq_true rfl) (sk_124 hs11) (sn hs11 (by decide)) (by decide) rfl (by decide +kernel) hC16 ?_
        refine E_if_eq 56 dX12_squat_42 (by decide) (fun c => ?_) (fun c => ?_)
        · rw [if_pos c] at h
          exact E_lv [0] rfl (w_X12_squat_56 hs17 h)
        · rw [if_neg c] at h
          refine E_aload_n 0 dX12_squat_45 rfl rfl ?_
          refine E_iload_n 1 dX12_squat_46 rfl rfl ?_
          refine E_bipush (6 : Int32) dX12_squat_47 (by decide) ?_
          obtain ⟨d19, v24, σ20, hD21, hC22, h⟩ := h
          have hs23 := hC22.1.2.2.2.1 hs17
          refine E_callV (As := [.int x1, .int (6 : Int32)]) (rest := []) (r1 := (some (.int v24))) (b := 124) dX12_squat_49 ok_X12_entryAt in_X12_entryAt se_X12_entryAt ml_X12_562 hD21 rfl rfl (Nat.le_of_ble_eq_true rfl) (sk_124 hs17) (sn hs17 (by decide)) (by decide) rfl (by decide +kernel) hC22 ?_
          refine E_iload_n 3 dX12_squat_52 rfl rfl ?_
          refine E_icmp_le 63 dX12_squat_53 (by decide) (fun c => ?_) (fun c => ?_)
          · rw [if_pos c] at h
            refine E_aload_n 0 dX12_squat_63 rfl rfl ?_
            refine E_iload_n 3 dX12_squat_64 rfl rfl ?_
            obtain ⟨d25, σ26, hD27, hC28, h⟩ := h
            have hs29 := hC28.1.2.2.2.1 hs23
            refine E_callV (As := [.int x3]) (rest := []) (r1 := none) (b := 124) dX12_squat_65 ok_X12_findHomes in_X12_findHomes se_X12_findHomes ml_X12_622 hD27 rfl rfl (Nat.le_of_ble_eq_true rfl) (sk_124 hs23) (sn hs23 (by decide)) (by decide) rfl (by decide +kernel) hC28 ?_
            refine E_aload_n 0 dX12_squat_68 rfl rfl ?_
            refine E_iload_n 3 dX12_squat_69 rfl rfl ?_
            obtain ⟨d30, σ31, hD32, hC33, h⟩ := h
            have hs34 := hC33.1.2.2.2.1 hs29
            refine E_callV (As := [.int x3]) (rest := []) (r1 := none) (b := 124) dX12_squat_70 ok_X12_findFamilies in_X12_findFamilies se_X12_findFamilies ml_X12_568 hD32 rfl rfl (Nat.le_of_ble_eq_true rfl) (sk_124 hs29) (sn hs29 (by decide)) (by decide) rfl (by decide +kernel) hC33 ?_
            refine E_aload_n 0 dX12_squat_73 rfl rfl ?_
            refine E_iload_n 2 dX12_squat_74 rfl rfl ?_
            refine E_iload_n 3 dX12_squat_75 rfl rfl ?_
            obtain ⟨d35, v40, σ36, hD37, hC38, h⟩ := h
            have hs39 := hC38.1.2.2.2.1 hs34
            refine E_callV (As := [.int x2, .int x3]) (rest := []) (r1 := (some (.int v40))) (b := 124) dX12_squat_76 ok_X12_isHome in_X12_isHome se_X12_isHome ml_X12_609 hD37 rfl rfl (Nat.le_of_ble_eq_true rfl) (sk_124 hs34) (sn hs34 (by decide)) (by decide) rfl (by decide +kernel) hC38 ?_
            refine E_if_eq 123 dX12_squat_79 (by decide) (fun c => ?_) (fun c => ?_)
            · rw [if_pos c] at h
              exact E_lv [0] rfl (w_X12_squat_123 hs39 h)
            · rw [if_neg c] at h
              refine E_aload_n 0 dX12_squat_82 rfl rfl ?_
              refine E_iload_n 2 dX12_squat_83 rfl rfl ?_
              refine E_iload_n 3 dX12_squat_84 rfl rfl ?_
              obtain ⟨d41, v46, σ42, hD43, hC44, h⟩ := h
              have hs45 := hC44.1.2.2.2.1 hs39
              refine E_callV (As := [.int x2, .int x3]) (rest := []) (r1 := (some (.int v46))) (b := 124) dX12_squat_85 ok_X12_isFree in_X12_isFree se_X12_isFree ml_X12_612 hD43 rfl rfl (Nat.le_of_ble_eq_true rfl) (sk_124 hs39) (sn hs39 (by decide)) (by decide) rfl (by decide +kernel) hC44 ?_
              refine E_if_eq 123 dX12_squat_88 (by decide) (fun c => ?_) (fun c => ?_)
              · rw [if_pos c] at h
                exact E_lv [0] rfl (w_X12_squat_123 hs45 h)
              · rw [if_neg c] at h
                refine E_aload_n 0 dX12_squat_91 rfl rfl ?_
                refine E_aload_n 0 dX12_squat_92 rfl rfl ?_
                refine E_getR 160 dX12_squat_93 fl_X12_127 rfl (sk_124 hs45) (sn hs45 (by decide)) (sr_124_62 hs45) ?_
                refine E_iload_n 1 dX12_squat_96 rfl rfl ?_
                obtain ⟨g47, h⟩ := h
                refine E_iald2 (x1.toNatClampNeg) dX12_squat_97 (sk_160 hs45) (sn hs45 (by decide)) g47 rfl ?_
                refine E_iload_n 3 dX12_squat_98 rfl rfl ?_
                refine E_iconst (1 : Int32) dX12_squat_99 (by decide) ?_
                obtain ⟨d48, v53, σ49, hD50, hC51, h⟩ := h
                have hs52 := hC51.1.2.2.2.1 hs45
                refine E_callV (As := [.int (gI σ42 160 x1.toNatClampNeg), .int x3, .int (1 : Int32)]) (rest := []) (r1 := (some (.int v53))) (b := 124) dX12_squat_100 ok_X12_stayOf in_X12_stayOf se_X12_stayOf ml_X12_605 hD50 rfl rfl (Nat.le_of_ble_eq_true rfl) (sk_124 hs45) (sn hs45 (by decide)) (by decide) rfl (by decide +kernel) hC51 ?_
                refine E_iconst (-1 : Int32) dX12_squat_103 (by decide) ?_
                refine E_icmp_ne 123 dX12_squat_104 (by decide) (fun c => ?_) (fun c => ?_)
                · rw [if_neg c] at h
                  exact E_lv [0] rfl (w_X12_squat_123 hs52 h)
                · rw [if_pos c] at h
                  exact E_lv [0, 1, 2, 3] rfl (w_X12_squat_107 hs52 h)
          · rw [if_neg c] at h
            exact E_lv [0] rfl (w_X12_squat_56 hs23 h)
    · rw [if_neg c] at h
      exact E_lv [0] rfl (w_X12_squat_23 hs5 h)
def W_X12_out_23 (X : Sx) (l : Launch) (D : Nat) (σ : AH) (r : Option Value) (σ' : AH) : Prop := ∃ d19 : Nat, ∃ v24 : Int32, ∃ σ20 : AH, d19 + 1 ≤ D ∧ Call X l m_X12_told d19 [.ref 124, .int (-1 : Int32)] σ (some (.int v24)) σ20 ∧ (r = some (.int v24) ∧ σ' = σ20)
set_option maxRecDepth 100000 in
theorem w_X12_out_23 {X : Sx} {l : Launch} {D : Nat} {σ : AH} {r : Option Value} {σ' : AH} (hs : Sh σ) (h : W_X12_out_23 X l D σ r σ') : E X l m_X12_out D 23 [(0, .ref 124)] [] σ r σ' := by
  unfold W_X12_out_23 at h
  refine E_aload_n 0 dX12_out_23 rfl rfl ?_
  refine E_iconst (-1 : Int32) dX12_out_24 (by decide) ?_
  obtain ⟨d19, v24, σ20, hD21, hC22, h⟩ := h
  have hs23 := hC22.1.2.2.2.1 hs
  refine E_callV (As := [.int (-1 : Int32)]) (rest := []) (r1 := (some (.int v24))) (b := 124) dX12_out_25 ok_X12_told in_X12_told se_X12_told ml_X12_163 hD21 rfl rfl (Nat.le_of_ble_eq_true rfl) (sk_124 hs) (sn hs (by decide)) (by decide) rfl (by decide +kernel) hC22 ?_
  obtain ⟨rfl, rfl⟩ := h
  exact E_iret dX12_out_28 rfl
def W_X12_out_0 (X : Sx) (l : Launch) (D : Nat) (x1 : Int32) (x2 : Int32) (σ : AH) (r : Option Value) (σ' : AH) : Prop := ∃ d1 : Nat, ∃ v6 : Int32, ∃ σ2 : AH, d1 + 1 ≤ D ∧ Call X l m_X12_isWeek d1 [.int x2] (sI σ 124 0 (0 : Int32)) (some (.int v6)) σ2 ∧ (if v6 = 0 then W_X12_out_23 X l D σ2 r σ' else (if (gI σ2 125 12) ≤ x2 then ∃ d7 : Nat, ∃ v12 : Int32, ∃ σ8 : AH, d7 + 1 ≤ D ∧ Call X l m_X12_isPlot d7 [.ref 124, .int x1] σ2 (some (.int v12)) σ8 ∧ (if v12 = 0 then ∃ d13 : Nat, ∃ v18 : Int32, ∃ σ14 : AH, d13 + 1 ≤ D ∧ Call X l m_X12_told d13 [.ref 124, .int (-2 : Int32)] σ8 (some (.int v18)) σ14 ∧ (r = some (.int v18) ∧ σ' = σ14) else E X l m_X12_out D 49 [(0, .ref 124), (1, .int x1), (2, .int x2), (3, .int (-1 : Int32)), (4, .int (0 : Int32))] [] σ8 r σ') else W_X12_out_23 X l D σ2 r σ'))
set_option maxRecDepth 100000 in
theorem w_X12_out_0 {X : Sx} {l : Launch} {D : Nat} {x1 : Int32} {x2 : Int32} {σ : AH} {r : Option Value} {σ' : AH} (hs : Sh σ) (h : W_X12_out_0 X l D x1 x2 σ r σ') : E X l m_X12_out D 0 [(0, .ref 124), (1, .int x1), (2, .int x2)] [] σ r σ' := by
  unfold W_X12_out_0 at h
  refine E_aload_n 0 dX12_out_0 rfl rfl ?_
  refine E_iconst (0 : Int32) dX12_out_1 (by decide) ?_
  refine E_putI dX12_out_2 fl_X12_145 rfl (Or.inl rfl) (sk_124 hs) (sn hs (by decide)) (Or.inl (by decide)) rfl rfl ?_
  refine E_iload_n 2 dX12_out_5 rfl rfl ?_
  obtain ⟨d1, v6, σ2, hD3, hC4, h⟩ := h
  have hs5 := hC4.1.2.2.2.1 hs
  refine E_callS (As := [.int x2]) (rest := []) (r1 := (some (.int v6))) dX12_out_6 ok_X12_isWeek is_X12_isWeek ml_X12_387 hD3 rfl rfl (Nat.le_of_ble_eq_true rfl) (by decide +kernel) hC4 ?_
  refine E_if_eq 23 dX12_out_9 (by decide) (fun c => ?_) (fun c => ?_)
  · rw [if_pos c] at h
    exact E_lv [0] rfl (w_X12_out_23 hs5 h)
  · rw [if_neg c] at h
    refine E_iload_n 2 dX12_out_12 rfl rfl ?_
    refine E_aload_n 0 dX12_out_13 rfl rfl ?_
    refine E_getR 125 dX12_out_14 fl_X12_8 rfl (sk_124 hs5) (sn hs5 (by decide)) (sr_124_2 hs5) ?_
    refine E_bipush (12 : Int32) dX12_out_17 (by decide) ?_
    refine E_iald2 12 dX12_out_19 (sk_125 hs5) (sn hs5 (by decide)) (vp_lit (by decide)) (by decide) ?_
    refine E_icmp_ge 29 dX12_out_20 (by decide) (fun c => ?_) (fun c => ?_)
    · rw [if_pos c] at h
      refine E_aload_n 0 dX12_out_29 rfl rfl ?_
      refine E_iload_n 1 dX12_out_30 rfl rfl ?_
      obtain ⟨d7, v12, σ8, hD9, hC10, h⟩ := h
      have hs11 := hC10.1.2.2.2.1 hs5
      refine E_callV (As := [.int x1]) (rest := []) (r1 := (some (.int v12))) (b := 124) dX12_out_31 ok_X12_isPlot in_X12_isPlot se_X12_isPlot ml_X12_471 hD9 rfl rfl (Nat.le_of_ble_eq_true rfl) (sk_124 hs5) (sn hs5 (by decide)) (by decide) rfl (by decide +kernel) hC10 ?_
      refine E_if_ne 44 dX12_out_34 (by decide) (fun c => ?_) (fun c => ?_)
      · rw [if_neg c] at h
        refine E_iconst (-1 : Int32) dX12_out_44 (by decide) ?_
        refine E_istore_n [(3, .int (-1 : Int32)), (0, .ref 124), (1, .int x1), (2, .int x2)] dX12_out_45 rfl (by decide) rfl ?_
        refine E_iconst (0 : Int32) dX12_out_46 (by decide) ?_
        refine E_istore [(4, .int (0 : Int32)), (3, .int (-1 : Int32)), (0, .ref 124), (1, .int x1), (2, .int x2)] dX12_out_47 (by decide) rfl ?_
        exact E_lv [2, 3, 4, 1, 0] rfl h
      · rw [if_pos c] at h
        refine E_aload_n 0 dX12_out_37 rfl rfl ?_
        refine E_bipush (-2 : Int32) dX12_out_38 (by decide) ?_
        obtain ⟨d13, v18, σ14, hD15, hC16, h⟩ := h
        have hs17 := hC16.1.2.2.2.1 hs11
        refine E_callV (As := [.int (-2 : Int32)]) (rest := []) (r1 := (some (.int v18))) (b := 124) dX12_out_40 ok_X12_told in_X12_told se_X12_told ml_X12_163 hD15 rfl rfl (Nat.le_of_ble_eq_true rfl) (sk_124 hs11) (sn hs11 (by decide)) (by decide) rfl (by decide +kernel) hC16 ?_
        obtain ⟨rfl, rfl⟩ := h
        exact E_iret dX12_out_43 rfl
    · rw [if_neg c] at h
      exact E_lv [0] rfl (w_X12_out_23 hs5 h)
def W_X12_out_92 (X : Sx) (l : Launch) (D : Nat) (x1 : Int32) (x2 : Int32) (x4 : Int32) (y0 : Int32) (σ : AH) (r : Option Value) (σ' : AH) : Prop := E X l m_X12_out D 49 [(0, .ref 124), (1, .int x1), (2, .int x2), (3, .int y0), (4, .int (x4 + 1))] [] σ r σ'
set_option maxRecDepth 100000 in
theorem w_X12_out_92 {X : Sx} {l : Launch} {D : Nat} {x1 : Int32} {x2 : Int32} {x4 : Int32} {y0 : Int32} {σ : AH} {r : Option Value} {σ' : AH} (hs : Sh σ) (h : W_X12_out_92 X l D x1 x2 x4 y0 σ r σ') : E X l m_X12_out D 92 [(0, .ref 124), (1, .int x1), (2, .int x2), (4, .int x4)] [.int y0] σ r σ' := by
  unfold W_X12_out_92 at h
  refine E_istore_n [(3, .int y0), (0, .ref 124), (1, .int x1), (2, .int x2), (4, .int x4)] dX12_out_92 rfl (by decide) rfl ?_
  refine E_iinc 4 (x4 + 1) [(4, .int (x4 + 1)), (3, .int y0), (0, .ref 124), (1, .int x1), (2, .int x2)] dX12_out_93 rfl (congrArg (x4 + ·) (by decide : Int32.ofInt 1 = 1)) (by decide) rfl ?_
  refine E_goto 49 dX12_out_96 (by decide) ?_
  exact E_lv [2, 3, 4, 1, 0] rfl h
def W_X12_out_91 (X : Sx) (l : Launch) (D : Nat) (x1 : Int32) (x2 : Int32) (x3 : Int32) (x4 : Int32) (σ : AH) (r : Option Value) (σ' : AH) : Prop := W_X12_out_92 X l D x1 x2 x4 x3 σ r σ'
set_option maxRecDepth 100000 in
theorem w_X12_out_91 {X : Sx} {l : Launch} {D : Nat} {x1 : Int32} {x2 : Int32} {x3 : Int32} {x4 : Int32} {σ : AH} {r : Option Value} {σ' : AH} (hs : Sh σ) (h : W_X12_out_91 X l D x1 x2 x3 x4 σ r σ') : E X l m_X12_out D 91 [(0, .ref 124), (1, .int x1), (2, .int x2), (3, .int x3), (4, .int x4)] [] σ r σ' := by
  unfold W_X12_out_91 at h
  refine E_iload_n 3 dX12_out_91 rfl rfl ?_
  exact E_lv [0, 1, 2, 4] rfl (w_X12_out_92 hs h)
def W_X12_out_49 (X : Sx) (l : Launch) (D : Nat) (x1 : Int32) (x2 : Int32) (x3 : Int32) (x4 : Int32) (σ : AH) (r : Option Value) (σ' : AH) : Prop := (if (gI σ 125 7) ≤ x4 then (if x3 = (-1 : Int32) then ∃ d38 : Nat, ∃ v43 : Int32, ∃ σ39 : AH, d38 + 1 ≤ D ∧ Call X l m_X12_told d38 [.ref 124, .int (-3 : Int32)] σ (some (.int v43)) σ39 ∧ (r = some (.int v43) ∧ σ' = σ39) else ∃ d25 : Nat, ∃ v30 : Int32, ∃ σ26 : AH, d25 + 1 ≤ D ∧ Call X l m_X12_stayAt d25 [.ref 124, .int x3] σ (some (.int v30)) σ26 ∧ vp_in (v30 + (5 : Int32)) 269832 ∧ ∃ d32 : Nat, ∃ v37 : Int32, ∃ σ33 : AH, d32 + 1 ≤ D ∧ Call X l m_X12_told d32 [.ref 124, .int (0 : Int32)] (sI (sI σ26 125 ((v30 + (5 : Int32)).toNatClampNeg) x2) 125 12 x2) (some (.int v37)) σ33 ∧ (r = some (.int v37) ∧ σ' = σ33)) else ∃ d44 : Nat, ∃ v49 : Int32, ∃ σ45 : AH, d44 + 1 ≤ D ∧ Call X l m_X12_stayAt d44 [.ref 124, .int x4] σ (some (.int v49)) σ45 ∧ vp_in v49 269832 ∧ (if (gI σ45 125 v49.toNatClampNeg) = x1 then ∃ d51 : Nat, ∃ v56 : Int32, ∃ σ52 : AH, d51 + 1 ≤ D ∧ Call X l m_X12_squatsIn d51 [.ref 124, .int x4, .int x2] σ45 (some (.int v56)) σ52 ∧ (if v56 = 0 then W_X12_out_91 X l D x1 x2 x3 x4 σ52 r σ' else W_X12_out_92 X l D x1 x2 x4 x4 σ52 r σ') else W_X12_out_91 X l D x1 x2 x3 x4 σ45 r σ'))
set_option maxRecDepth 100000 in
theorem w_X12_out_49 {X : Sx} {l : Launch} {D : Nat} {x1 : Int32} {x2 : Int32} {x3 : Int32} {x4 : Int32} {σ : AH} {r : Option Value} {σ' : AH} (hs : Sh σ) (h : W_X12_out_49 X l D x1 x2 x3 x4 σ r σ') : E X l m_X12_out D 49 [(0, .ref 124), (1, .int x1), (2, .int x2), (3, .int x3), (4, .int x4)] [] σ r σ' := by
  unfold W_X12_out_49 at h
  refine E_iload 4 dX12_out_49 rfl ?_
  refine E_aload_n 0 dX12_out_51 rfl rfl ?_
  refine E_getR 125 dX12_out_52 fl_X12_8 rfl (sk_124 hs) (sn hs (by decide)) (sr_124_2 hs) ?_
  refine E_bipush (7 : Int32) dX12_out_55 (by decide) ?_
  refine E_iald2 7 dX12_out_57 (sk_125 hs) (sn hs (by decide)) (vp_lit (by decide)) (by decide) ?_
  refine E_icmp_ge 99 dX12_out_58 (by decide) (fun c => ?_) (fun c => ?_)
  · rw [if_pos c] at h
    refine E_iload_n 3 dX12_out_99 rfl rfl ?_
    refine E_iconst (-1 : Int32) dX12_out_100 (by decide) ?_
    refine E_icmp_ne 111 dX12_out_101 (by decide) (fun c => ?_) (fun c => ?_)
    · rw [if_neg c] at h
      refine E_aload_n 0 dX12_out_111 rfl rfl ?_
      refine E_getR 125 dX12_out_112 fl_X12_8 rfl (sk_124 hs) (sn hs (by decide)) (sr_124_2 hs) ?_
      refine E_aload_n 0 dX12_out_115 rfl rfl ?_
      refine E_iload_n 3 dX12_out_116 rfl rfl ?_
      obtain ⟨d25, v30, σ26, hD27, hC28, h⟩ := h
      have hs29 := hC28.1.2.2.2.1 hs
      refine E_callV (As := [.int x3]) (rest := [.ref 125]) (r1 := (some (.int v30))) (b := 124) dX12_out_117 ok_X12_stayAt in_X12_stayAt se_X12_stayAt ml_X12_593 hD27 rfl rfl (Nat.le_of_ble_eq_true rfl) (sk_124 hs) (sn hs (by decide)) (by decide) rfl (by decide +kernel) hC28 ?_
      refine E_iconst (5 : Int32) dX12_out_120 (by decide) ?_
      refine E_iadd dX12_out_121 ?_
      refine E_iload_n 2 dX12_out_122 rfl rfl ?_
      obtain ⟨g31, h⟩ := h
      refine E_iast2 ((v30 + (5 : Int32)).toNatClampNeg) dX12_out_123 (sk_125 hs29) (sn hs29 (by decide)) (Or.inl (by decide)) g31 rfl ?_
      refine E_aload_n 0 dX12_out_124 rfl rfl ?_
      refine E_getR 125 dX12_out_125 fl_X12_8 rfl (sk_124 hs29) (sn hs29 (by decide)) (sr_124_2 hs29) ?_
      refine E_bipush (12 : Int32) dX12_out_128 (by decide) ?_
      refine E_iload_n 2 dX12_out_130 rfl rfl ?_
      refine E_iast2 12 dX12_out_131 (sk_125 hs29) (sn hs29 (by decide)) (Or.inl (by decide)) (vp_lit (by decide)) (by decide) ?_
      refine E_aload_n 0 dX12_out_132 rfl rfl ?_
      refine E_iconst (0 : Int32) dX12_out_133 (by decide) ?_
      obtain ⟨d32, v37, σ33, hD34, hC35, h⟩ := h
      have hs36 := hC35.1.2.2.2.1 hs29
      refine E_callV (As := [.int (0 : Int32)]) (rest := []) (r1 := (some (.int v37))) (b := 124) dX12_out_134 ok_X12_told in_X12_told se_X12_told ml_X12_163 hD34 rfl rfl (Nat.le_of_ble_eq_true rfl) (sk_124 hs29) (sn hs29 (by decide)) (by decide) rfl (by decide +kernel) hC35 ?_
      obtain ⟨rfl, rfl⟩ := h
      exact E_iret dX12_out_137 rfl
    · rw [if_pos c] at h
      refine E_aload_n 0 dX12_out_104 rfl rfl ?_
      refine E_bipush (-3 : Int32) dX12_out_105 (by decide) ?_
      obtain ⟨d38, v43, σ39, hD40, hC41, h⟩ := h
      have hs42 := hC41.1.2.2.2.1 hs
      refine E_callV (As := [.int (-3 : Int32)]) (rest := []) (r1 := (some (.int v43))) (b := 124) dX12_out_107 ok_X12_told in_X12_told se_X12_told ml_X12_163 hD40 rfl rfl (Nat.le_of_ble_eq_true rfl) (sk_124 hs) (sn hs (by decide)) (by decide) rfl (by decide +kernel) hC41 ?_
      obtain ⟨rfl, rfl⟩ := h
      exact E_iret dX12_out_110 rfl
  · rw [if_neg c] at h
    refine E_aload_n 0 dX12_out_61 rfl rfl ?_
    refine E_getR 125 dX12_out_62 fl_X12_8 rfl (sk_124 hs) (sn hs (by decide)) (sr_124_2 hs) ?_
    refine E_aload_n 0 dX12_out_65 rfl rfl ?_
    refine E_iload 4 dX12_out_66 rfl ?_
    obtain ⟨d44, v49, σ45, hD46, hC47, h⟩ := h
    have hs48 := hC47.1.2.2.2.1 hs
    refine E_callV (As := [.int x4]) (rest := [.ref 125]) (r1 := (some (.int v49))) (b := 124) dX12_out_68 ok_X12_stayAt in_X12_stayAt se_X12_stayAt ml_X12_593 hD46 rfl rfl (Nat.le_of_ble_eq_true rfl) (sk_124 hs) (sn hs (by decide)) (by decide) rfl (by decide +kernel) hC47 ?_
    obtain ⟨g50, h⟩ := h
    refine E_iald2 (v49.toNatClampNeg) dX12_out_71 (sk_125 hs48) (sn hs48 (by decide)) g50 rfl ?_
    refine E_iload_n 1 dX12_out_72 rfl rfl ?_
    refine E_icmp_ne 91 dX12_out_73 (by decide) (fun c => ?_) (fun c => ?_)
    · rw [if_neg c] at h
      exact E_lv [0, 1, 2, 3, 4] rfl (w_X12_out_91 hs48 h)
    · rw [if_pos c] at h
      refine E_aload_n 0 dX12_out_76 rfl rfl ?_
      refine E_iload 4 dX12_out_77 rfl ?_
      refine E_iload_n 2 dX12_out_79 rfl rfl ?_
      obtain ⟨d51, v56, σ52, hD53, hC54, h⟩ := h
      have hs55 := hC54.1.2.2.2.1 hs48
      refine E_callV (As := [.int x4, .int x2]) (rest := []) (r1 := (some (.int v56))) (b := 124) dX12_out_80 ok_X12_squatsIn in_X12_squatsIn se_X12_squatsIn ml_X12_599 hD53 rfl rfl (Nat.le_of_ble_eq_true rfl) (sk_124 hs48) (sn hs48 (by decide)) (by decide) rfl (by decide +kernel) hC54 ?_
      refine E_if_eq 91 dX12_out_83 (by decide) (fun c => ?_) (fun c => ?_)
      · rw [if_pos c] at h
        exact E_lv [0, 1, 2, 3, 4] rfl (w_X12_out_91 hs55 h)
      · rw [if_neg c] at h
        refine E_iload 4 dX12_out_86 rfl ?_
        refine E_goto 92 dX12_out_88 (by decide) ?_
        exact E_lv [0, 1, 2, 4] rfl (w_X12_out_92 hs55 h)
def W_X12_rent_83 (X : Sx) (l : Launch) (D : Nat) (x1 : Int32) (x2 : Int32) (σ : AH) (r : Option Value) (σ' : AH) : Prop := ∃ d53 : Nat, ∃ v58 : Int32, ∃ σ54 : AH, d53 + 1 ≤ D ∧ Call X l m_X12_roomsOf d53 [.ref 124, .int x1] σ (some (.int v58)) σ54 ∧ ∃ d59 : Nat, ∃ v64 : Int32, ∃ σ60 : AH, d59 + 1 ≤ D ∧ Call X l m_X12_find d59 [.ref 124, .int (5 : Int32), .int (0 : Int32), .int (0 : Int32), .int (0 : Int32), .int x2] (sI σ54 136 1 v58) (some (.int v64)) σ60 ∧ (if (0 : Int64) ≤ (gL σ60 124 32) then ∃ d65 : Nat, ∃ v70 : Int32, ∃ σ66 : AH, d65 + 1 ≤ D ∧ Call X l m_X12_shown d65 [.long (gL σ60 124 32)] σ60 (some (.int v70)) σ66 ∧ (r = some (.int v70) ∧ σ' = σ66) else (r = some (.int (0 : Int32)) ∧ σ' = σ60))
set_option maxRecDepth 100000 in
theorem w_X12_rent_83 {X : Sx} {l : Launch} {D : Nat} {x1 : Int32} {x2 : Int32} {σ : AH} {r : Option Value} {σ' : AH} (hs : Sh σ) (h : W_X12_rent_83 X l D x1 x2 σ r σ') : E X l m_X12_rent D 83 [(0, .ref 124), (1, .int x1), (2, .int x2)] [] σ r σ' := by
  unfold W_X12_rent_83 at h
  refine E_aload_n 0 dX12_rent_83 rfl rfl ?_
  refine E_getR 136 dX12_rent_84 fl_X12_53 rfl (sk_124 hs) (sn hs (by decide)) (sr_124_27 hs) ?_
  refine E_iconst (1 : Int32) dX12_rent_87 (by decide) ?_
  refine E_aload_n 0 dX12_rent_88 rfl rfl ?_
  refine E_iload_n 1 dX12_rent_89 rfl rfl ?_
  obtain ⟨d53, v58, σ54, hD55, hC56, h⟩ := h
  have hs57 := hC56.1.2.2.2.1 hs
  refine E_callV (As := [.int x1]) (rest := [.int (1 : Int32), .ref 136]) (r1 := (some (.int v58))) (b := 124) dX12_rent_90 ok_X12_roomsOf in_X12_roomsOf se_X12_roomsOf ml_X12_504 hD55 rfl rfl (Nat.le_of_ble_eq_true rfl) (sk_124 hs) (sn hs (by decide)) (by decide) rfl (by decide +kernel) hC56 ?_
  refine E_iast2 1 dX12_rent_93 (sk_136 hs57) (sn hs57 (by decide)) (Or.inl (by decide)) (vp_lit (by decide)) (by decide) ?_
  refine E_aload_n 0 dX12_rent_94 rfl rfl ?_
  refine E_iconst (5 : Int32) dX12_rent_95 (by decide) ?_
  refine E_iconst (0 : Int32) dX12_rent_96 (by decide) ?_
  refine E_iconst (0 : Int32) dX12_rent_97 (by decide) ?_
  refine E_iconst (0 : Int32) dX12_rent_98 (by decide) ?_
  refine E_iload_n 2 dX12_rent_99 rfl rfl ?_
  obtain ⟨d59, v64, σ60, hD61, hC62, h⟩ := h
  have hs63 := hC62.1.2.2.2.1 hs57
  refine E_callV (As := [.int (5 : Int32), .int (0 : Int32), .int (0 : Int32), .int (0 : Int32), .int x2]) (rest := []) (r1 := (some (.int v64))) (b := 124) dX12_rent_100 ok_X12_find in_X12_find se_X12_find ml_X12_443 hD61 rfl rfl (Nat.le_of_ble_eq_true rfl) (sk_124 hs57) (sn hs57 (by decide)) (by decide) rfl (by decide +kernel) hC62 ?_
  refine E_pop dX12_rent_103 rfl ?_
  refine E_aload_n 0 dX12_rent_104 rfl rfl ?_
  refine E_getL dX12_rent_105 fl_X12_433 rfl (sk_124 hs63) (sn hs63 (by decide)) ?_
  refine E_lconst (0 : Int64) dX12_rent_108 (by decide) ?_
  refine E_lcmp dX12_rent_109 ?_
  refine E_if_ge 117 dX12_rent_110 (by decide) (fun c => ?_) (fun c => ?_)
  · rw [if_pos ((lc_ge _ _).mp c)] at h
    refine E_aload_n 0 dX12_rent_117 rfl rfl ?_
    refine E_getL dX12_rent_118 fl_X12_433 rfl (sk_124 hs63) (sn hs63 (by decide)) ?_
    obtain ⟨d65, v70, σ66, hD67, hC68, h⟩ := h
    have hs69 := hC68.1.2.2.2.1 hs63
    refine E_callS (As := [.long (gL σ60 124 32)]) (rest := []) (r1 := (some (.int v70))) dX12_rent_121 ok_X12_shown is_X12_shown ml_X12_580 hD67 rfl rfl (Nat.le_of_ble_eq_true rfl) (by decide +kernel) hC68 ?_
    obtain ⟨rfl, rfl⟩ := h
    exact E_iret dX12_rent_124 rfl
  · rw [if_neg (fun q => c ((lc_ge _ _).mpr q))] at h
    refine E_iconst (0 : Int32) dX12_rent_113 (by decide) ?_
    refine E_goto 124 dX12_rent_114 (by decide) ?_
    obtain ⟨rfl, rfl⟩ := h
    exact E_iret dX12_rent_124 rfl
def W_X12_rent_0 (X : Sx) (l : Launch) (D : Nat) (x1 : Int32) (x2 : Int32) (x3 : Int32) (σ : AH) (r : Option Value) (σ' : AH) : Prop := ∃ d1 : Nat, ∃ v6 : Int32, ∃ σ2 : AH, d1 + 1 ≤ D ∧ Call X l m_X12_isPlot d1 [.ref 124, .int x1] (sI σ 124 0 (0 : Int32)) (some (.int v6)) σ2 ∧ (if v6 = 0 then (r = some (.int (-1 : Int32)) ∧ σ' = σ2) else ∃ d7 : Nat, ∃ v12 : Int32, ∃ σ8 : AH, d7 + 1 ≤ D ∧ Call X l m_X12_isWeek d7 [.int x2] σ2 (some (.int v12)) σ8 ∧ (if v12 = 0 then (r = some (.int (-1 : Int32)) ∧ σ' = σ8) else ∃ d13 : Nat, ∃ v18 : Int32, ∃ σ14 : AH, d13 + 1 ≤ D ∧ Call X l m_X12_isWeek d13 [.int x3] σ8 (some (.int v18)) σ14 ∧ (if v18 = 0 then (r = some (.int (-1 : Int32)) ∧ σ' = σ14) else ∃ d19 : Nat, ∃ σ20 : AH, d19 + 1 ≤ D ∧ Call X l m_X12_findHomes d19 [.ref 124, .int x3] σ14 none σ20 ∧ ∃ d24 : Nat, ∃ v29 : Int32, ∃ σ25 : AH, d24 + 1 ≤ D ∧ Call X l m_X12_isHome d24 [.ref 124, .int x1, .int x2] σ20 (some (.int v29)) σ25 ∧ (if v29 = 0 then (r = some (.int (-1 : Int32)) ∧ σ' = σ25) else ∃ d30 : Nat, ∃ v35 : Int32, ∃ σ31 : AH, d30 + 1 ≤ D ∧ Call X l m_X12_livingIn d30 [.ref 124, .int x1, .int x2] σ25 (some (.int v35)) σ31 ∧ ∃ d36 : Nat, ∃ σ37 : AH, d36 + 1 ≤ D ∧ Call X l m_X12_setOnly d36 [.ref 124, .int (0 : Int32), .int x2] σ31 none σ37 ∧ (if v35 = (-1 : Int32) then W_X12_rent_83 X l D x1 x2 σ37 r σ' else ∃ d41 : Nat, ∃ v46 : Int32, ∃ σ42 : AH, d41 + 1 ≤ D ∧ Call X l m_X12_stayAt d41 [.ref 124, .int v35] σ37 (some (.int v46)) σ42 ∧ vp_in (v46 + (1 : Int32)) 269832 ∧ ∃ d48 : Nat, ∃ σ49 : AH, d48 + 1 ≤ D ∧ Call X l m_X12_setEntry d48 [.ref 124, .int (gI σ42 125 (v46 + (1 : Int32)).toNatClampNeg), .int x2] σ42 none σ49 ∧ W_X12_rent_83 X l D x1 x2 σ49 r σ')))))
set_option maxRecDepth 100000 in
theorem w_X12_rent_0 {X : Sx} {l : Launch} {D : Nat} {x1 : Int32} {x2 : Int32} {x3 : Int32} {σ : AH} {r : Option Value} {σ' : AH} (hs : Sh σ) (h : W_X12_rent_0 X l D x1 x2 x3 σ r σ') : E X l m_X12_rent D 0 [(0, .ref 124), (1, .int x1), (2, .int x2), (3, .int x3)] [] σ r σ' := by
  unfold W_X12_rent_0 at h
  refine E_aload_n 0 dX12_rent_0 rfl rfl ?_
  refine E_iconst (0 : Int32) dX12_rent_1 (by decide) ?_
  refine E_putI dX12_rent_2 fl_X12_145 rfl (Or.inl rfl) (sk_124 hs) (sn hs (by decide)) (Or.inl (by decide)) rfl rfl ?_
  refine E_aload_n 0 dX12_rent_5 rfl rfl ?_
  refine E_iload_n 1 dX12_rent_6 rfl rfl ?_
  obtain ⟨d1, v6, σ2, hD3, hC4, h⟩ := h
  have hs5 := hC4.1.2.2.2.1 hs
  refine E_callV (As := [.int x1]) (rest := []) (r1 := (some (.int v6))) (b := 124) dX12_rent_7 ok_X12_isPlot in_X12_isPlot se_X12_isPlot ml_X12_471 hD3 rfl rfl (Nat.le_of_ble_eq_true rfl) (sk_124 hs) (sn hs (by decide)) (by decide) rfl (by decide +kernel) hC4 ?_
  refine E_if_eq 27 dX12_rent_10 (by decide) (fun c => ?_) (fun c => ?_)
  · rw [if_pos c] at h
    refine E_iconst (-1 : Int32) dX12_rent_27 (by decide) ?_
    obtain ⟨rfl, rfl⟩ := h
    exact E_iret dX12_rent_28 rfl
  · rw [if_neg c] at h
    refine E_iload_n 2 dX12_rent_13 rfl rfl ?_
    obtain ⟨d7, v12, σ8, hD9, hC10, h⟩ := h
    have hs11 := hC10.1.2.2.2.1 hs5
    refine E_callS (As := [.int x2]) (rest := []) (r1 := (some (.int v12))) dX12_rent_14 ok_X12_isWeek is_X12_isWeek ml_X12_387 hD9 rfl rfl (Nat.le_of_ble_eq_true rfl) (by decide +kernel) hC10 ?_
    refine E_if_eq 27 dX12_rent_17 (by decide) (fun c => ?_) (fun c => ?_)
    · rw [if_pos c] at h
      refine E_iconst (-1 : Int32) dX12_rent_27 (by decide) ?_
      obtain ⟨rfl, rfl⟩ := h
      exact E_iret dX12_rent_28 rfl
    · rw [if_neg c] at h
      refine E_iload_n 3 dX12_rent_20 rfl rfl ?_
      obtain ⟨d13, v18, σ14, hD15, hC16, h⟩ := h
      have hs17 := hC16.1.2.2.2.1 hs11
      refine E_callS (As := [.int x3]) (rest := []) (r1 := (some (.int v18))) dX12_rent_21 ok_X12_isWeek is_X12_isWeek ml_X12_387 hD15 rfl rfl (Nat.le_of_ble_eq_true rfl) (by decide +kernel) hC16 ?_
      refine E_if_ne 29 dX12_rent_24 (by decide) (fun c => ?_) (fun c => ?_)
      · rw [if_neg c] at h
        refine E_aload_n 0 dX12_rent_29 rfl rfl ?_
        refine E_iload_n 3 dX12_rent_30 rfl rfl ?_
        obtain ⟨d19, σ20, hD21, hC22, h⟩ := h
        have hs23 := hC22.1.2.2.2.1 hs17
        refine E_callV (As := [.int x3]) (rest := []) (r1 := none) (b := 124) dX12_rent_31 ok_X12_findHomes in_X12_findHomes se_X12_findHomes ml_X12_622 hD21 rfl rfl (Nat.le_of_ble_eq_true rfl) (sk_124 hs17) (sn hs17 (by decide)) (by decide) rfl (by decide +kernel) hC22 ?_
        refine E_aload_n 0 dX12_rent_34 rfl rfl ?_
        refine E_iload_n 1 dX12_rent_35 rfl rfl ?_
        refine E_iload_n 2 dX12_rent_36 rfl rfl ?_
        obtain ⟨d24, v29, σ25, hD26, hC27, h⟩ := h
        have hs28 := hC27.1.2.2.2.1 hs23
        refine E_callV (As := [.int x1, .int x2]) (rest := []) (r1 := (some (.int v29))) (b := 124) dX12_rent_37 ok_X12_isHome in_X12_isHome se_X12_isHome ml_X12_609 hD26 rfl rfl (Nat.le_of_ble_eq_true rfl) (sk_124 hs23) (sn hs23 (by decide)) (by decide) rfl (by decide +kernel) hC27 ?_
        refine E_if_ne 45 dX12_rent_40 (by decide) (fun c => ?_) (fun c => ?_)
        · rw [if_neg c] at h
          refine E_aload_n 0 dX12_rent_45 rfl rfl ?_
          refine E_iload_n 1 dX12_rent_46 rfl rfl ?_
          refine E_iload_n 2 dX12_rent_47 rfl rfl ?_
          obtain ⟨d30, v35, σ31, hD32, hC33, h⟩ := h
          have hs34 := hC33.1.2.2.2.1 hs28
          refine E_callV (As := [.int x1, .int x2]) (rest := []) (r1 := (some (.int v35))) (b := 124) dX12_rent_48 ok_X12_livingIn in_X12_livingIn se_X12_livingIn ml_X12_628 hD32 rfl rfl (Nat.le_of_ble_eq_true rfl) (sk_124 hs28) (sn hs28 (by decide)) (by decide) rfl (by decide +kernel) hC33 ?_
          refine E_istore [(4, .int v35), (0, .ref 124), (1, .int x1), (2, .int x2), (3, .int x3)] dX12_rent_51 (by decide) rfl ?_
          refine E_aload_n 1 dX12_rent_53 rfl rfl ?_
          refine E_iconst (0 : Int32) dX12_rent_54 (by decide) ?_
          refine E_iload_n 3 dX12_rent_55 rfl rfl ?_
          obtain ⟨d36, σ37, hD38, hC39, h⟩ := h
          have hs40 := hC39.1.2.2.2.1 hs34
          refine E_callV (As := [.int (0 : Int32), .int x2]) (rest := []) (r1 := none) (b := 124) dX12_rent_56 ok_X12_setOnly in_X12_setOnly se_X12_setOnly ml_X12_440 hD38 rfl rfl (Nat.le_of_ble_eq_true rfl) (sk_124 hs34) (sn hs34 (by decide)) (by decide) rfl (by decide +kernel) hC39 ?_
          refine E_iload 0 dX12_rent_59 rfl ?_
          refine E_iconst (-1 : Int32) dX12_rent_61 (by decide) ?_
          refine E_icmp_eq 83 dX12_rent_62 (by decide) (fun c => ?_) (fun c => ?_)
          · rw [if_pos c] at h
            exact E_lv [1, 2, 3] rfl (w_X12_rent_83 hs40 h)
          · rw [if_neg c] at h
            refine E_aload_n 1 dX12_rent_65 rfl rfl ?_
            refine E_aload_n 1 dX12_rent_66 rfl rfl ?_
            refine E_getR 125 dX12_rent_67 fl_X12_8 rfl (sk_124 hs40) (sn hs40 (by decide)) (sr_124_2 hs40) ?_
            refine E_aload_n 1 dX12_rent_70 rfl rfl ?_
            refine E_iload 0 dX12_rent_71 rfl ?_
            obtain ⟨d41, v46, σ42, hD43, hC44, h⟩ := h
            have hs45 := hC44.1.2.2.2.1 hs40
            refine E_callV (As := [.int v35]) (rest := [.ref 125, .ref 124]) (r1 := (some (.int v46))) (b := 124) dX12_rent_73 ok_X12_stayAt in_X12_stayAt se_X12_stayAt ml_X12_593 hD43 rfl rfl (Nat.le_of_ble_eq_true rfl) (sk_124 hs40) (sn hs40 (by decide)) (by decide) rfl (by decide +kernel) hC44 ?_
            refine E_iconst (1 : Int32) dX12_rent_76 (by decide) ?_
            refine E_iadd dX12_rent_77 ?_
            obtain ⟨g47, h⟩ := h
            refine E_iald2 ((v46 + (1 : Int32)).toNatClampNeg) dX12_rent_78 (sk_125 hs45) (sn hs45 (by decide)) g47 rfl ?_
            refine E_iload_n 3 dX12_rent_79 rfl rfl ?_
            obtain ⟨d48, σ49, hD50, hC51, h⟩ := h
            have hs52 := hC51.1.2.2.2.1 hs45
            refine E_callV (As := [.int (gI σ42 125 (v46 + (1 : Int32)).toNatClampNeg), .int x2]) (rest := []) (r1 := none) (b := 124) dX12_rent_80 ok_X12_setEntry in_X12_setEntry se_X12_setEntry ml_X12_571 hD50 rfl rfl (Nat.le_of_ble_eq_true rfl) (sk_124 hs45) (sn hs45 (by decide)) (by decide) rfl (by decide +kernel) hC51 ?_
            exact E_lv [1, 2, 3] rfl (w_X12_rent_83 hs52 h)
        · rw [if_pos c] at h
          refine E_iconst (-1 : Int32) dX12_rent_43 (by decide) ?_
          obtain ⟨rfl, rfl⟩ := h
          exact E_iret dX12_rent_44 rfl
      · rw [if_pos c] at h
        refine E_iconst (-1 : Int32) dX12_rent_27 (by decide) ?_
        obtain ⟨rfl, rfl⟩ := h
        exact E_iret dX12_rent_28 rfl
def W_X12_lodge_37 (X : Sx) (l : Launch) (D : Nat) (σ : AH) (r : Option Value) (σ' : AH) : Prop := ∃ d48 : Nat, ∃ v53 : Int32, ∃ σ49 : AH, d48 + 1 ≤ D ∧ Call X l m_X12_told d48 [.ref 124, .int (-1 : Int32)] σ (some (.int v53)) σ49 ∧ (r = some (.int v53) ∧ σ' = σ49)
set_option maxRecDepth 100000 in
theorem w_X12_lodge_37 {X : Sx} {l : Launch} {D : Nat} {σ : AH} {r : Option Value} {σ' : AH} (hs : Sh σ) (h : W_X12_lodge_37 X l D σ r σ') : E X l m_X12_lodge D 37 [(0, .ref 124)] [] σ r σ' := by
  unfold W_X12_lodge_37 at h
  refine E_aload_n 0 dX12_lodge_37 rfl rfl ?_
  refine E_iconst (-1 : Int32) dX12_lodge_38 (by decide) ?_
  obtain ⟨d48, v53, σ49, hD50, hC51, h⟩ := h
  have hs52 := hC51.1.2.2.2.1 hs
  refine E_callV (As := [.int (-1 : Int32)]) (rest := []) (r1 := (some (.int v53))) (b := 124) dX12_lodge_39 ok_X12_told in_X12_told se_X12_told ml_X12_163 hD50 rfl rfl (Nat.le_of_ble_eq_true rfl) (sk_124 hs) (sn hs (by decide)) (by decide) rfl (by decide +kernel) hC51 ?_
  obtain ⟨rfl, rfl⟩ := h
  exact E_iret dX12_lodge_42 rfl
def W_X12_lodge_0 (X : Sx) (l : Launch) (D : Nat) (x1 : Int32) (x2 : Int32) (x3 : Int32) (x4 : Int32) (σ : AH) (r : Option Value) (σ' : AH) : Prop := ∃ d1 : Nat, ∃ v6 : Int32, ∃ σ2 : AH, d1 + 1 ≤ D ∧ Call X l m_X12_in d1 [.long (x2).toInt64, .long (1 : Int64), .long (20 : Int64)] (sI σ 124 0 (0 : Int32)) (some (.int v6)) σ2 ∧ (if v6 = 0 then W_X12_lodge_37 X l D σ2 r σ' else ∃ d7 : Nat, ∃ v12 : Int32, ∃ σ8 : AH, d7 + 1 ≤ D ∧ Call X l m_X12_isWeek d7 [.int x4] σ2 (some (.int v12)) σ8 ∧ (if v12 = 0 then W_X12_lodge_37 X l D σ8 r σ' else ∃ d13 : Nat, ∃ v18 : Int32, ∃ σ14 : AH, d13 + 1 ≤ D ∧ Call X l m_X12_in d13 [.long (x3).toInt64, .long (0 : Int64), .long (x4).toInt64] σ8 (some (.int v18)) σ14 ∧ (if v18 = 0 then W_X12_lodge_37 X l D σ14 r σ' else ∃ d19 : Nat, ∃ v24 : Int32, ∃ σ20 : AH, d19 + 1 ≤ D ∧ Call X l m_X12_isPlot d19 [.ref 124, .int x1] σ14 (some (.int v24)) σ20 ∧ (if v24 = 0 then ∃ d42 : Nat, ∃ v47 : Int32, ∃ σ43 : AH, d42 + 1 ≤ D ∧ Call X l m_X12_told d42 [.ref 124, .int (-2 : Int32)] σ20 (some (.int v47)) σ43 ∧ (r = some (.int v47) ∧ σ' = σ43) else (if (gI σ20 125 9) = (40 : Int32) then ∃ d36 : Nat, ∃ v41 : Int32, ∃ σ37 : AH, d36 + 1 ≤ D ∧ Call X l m_X12_told d36 [.ref 124, .int (-5 : Int32)] σ20 (some (.int v41)) σ37 ∧ (r = some (.int v41) ∧ σ' = σ37) else ∃ d25 : Nat, ∃ σ26 : AH, d25 + 1 ≤ D ∧ Call X l m_X12_addFour d25 [.ref 124, .int ((24432 : Int32) + ((4 : Int32) * (gI σ20 125 9))), .int x1, .int x2, .int x3, .int x4] σ20 none σ26 ∧ ∃ d30 : Nat, ∃ v35 : Int32, ∃ σ31 : AH, d30 + 1 ≤ D ∧ Call X l m_X12_told d30 [.ref 124, .int (gI (sI σ26 125 9 ((gI σ26 125 9) + (1 : Int32))) 125 9)] (sI σ26 125 9 ((gI σ26 125 9) + (1 : Int32))) (some (.int v35)) σ31 ∧ (r = some (.int v35) ∧ σ' = σ31))))))
set_option maxRecDepth 100000 in
theorem w_X12_lodge_0 {X : Sx} {l : Launch} {D : Nat} {x1 : Int32} {x2 : Int32} {x3 : Int32} {x4 : Int32} {σ : AH} {r : Option Value} {σ' : AH} (hs : Sh σ) (h : W_X12_lodge_0 X l D x1 x2 x3 x4 σ r σ') : E X l m_X12_lodge D 0 [(0, .ref 124), (1, .int x1), (2, .int x2), (3, .int x3), (4, .int x4)] [] σ r σ' := by
  unfold W_X12_lodge_0 at h
  refine E_aload_n 0 dX12_lodge_0 rfl rfl ?_
  refine E_iconst (0 : Int32) dX12_lodge_1 (by decide) ?_
  refine E_putI dX12_lodge_2 fl_X12_145 rfl (Or.inl rfl) (sk_124 hs) (sn hs (by decide)) (Or.inl (by decide)) rfl rfl ?_
  refine E_iload_n 2 dX12_lodge_5 rfl rfl ?_
  refine E_i2l dX12_lodge_6 ?_
  refine E_lconst (1 : Int64) dX12_lodge_7 (by decide) ?_
  refine E_ldc2 (20 : Int64) dX12_lodge_8 cl_X12_553 ?_
  obtain ⟨d1, v6, σ2, hD3, hC4, h⟩ := h
  have hs5 := hC4.1.2.2.2.1 hs
  refine E_callS (As := [.long (x2).toInt64, .long (1 : Int64), .long (20 : Int64)]) (rest := []) (r1 := (some (.int v6))) dX12_lodge_11 ok_X12_in is_X12_in ml_X12_153 hD3 rfl rfl (Nat.le_of_ble_eq_true rfl) (by decide +kernel) hC4 ?_
  refine E_if_eq 37 dX12_lodge_14 (by decide) (fun c => ?_) (fun c => ?_)
  · rw [if_pos c] at h
    exact E_lv [0] rfl (w_X12_lodge_37 hs5 h)
  · rw [if_neg c] at h
    refine E_iload 4 dX12_lodge_17 rfl ?_
    obtain ⟨d7, v12, σ8, hD9, hC10, h⟩ := h
    have hs11 := hC10.1.2.2.2.1 hs5
    refine E_callS (As := [.int x4]) (rest := []) (r1 := (some (.int v12))) dX12_lodge_19 ok_X12_isWeek is_X12_isWeek ml_X12_387 hD9 rfl rfl (Nat.le_of_ble_eq_true rfl) (by decide +kernel) hC10 ?_
    refine E_if_eq 37 dX12_lodge_22 (by decide) (fun c => ?_) (fun c => ?_)
    · rw [if_pos c] at h
      exact E_lv [0] rfl (w_X12_lodge_37 hs11 h)
    · rw [if_neg c] at h
      refine E_iload_n 3 dX12_lodge_25 rfl rfl ?_
      refine E_i2l dX12_lodge_26 ?_
      refine E_lconst (0 : Int64) dX12_lodge_27 (by decide) ?_
      refine E_iload 4 dX12_lodge_28 rfl ?_
      refine E_i2l dX12_lodge_30 ?_
      obtain ⟨d13, v18, σ14, hD15, hC16, h⟩ := h
      have hs17 := hC16.1.2.2.2.1 hs11
      refine E_callS (As := [.long (x3).toInt64, .long (0 : Int64), .long (x4).toInt64]) (rest := []) (r1 := (some (.int v18))) dX12_lodge_31 ok_X12_in is_X12_in ml_X12_153 hD15 rfl rfl (Nat.le_of_ble_eq_true rfl) (by decide +kernel) hC16 ?_
      refine E_if_ne 43 dX12_lodge_34 (by decide) (fun c => ?_) (fun c => ?_)
      · rw [if_neg c] at h
        refine E_aload_n 0 dX12_lodge_43 rfl rfl ?_
        refine E_iload_n 1 dX12_lodge_44 rfl rfl ?_
        obtain ⟨d19, v24, σ20, hD21, hC22, h⟩ := h
        have hs23 := hC22.1.2.2.2.1 hs17
        refine E_callV (As := [.int x1]) (rest := []) (r1 := (some (.int v24))) (b := 124) dX12_lodge_45 ok_X12_isPlot in_X12_isPlot se_X12_isPlot ml_X12_471 hD21 rfl rfl (Nat.le_of_ble_eq_true rfl) (sk_124 hs17) (sn hs17 (by decide)) (by decide) rfl (by decide +kernel) hC22 ?_
        refine E_if_ne 58 dX12_lodge_48 (by decide) (fun c => ?_) (fun c => ?_)
        · rw [if_neg c] at h
          refine E_aload_n 0 dX12_lodge_58 rfl rfl ?_
          refine E_getR 125 dX12_lodge_59 fl_X12_8 rfl (sk_124 hs23) (sn hs23 (by decide)) (sr_124_2 hs23) ?_
          refine E_bipush (9 : Int32) dX12_lodge_62 (by decide) ?_
          refine E_iald2 9 dX12_lodge_64 (sk_125 hs23) (sn hs23 (by decide)) (vp_lit (by decide)) (by decide) ?_
          refine E_bipush (40 : Int32) dX12_lodge_65 (by decide) ?_
          refine E_icmp_ne 77 dX12_lodge_67 (by decide) (fun c => ?_) (fun c => ?_)
          · rw [if_neg c] at h
            refine E_aload_n 0 dX12_lodge_77 rfl rfl ?_
            refine E_sipush (24432 : Int32) dX12_lodge_78 (by decide) ?_
            refine E_iconst (4 : Int32) dX12_lodge_81 (by decide) ?_
            refine E_aload_n 0 dX12_lodge_82 rfl rfl ?_
            refine E_getR 125 dX12_lodge_83 fl_X12_8 rfl (sk_124 hs23) (sn hs23 (by decide)) (sr_124_2 hs23) ?_
            refine E_bipush (9 : Int32) dX12_lodge_86 (by decide) ?_
            refine E_iald2 9 dX12_lodge_88 (sk_125 hs23) (sn hs23 (by decide)) (vp_lit (by decide)) (by decide) ?_
            refine E_imul dX12_lodge_89 ?_
            refine E_iadd dX12_lodge_90 ?_
            refine E_iload_n 1 dX12_lodge_91 rfl rfl ?_
            refine E_iload_n 2 dX12_lodge_92 rfl rfl ?_
            refine E_iload_n 3 dX12_lodge_93 rfl rfl ?_
            refine E_iload 4 dX12_lodge_94 rfl ?_
            obtain ⟨d25, σ26, hD27, hC28, h⟩ := h
            have hs29 := hC28.1.2.2.2.1 hs23
            refine E_callV (As := [.int ((24432 : Int32) + ((4 : Int32) * (gI σ20 125 9))), .int x1, .int x2, .int x3, .int x4]) (rest := []) (r1 := none) (b := 124) dX12_lodge_96 ok_X12_addFour in_X12_addFour se_X12_addFour ml_X12_458 hD27 rfl rfl (Nat.le_of_ble_eq_true rfl) (sk_124 hs23) (sn hs23 (by decide)) (by decide) rfl (by decide +kernel) hC28 ?_
            refine E_aload_n 0 dX12_lodge_99 rfl rfl ?_
            refine E_getR 125 dX12_lodge_100 fl_X12_8 rfl (sk_124 hs29) (sn hs29 (by decide)) (sr_124_2 hs29) ?_
            refine E_bipush (9 : Int32) dX12_lodge_103 (by decide) ?_
            refine E_dup2 dX12_lodge_105 rfl rfl ?_
            refine E_iald2 9 dX12_lodge_106 (sk_125 hs29) (sn hs29 (by decide)) (vp_lit (by decide)) (by decide) ?_
            refine E_iconst (1 : Int32) dX12_lodge_107 (by decide) ?_
            refine E_iadd dX12_lodge_108 ?_
            refine E_iast2 9 dX12_lodge_109 (sk_125 hs29) (sn hs29 (by decide)) (Or.inl (by decide)) (vp_lit (by decide)) (by decide) ?_
            refine E_aload_n 0 dX12_lodge_110 rfl rfl ?_
            refine E_aload_n 0 dX12_lodge_111 rfl rfl ?_
            refine E_getR 125 dX12_lodge_112 fl_X12_8 rfl (sk_124 hs29) (sn hs29 (by decide)) (sr_124_2 hs29) ?_
            refine E_bipush (9 : Int32) dX12_lodge_115 (by decide) ?_
            refine E_iald2 9 dX12_lodge_117 (sk_125 hs29) (sn hs29 (by decide)) (vp_lit (by decide)) (by decide) ?_
            obtain ⟨d30, v35, σ31, hD32, hC33, h⟩ := h
            have hs34 := hC33.1.2.2.2.1 hs29
            refine E_callV (As := [.int (gI (sI σ26 125 9 ((gI σ26 125 9) + (1 : Int32))) 125 9)]) (rest := []) (r1 := (some (.int v35))) (b := 124) dX12_lodge_118 ok_X12_told in_X12_told se_X12_told ml_X12_163 hD32 rfl rfl (Nat.le_of_ble_eq_true rfl) (sk_124 hs29) (sn hs29 (by decide)) (by decide) rfl (by decide +kernel) hC33 ?_
            obtain ⟨rfl, rfl⟩ := h
            exact E_iret dX12_lodge_121 rfl
          · rw [if_pos c] at h
            refine E_aload_n 0 dX12_lodge_70 rfl rfl ?_
            refine E_bipush (-5 : Int32) dX12_lodge_71 (by decide) ?_
            obtain ⟨d36, v41, σ37, hD38, hC39, h⟩ := h
            have hs40 := hC39.1.2.2.2.1 hs23
            refine E_callV (As := [.int (-5 : Int32)]) (rest := []) (r1 := (some (.int v41))) (b := 124) dX12_lodge_73 ok_X12_told in_X12_told se_X12_told ml_X12_163 hD38 rfl rfl (Nat.le_of_ble_eq_true rfl) (sk_124 hs23) (sn hs23 (by decide)) (by decide) rfl (by decide +kernel) hC39 ?_
            obtain ⟨rfl, rfl⟩ := h
            exact E_iret dX12_lodge_76 rfl
        · rw [if_pos c] at h
          refine E_aload_n 0 dX12_lodge_51 rfl rfl ?_
          refine E_bipush (-2 : Int32) dX12_lodge_52 (by decide) ?_
          obtain ⟨d42, v47, σ43, hD44, hC45, h⟩ := h
          have hs46 := hC45.1.2.2.2.1 hs23
          refine E_callV (As := [.int (-2 : Int32)]) (rest := []) (r1 := (some (.int v47))) (b := 124) dX12_lodge_54 ok_X12_told in_X12_told se_X12_told ml_X12_163 hD44 rfl rfl (Nat.le_of_ble_eq_true rfl) (sk_124 hs23) (sn hs23 (by decide)) (by decide) rfl (by decide +kernel) hC45 ?_
          obtain ⟨rfl, rfl⟩ := h
          exact E_iret dX12_lodge_57 rfl
      · rw [if_pos c] at h
        exact E_lv [0] rfl (w_X12_lodge_37 hs17 h)
def W_X12_under_55 (X : Sx) (l : Launch) (D : Nat) (x1 : Int32) (x2 : Int32) (y0 : Int32) (σ : AH) (r : Option Value) (σ' : AH) : Prop := E X l m_X12_under D 60 [(0, .ref 124), (1, .int x1), (2, .int x2), (4, .int y0), (5, .int (0 : Int32))] [] σ r σ'
set_option maxRecDepth 100000 in
theorem w_X12_under_55 {X : Sx} {l : Launch} {D : Nat} {x1 : Int32} {x2 : Int32} {y0 : Int32} {σ : AH} {r : Option Value} {σ' : AH} (hs : Sh σ) (h : W_X12_under_55 X l D x1 x2 y0 σ r σ') : E X l m_X12_under D 55 [(0, .ref 124), (1, .int x1), (2, .int x2)] [.int y0] σ r σ' := by
  unfold W_X12_under_55 at h
  refine E_istore [(4, .int y0), (0, .ref 124), (1, .int x1), (2, .int x2)] dX12_under_55 (by decide) rfl ?_
  refine E_iconst (0 : Int32) dX12_under_57 (by decide) ?_
  refine E_istore [(5, .int (0 : Int32)), (4, .int y0), (0, .ref 124), (1, .int x1), (2, .int x2)] dX12_under_58 (by decide) rfl ?_
  exact E_lv [2, 3, 4, 1, 0] rfl h
def W_X12_under_0 (X : Sx) (l : Launch) (D : Nat) (x1 : Int32) (x2 : Int32) (σ : AH) (r : Option Value) (σ' : AH) : Prop := ∃ d1 : Nat, ∃ v6 : Int32, ∃ σ2 : AH, d1 + 1 ≤ D ∧ Call X l m_X12_isPlot d1 [.ref 124, .int x1] (sI σ 124 0 (0 : Int32)) (some (.int v6)) σ2 ∧ (if v6 = 0 then (r = some (.int (-1 : Int32)) ∧ σ' = σ2) else ∃ d7 : Nat, ∃ v12 : Int32, ∃ σ8 : AH, d7 + 1 ≤ D ∧ Call X l m_X12_isWeek d7 [.int x2] σ2 (some (.int v12)) σ8 ∧ (if v12 = 0 then (r = some (.int (-1 : Int32)) ∧ σ' = σ8) else ∃ d13 : Nat, ∃ v18 : Int32, ∃ σ14 : AH, d13 + 1 ≤ D ∧ Call X l m_X12_livingIn d13 [.ref 124, .int x1, .int x2] σ8 (some (.int v18)) σ14 ∧ (if v18 = (-1 : Int32) then W_X12_under_55 X l D x1 x2 (0 : Int32) σ14 r σ' else ∃ d19 : Nat, ∃ v24 : Int32, ∃ σ20 : AH, d19 + 1 ≤ D ∧ Call X l m_X12_stayAt d19 [.ref 124, .int v18] σ14 (some (.int v24)) σ20 ∧ vp_in (v24 + (1 : Int32)) 269832 ∧ ∃ d26 : Nat, ∃ v31 : Int32, ∃ σ27 : AH, d26 + 1 ≤ D ∧ Call X l m_X12_entryAt d26 [.ref 124, .int (gI σ20 125 (v24 + (1 : Int32)).toNatClampNeg), .int (2 : Int32)] σ20 (some (.int v31)) σ27 ∧ W_X12_under_55 X l D x1 x2 v31 σ27 r σ')))
set_option maxRecDepth 100000 in
theorem w_X12_under_0 {X : Sx} {l : Launch} {D : Nat} {x1 : Int32} {x2 : Int32} {σ : AH} {r : Option Value} {σ' : AH} (hs : Sh σ) (h : W_X12_under_0 X l D x1 x2 σ r σ') : E X l m_X12_under D 0 [(0, .ref 124), (1, .int x1), (2, .int x2)] [] σ r σ' := by
  unfold W_X12_under_0 at h
  refine E_aload_n 0 dX12_under_0 rfl rfl ?_
  refine E_iconst (0 : Int32) dX12_under_1 (by decide) ?_
  refine E_putI dX12_under_2 fl_X12_145 rfl (Or.inl rfl) (sk_124 hs) (sn hs (by decide)) (Or.inl (by decide)) rfl rfl ?_
  refine E_aload_n 0 dX12_under_5 rfl rfl ?_
  refine E_iload_n 1 dX12_under_6 rfl rfl ?_
  obtain ⟨d1, v6, σ2, hD3, hC4, h⟩ := h
  have hs5 := hC4.1.2.2.2.1 hs
  refine E_callV (As := [.int x1]) (rest := []) (r1 := (some (.int v6))) (b := 124) dX12_under_7 ok_X12_isPlot in_X12_isPlot se_X12_isPlot ml_X12_471 hD3 rfl rfl (Nat.le_of_ble_eq_true rfl) (sk_124 hs) (sn hs (by decide)) (by decide) rfl (by decide +kernel) hC4 ?_
  refine E_if_eq 20 dX12_under_10 (by decide) (fun c => ?_) (fun c => ?_)
  · rw [if_pos c] at h
    refine E_iconst (-1 : Int32) dX12_under_20 (by decide) ?_
    obtain ⟨rfl, rfl⟩ := h
    exact E_iret dX12_under_21 rfl
  · rw [if_neg c] at h
    refine E_iload_n 2 dX12_under_13 rfl rfl ?_
    obtain ⟨d7, v12, σ8, hD9, hC10, h⟩ := h
    have hs11 := hC10.1.2.2.2.1 hs5
    refine E_callS (As := [.int x2]) (rest := []) (r1 := (some (.int v12))) dX12_under_14 ok_X12_isWeek is_X12_isWeek ml_X12_387 hD9 rfl rfl (Nat.le_of_ble_eq_true rfl) (by decide +kernel) hC10 ?_
    refine E_if_ne 22 dX12_under_17 (by decide) (fun c => ?_) (fun c => ?_)
    · rw [if_neg c] at h
      refine E_aload_n 0 dX12_under_22 rfl rfl ?_
      refine E_iload_n 1 dX12_under_23 rfl rfl ?_
      refine E_iload_n 2 dX12_under_24 rfl rfl ?_
      obtain ⟨d13, v18, σ14, hD15, hC16, h⟩ := h
      have hs17 := hC16.1.2.2.2.1 hs11
      refine E_callV (As := [.int x1, .int x2]) (rest := []) (r1 := (some (.int v18))) (b := 124) dX12_under_25 ok_X12_livingIn in_X12_livingIn se_X12_livingIn ml_X12_628 hD15 rfl rfl (Nat.le_of_ble_eq_true rfl) (sk_124 hs11) (sn hs11 (by decide)) (by decide) rfl (by decide +kernel) hC16 ?_
      refine E_istore_n [(3, .int v18), (0, .ref 124), (1, .int x1), (2, .int x2)] dX12_under_28 rfl (by decide) rfl ?_
      refine E_iload_n 0 dX12_under_29 rfl rfl ?_
      refine E_iconst (-1 : Int32) dX12_under_30 (by decide) ?_
      refine E_icmp_ne 38 dX12_under_31 (by decide) (fun c => ?_) (fun c => ?_)
      · rw [if_neg c] at h
        refine E_aload_n 1 dX12_under_38 rfl rfl ?_
        refine E_aload_n 1 dX12_under_39 rfl rfl ?_
        refine E_getR 125 dX12_under_40 fl_X12_8 rfl (sk_124 hs17) (sn hs17 (by decide)) (sr_124_2 hs17) ?_
        refine E_aload_n 1 dX12_under_43 rfl rfl ?_
        refine E_iload_n 0 dX12_under_44 rfl rfl ?_
        obtain ⟨d19, v24, σ20, hD21, hC22, h⟩ := h
        have hs23 := hC22.1.2.2.2.1 hs17
        refine E_callV (As := [.int v18]) (rest := [.ref 125, .ref 124]) (r1 := (some (.int v24))) (b := 124) dX12_under_45 ok_X12_stayAt in_X12_stayAt se_X12_stayAt ml_X12_593 hD21 rfl rfl (Nat.le_of_ble_eq_true rfl) (sk_124 hs17) (sn hs17 (by decide)) (by decide) rfl (by decide +kernel) hC22 ?_
        refine E_iconst (1 : Int32) dX12_under_48 (by decide) ?_
        refine E_iadd dX12_under_49 ?_
        obtain ⟨g25, h⟩ := h
        refine E_iald2 ((v24 + (1 : Int32)).toNatClampNeg) dX12_under_50 (sk_125 hs23) (sn hs23 (by decide)) g25 rfl ?_
        refine E_iconst (2 : Int32) dX12_under_51 (by decide) ?_
        obtain ⟨d26, v31, σ27, hD28, hC29, h⟩ := h
        have hs30 := hC29.1.2.2.2.1 hs23
        refine E_callV (As := [.int (gI σ20 125 (v24 + (1 : Int32)).toNatClampNeg), .int (2 : Int32)]) (rest := []) (r1 := (some (.int v31))) (b := 124) dX12_under_52 ok_X12_entryAt in_X12_entryAt se_X12_entryAt ml_X12_562 hD28 rfl rfl (Nat.le_of_ble_eq_true rfl) (sk_124 hs23) (sn hs23 (by decide)) (by decide) rfl (by decide +kernel) hC29 ?_
        exact E_lv [1, 2, 3] rfl (w_X12_under_55 hs30 h)
      · rw [if_pos c] at h
        refine E_iconst (0 : Int32) dX12_under_34 (by decide) ?_
        refine E_goto 55 dX12_under_35 (by decide) ?_
        exact E_lv [1, 2, 3] rfl (w_X12_under_55 hs17 h)
    · rw [if_pos c] at h
      refine E_iconst (-1 : Int32) dX12_under_20 (by decide) ?_
      obtain ⟨rfl, rfl⟩ := h
      exact E_iret dX12_under_21 rfl
def W_X12_under_136 (X : Sx) (l : Launch) (D : Nat) (x1 : Int32) (x2 : Int32) (x5 : Int32) (y0 : Int32) (y1 : Int32) (σ : AH) (r : Option Value) (σ' : AH) : Prop := E X l m_X12_under D 60 [(0, .ref 124), (1, .int x1), (2, .int x2), (4, .int (y1 + y0)), (5, .int (x5 + 1))] [] σ r σ'
set_option maxRecDepth 100000 in
theorem w_X12_under_136 {X : Sx} {l : Launch} {D : Nat} {x1 : Int32} {x2 : Int32} {x5 : Int32} {y0 : Int32} {y1 : Int32} {σ : AH} {r : Option Value} {σ' : AH} (hs : Sh σ) (h : W_X12_under_136 X l D x1 x2 x5 y0 y1 σ r σ') : E X l m_X12_under D 136 [(0, .ref 124), (1, .int x1), (2, .int x2), (5, .int x5)] [.int y0, .int y1] σ r σ' := by
  unfold W_X12_under_136 at h
  refine E_iadd dX12_under_136 ?_
  refine E_istore [(4, .int (y1 + y0)), (0, .ref 124), (1, .int x1), (2, .int x2), (5, .int x5)] dX12_under_137 (by decide) rfl ?_
  refine E_iinc 4 (x5 + 1) [(5, .int (x5 + 1)), (4, .int (y1 + y0)), (0, .ref 124), (1, .int x1), (2, .int x2)] dX12_under_139 rfl (congrArg (x5 + ·) (by decide : Int32.ofInt 1 = 1)) (by decide) rfl ?_
  refine E_goto 60 dX12_under_142 (by decide) ?_
  exact E_lv [2, 3, 4, 1, 0] rfl h
def W_X12_under_135 (X : Sx) (l : Launch) (D : Nat) (x1 : Int32) (x2 : Int32) (x5 : Int32) (y0 : Int32) (σ : AH) (r : Option Value) (σ' : AH) : Prop := W_X12_under_136 X l D x1 x2 x5 (0 : Int32) y0 σ r σ'
set_option maxRecDepth 100000 in
theorem w_X12_under_135 {X : Sx} {l : Launch} {D : Nat} {x1 : Int32} {x2 : Int32} {x5 : Int32} {y0 : Int32} {σ : AH} {r : Option Value} {σ' : AH} (hs : Sh σ) (h : W_X12_under_135 X l D x1 x2 x5 y0 σ r σ') : E X l m_X12_under D 135 [(0, .ref 124), (1, .int x1), (2, .int x2), (5, .int x5)] [.int y0] σ r σ' := by
  unfold W_X12_under_135 at h
  refine E_iconst (0 : Int32) dX12_under_135 (by decide) ?_
  exact E_lv [0, 1, 2, 3] rfl (w_X12_under_136 hs h)
def W_X12_under_60 (X : Sx) (l : Launch) (D : Nat) (x1 : Int32) (x2 : Int32) (x4 : Int32) (x5 : Int32) (σ : AH) (r : Option Value) (σ' : AH) : Prop := (if (gI σ 125 9) ≤ x5 then (r = some (.int x4) ∧ σ' = σ) else vp_in ((24432 : Int32) + ((4 : Int32) * x5)) 269832 ∧ (if (gI σ 125 ((24432 : Int32) + ((4 : Int32) * x5)).toNatClampNeg) = x1 then vp_in (((24432 : Int32) + ((4 : Int32) * x5)) + (2 : Int32)) 269832 ∧ vp_in (((24432 : Int32) + ((4 : Int32) * x5)) + (3 : Int32)) 269832 ∧ ∃ d35 : Nat, ∃ v40 : Int32, ∃ σ36 : AH, d35 + 1 ≤ D ∧ Call X l m_X12_in d35 [.long (x2).toInt64, .long ((gI σ 125 (((24432 : Int32) + ((4 : Int32) * x5)) + (2 : Int32)).toNatClampNeg)).toInt64, .long ((gI σ 125 (((24432 : Int32) + ((4 : Int32) * x5)) + (3 : Int32)).toNatClampNeg)).toInt64] σ (some (.int v40)) σ36 ∧ (if v40 = 0 then W_X12_under_135 X l D x1 x2 x5 x4 σ36 r σ' else vp_in (((24432 : Int32) + ((4 : Int32) * x5)) + (1 : Int32)) 269832 ∧ W_X12_under_136 X l D x1 x2 x5 (gI σ36 125 (((24432 : Int32) + ((4 : Int32) * x5)) + (1 : Int32)).toNatClampNeg) x4 σ36 r σ') else W_X12_under_135 X l D x1 x2 x5 x4 σ r σ'))
set_option maxRecDepth 100000 in
theorem w_X12_under_60 {X : Sx} {l : Launch} {D : Nat} {x1 : Int32} {x2 : Int32} {x4 : Int32} {x5 : Int32} {σ : AH} {r : Option Value} {σ' : AH} (hs : Sh σ) (h : W_X12_under_60 X l D x1 x2 x4 x5 σ r σ') : E X l m_X12_under D 60 [(0, .ref 124), (1, .int x1), (2, .int x2), (4, .int x4), (5, .int x5)] [] σ r σ' := by
  unfold W_X12_under_60 at h
  refine E_iload 4 dX12_under_60 rfl ?_
  refine E_aload_n 0 dX12_under_62 rfl rfl ?_
  refine E_getR 125 dX12_under_63 fl_X12_8 rfl (sk_124 hs) (sn hs (by decide)) (sr_124_2 hs) ?_
  refine E_bipush (9 : Int32) dX12_under_66 (by decide) ?_
  refine E_iald2 9 dX12_under_68 (sk_125 hs) (sn hs (by decide)) (vp_lit (by decide)) (by decide) ?_
  refine E_icmp_ge 145 dX12_under_69 (by decide) (fun c => ?_) (fun c => ?_)
  · rw [if_pos c] at h
    refine E_iload 3 dX12_under_145 rfl ?_
    obtain ⟨rfl, rfl⟩ := h
    exact E_iret dX12_under_147 rfl
  · rw [if_neg c] at h
    refine E_sipush (24432 : Int32) dX12_under_72 (by decide) ?_
    refine E_iconst (4 : Int32) dX12_under_75 (by decide) ?_
    refine E_iload 4 dX12_under_76 rfl ?_
    refine E_imul dX12_under_78 ?_
    refine E_iadd dX12_under_79 ?_
    refine E_istore [(6, .int ((24432 : Int32) + ((4 : Int32) * x5))), (0, .ref 124), (1, .int x1), (2, .int x2), (4, .int x4), (5, .int x5)] dX12_under_80 (by decide) rfl ?_
    refine E_iload 4 dX12_under_82 rfl ?_
    refine E_aload_n 1 dX12_under_84 rfl rfl ?_
    refine E_getR 125 dX12_under_85 fl_X12_8 rfl (sk_124 hs) (sn hs (by decide)) (sr_124_2 hs) ?_
    refine E_iload 0 dX12_under_88 rfl ?_
    obtain ⟨g32, h⟩ := h
    refine E_iald2 (((24432 : Int32) + ((4 : Int32) * x5)).toNatClampNeg) dX12_under_90 (sk_125 hs) (sn hs (by decide)) g32 rfl ?_
    refine E_iload_n 2 dX12_under_91 rfl rfl ?_
    refine E_icmp_ne 135 dX12_under_92 (by decide) (fun c => ?_) (fun c => ?_)
    · rw [if_neg c] at h
      exact E_lv [1, 2, 3, 5] rfl (w_X12_under_135 hs h)
    · rw [if_pos c] at h
      refine E_iload_n 3 dX12_under_95 rfl rfl ?_
      refine E_i2l dX12_under_96 ?_
      refine E_aload_n 1 dX12_under_97 rfl rfl ?_
      refine E_getR 125 dX12_under_98 fl_X12_8 rfl (sk_124 hs) (sn hs (by decide)) (sr_124_2 hs) ?_
      refine E_iload 0 dX12_under_101 rfl ?_
      refine E_iconst (2 : Int32) dX12_under_103 (by decide) ?_
      refine E_iadd dX12_under_104 ?_
      obtain ⟨g33, h⟩ := h
      refine E_iald2 ((((24432 : Int32) + ((4 : Int32) * x5)) + (2 : Int32)).toNatClampNeg) dX12_under_105 (sk_125 hs) (sn hs (by decide)) g33 rfl ?_
      refine E_i2l dX12_under_106 ?_
      refine E_aload_n 1 dX12_under_107 rfl rfl ?_
      refine E_getR 125 dX12_under_108 fl_X12_8 rfl (sk_124 hs) (sn hs (by decide)) (sr_124_2 hs) ?_
      refine E_iload 0 dX12_under_111 rfl ?_
      refine E_iconst (3 : Int32) dX12_under_113 (by decide) ?_
      refine E_iadd dX12_under_114 ?_
      obtain ⟨g34, h⟩ := h
      refine E_iald2 ((((24432 : Int32) + ((4 : Int32) * x5)) + (3 : Int32)).toNatClampNeg) dX12_under_115 (sk_125 hs) (sn hs (by decide)) g34 rfl ?_
      refine E_i2l dX12_under_116 ?_
      obtain ⟨d35, v40, σ36, hD37, hC38, h⟩ := h
      have hs39 := hC38.1.2.2.2.1 hs
      refine E_callS (As := [.long (x2).toInt64, .long ((gI σ 125 (((24432 : Int32) + ((4 : Int32) * x5)) + (2 : Int32)).toNatClampNeg)).toInt64, .long ((gI σ 125 (((24432 : Int32) + ((4 : Int32) * x5)) + (3 : Int32)).toNatClampNeg)).toInt64]) (rest := [.int x4]) (r1 := (some (.int v40))) dX12_under_117 ok_X12_in is_X12_in ml_X12_153 hD37 rfl rfl (Nat.le_of_ble_eq_true rfl) (by decide +kernel) hC38 ?_
      refine E_if_eq 135 dX12_under_120 (by decide) (fun c => ?_) (fun c => ?_)
      · rw [if_pos c] at h
        exact E_lv [1, 2, 3, 5] rfl (w_X12_under_135 hs39 h)
      · rw [if_neg c] at h
        refine E_aload_n 1 dX12_under_123 rfl rfl ?_
        refine E_getR 125 dX12_under_124 fl_X12_8 rfl (sk_124 hs39) (sn hs39 (by decide)) (sr_124_2 hs39) ?_
        refine E_iload 0 dX12_under_127 rfl ?_
        refine E_iconst (1 : Int32) dX12_under_129 (by decide) ?_
        refine E_iadd dX12_under_130 ?_
        obtain ⟨g41, h⟩ := h
        refine E_iald2 ((((24432 : Int32) + ((4 : Int32) * x5)) + (1 : Int32)).toNatClampNeg) dX12_under_131 (sk_125 hs39) (sn hs39 (by decide)) g41 rfl ?_
        refine E_goto 136 dX12_under_132 (by decide) ?_
        exact E_lv [1, 2, 3, 5] rfl (w_X12_under_136 hs39 h)
def W_X12_isTarget_0 (X : Sx) (l : Launch) (D : Nat) (x0 : Int32) (x1 : Int32) (σ : AH) (r : Option Value) (σ' : AH) : Prop := ∃ d1 : Nat, ∃ v6 : Int32, ∃ σ2 : AH, d1 + 1 ≤ D ∧ Call X l m_X12_isCouncil d1 [.int x0] σ (some (.int v6)) σ2 ∧ (if v6 = 0 then (r = some (.int (0 : Int32)) ∧ σ' = σ2) else ∃ d7 : Nat, ∃ v12 : Int32, ∃ σ8 : AH, d7 + 1 ≤ D ∧ Call X l m_X12_isQuarter d7 [.int x1] σ2 (some (.int v12)) σ8 ∧ (if v12 = 0 then (r = some (.int (0 : Int32)) ∧ σ' = σ8) else (r = some (.int (1 : Int32)) ∧ σ' = σ8)))
set_option maxRecDepth 100000 in
theorem w_X12_isTarget_0 {X : Sx} {l : Launch} {D : Nat} {x0 : Int32} {x1 : Int32} {σ : AH} {r : Option Value} {σ' : AH} (hs : Sh σ) (h : W_X12_isTarget_0 X l D x0 x1 σ r σ') : E X l m_X12_isTarget D 0 [(0, .int x0), (1, .int x1)] [] σ r σ' := by
  unfold W_X12_isTarget_0 at h
  refine E_iload_n 0 dX12_isTarget_0 rfl rfl ?_
  obtain ⟨d1, v6, σ2, hD3, hC4, h⟩ := h
  have hs5 := hC4.1.2.2.2.1 hs
  refine E_callS (As := [.int x0]) (rest := []) (r1 := (some (.int v6))) dX12_isTarget_1 ok_X12_isCouncil is_X12_isCouncil ml_X12_466 hD3 rfl rfl (Nat.le_of_ble_eq_true rfl) (by decide +kernel) hC4 ?_
  refine E_if_eq 18 dX12_isTarget_4 (by decide) (fun c => ?_) (fun c => ?_)
  · rw [if_pos c] at h
    refine E_iconst (0 : Int32) dX12_isTarget_18 (by decide) ?_
    obtain ⟨rfl, rfl⟩ := h
    exact E_zret dX12_isTarget_19 rfl (Or.inl rfl)
  · rw [if_neg c] at h
    refine E_iload_n 1 dX12_isTarget_7 rfl rfl ?_
    obtain ⟨d7, v12, σ8, hD9, hC10, h⟩ := h
    have hs11 := hC10.1.2.2.2.1 hs5
    refine E_callS (As := [.int x1]) (rest := []) (r1 := (some (.int v12))) dX12_isTarget_8 ok_X12_isQuarter is_X12_isQuarter ml_X12_535 hD9 rfl rfl (Nat.le_of_ble_eq_true rfl) (by decide +kernel) hC10 ?_
    refine E_if_eq 18 dX12_isTarget_11 (by decide) (fun c => ?_) (fun c => ?_)
    · rw [if_pos c] at h
      refine E_iconst (0 : Int32) dX12_isTarget_18 (by decide) ?_
      obtain ⟨rfl, rfl⟩ := h
      exact E_zret dX12_isTarget_19 rfl (Or.inl rfl)
    · rw [if_neg c] at h
      refine E_iconst (1 : Int32) dX12_isTarget_14 (by decide) ?_
      refine E_goto 19 dX12_isTarget_15 (by decide) ?_
      obtain ⟨rfl, rfl⟩ := h
      exact E_zret dX12_isTarget_19 rfl (Or.inr rfl)
def W_X12_target_25 (X : Sx) (l : Launch) (D : Nat) (σ : AH) (r : Option Value) (σ' : AH) : Prop := ∃ d20 : Nat, ∃ v25 : Int32, ∃ σ21 : AH, d20 + 1 ≤ D ∧ Call X l m_X12_told d20 [.ref 124, .int (-1 : Int32)] σ (some (.int v25)) σ21 ∧ (r = some (.int v25) ∧ σ' = σ21)
set_option maxRecDepth 100000 in
theorem w_X12_target_25 {X : Sx} {l : Launch} {D : Nat} {σ : AH} {r : Option Value} {σ' : AH} (hs : Sh σ) (h : W_X12_target_25 X l D σ r σ') : E X l m_X12_target D 25 [(0, .ref 124)] [] σ r σ' := by
  unfold W_X12_target_25 at h
  refine E_aload_n 0 dX12_target_25 rfl rfl ?_
  refine E_iconst (-1 : Int32) dX12_target_26 (by decide) ?_
  obtain ⟨d20, v25, σ21, hD22, hC23, h⟩ := h
  have hs24 := hC23.1.2.2.2.1 hs
  refine E_callV (As := [.int (-1 : Int32)]) (rest := []) (r1 := (some (.int v25))) (b := 124) dX12_target_27 ok_X12_told in_X12_told se_X12_told ml_X12_163 hD22 rfl rfl (Nat.le_of_ble_eq_true rfl) (sk_124 hs) (sn hs (by decide)) (by decide) rfl (by decide +kernel) hC23 ?_
  obtain ⟨rfl, rfl⟩ := h
  exact E_iret dX12_target_30 rfl
def W_X12_target_0 (X : Sx) (l : Launch) (D : Nat) (x1 : Int32) (x2 : Int32) (x3 : Int32) (σ : AH) (r : Option Value) (σ' : AH) : Prop := ∃ d1 : Nat, ∃ v6 : Int32, ∃ σ2 : AH, d1 + 1 ≤ D ∧ Call X l m_X12_isTarget d1 [.int x1, .int x2] (sI σ 124 0 (0 : Int32)) (some (.int v6)) σ2 ∧ (if v6 = 0 then W_X12_target_25 X l D σ2 r σ' else ∃ d7 : Nat, ∃ v12 : Int32, ∃ σ8 : AH, d7 + 1 ≤ D ∧ Call X l m_X12_in d7 [.long (x3).toInt64, .long (0 : Int64), .long (10000 : Int64)] σ2 (some (.int v12)) σ8 ∧ (if v12 = 0 then W_X12_target_25 X l D σ8 r σ' else vp_in (((24592 : Int32) + ((20 : Int32) * x1)) + x2) 269832 ∧ ∃ d14 : Nat, ∃ v19 : Int32, ∃ σ15 : AH, d14 + 1 ≤ D ∧ Call X l m_X12_told d14 [.ref 124, .int (0 : Int32)] (sI σ8 125 ((((24592 : Int32) + ((20 : Int32) * x1)) + x2).toNatClampNeg) (x3 + (1 : Int32))) (some (.int v19)) σ15 ∧ (r = some (.int v19) ∧ σ' = σ15)))
set_option maxRecDepth 100000 in
theorem w_X12_target_0 {X : Sx} {l : Launch} {D : Nat} {x1 : Int32} {x2 : Int32} {x3 : Int32} {σ : AH} {r : Option Value} {σ' : AH} (hs : Sh σ) (h : W_X12_target_0 X l D x1 x2 x3 σ r σ') : E X l m_X12_target D 0 [(0, .ref 124), (1, .int x1), (2, .int x2), (3, .int x3)] [] σ r σ' := by
  unfold W_X12_target_0 at h
  refine E_aload_n 0 dX12_target_0 rfl rfl ?_
  refine E_iconst (0 : Int32) dX12_target_1 (by decide) ?_
  refine E_putI dX12_target_2 fl_X12_145 rfl (Or.inl rfl) (sk_124 hs) (sn hs (by decide)) (Or.inl (by decide)) rfl rfl ?_
  refine E_iload_n 1 dX12_target_5 rfl rfl ?_
  refine E_iload_n 2 dX12_target_6 rfl rfl ?_
  obtain ⟨d1, v6, σ2, hD3, hC4, h⟩ := h
  have hs5 := hC4.1.2.2.2.1 hs
  refine E_callS (As := [.int x1, .int x2]) (rest := []) (r1 := (some (.int v6))) dX12_target_7 ok_X12_isTarget is_X12_isTarget ml_X12_631 hD3 rfl rfl (Nat.le_of_ble_eq_true rfl) (by decide +kernel) hC4 ?_
  refine E_if_eq 25 dX12_target_10 (by decide) (fun c => ?_) (fun c => ?_)
  · rw [if_pos c] at h
    exact E_lv [0] rfl (w_X12_target_25 hs5 h)
  · rw [if_neg c] at h
    refine E_iload_n 3 dX12_target_13 rfl rfl ?_
    refine E_i2l dX12_target_14 ?_
    refine E_lconst (0 : Int64) dX12_target_15 (by decide) ?_
    refine E_ldc2 (10000 : Int64) dX12_target_16 cl_X12_279 ?_
    obtain ⟨d7, v12, σ8, hD9, hC10, h⟩ := h
    have hs11 := hC10.1.2.2.2.1 hs5
    refine E_callS (As := [.long (x3).toInt64, .long (0 : Int64), .long (10000 : Int64)]) (rest := []) (r1 := (some (.int v12))) dX12_target_19 ok_X12_in is_X12_in ml_X12_153 hD9 rfl rfl (Nat.le_of_ble_eq_true rfl) (by decide +kernel) hC10 ?_
    refine E_if_ne 31 dX12_target_22 (by decide) (fun c => ?_) (fun c => ?_)
    · rw [if_neg c] at h
      refine E_aload_n 0 dX12_target_31 rfl rfl ?_
      refine E_getR 125 dX12_target_32 fl_X12_8 rfl (sk_124 hs11) (sn hs11 (by decide)) (sr_124_2 hs11) ?_
      refine E_sipush (24592 : Int32) dX12_target_35 (by decide) ?_
      refine E_bipush (20 : Int32) dX12_target_38 (by decide) ?_
      refine E_iload_n 1 dX12_target_40 rfl rfl ?_
      refine E_imul dX12_target_41 ?_
      refine E_iadd dX12_target_42 ?_
      refine E_iload_n 2 dX12_target_43 rfl rfl ?_
      refine E_iadd dX12_target_44 ?_
      refine E_iload_n 3 dX12_target_45 rfl rfl ?_
      refine E_iconst (1 : Int32) dX12_target_46 (by decide) ?_
      refine E_iadd dX12_target_47 ?_
      obtain ⟨g13, h⟩ := h
      refine E_iast2 ((((24592 : Int32) + ((20 : Int32) * x1)) + x2).toNatClampNeg) dX12_target_48 (sk_125 hs11) (sn hs11 (by decide)) (Or.inl (by decide)) g13 rfl ?_
      refine E_aload_n 0 dX12_target_49 rfl rfl ?_
      refine E_iconst (0 : Int32) dX12_target_50 (by decide) ?_
      obtain ⟨d14, v19, σ15, hD16, hC17, h⟩ := h
      have hs18 := hC17.1.2.2.2.1 hs11
      refine E_callV (As := [.int (0 : Int32)]) (rest := []) (r1 := (some (.int v19))) (b := 124) dX12_target_51 ok_X12_told in_X12_told se_X12_told ml_X12_163 hD16 rfl rfl (Nat.le_of_ble_eq_true rfl) (sk_124 hs11) (sn hs11 (by decide)) (by decide) rfl (by decide +kernel) hC17 ?_
      obtain ⟨rfl, rfl⟩ := h
      exact E_iret dX12_target_54 rfl
    · rw [if_pos c] at h
      exact E_lv [0] rfl (w_X12_target_25 hs11 h)
def W_X12_street_39 (X : Sx) (l : Launch) (D : Nat) (σ : AH) (r : Option Value) (σ' : AH) : Prop := ∃ d26 : Nat, ∃ v31 : Int32, ∃ σ27 : AH, d26 + 1 ≤ D ∧ Call X l m_X12_told d26 [.ref 124, .int (-1 : Int32)] σ (some (.int v31)) σ27 ∧ (r = some (.int v31) ∧ σ' = σ27)
set_option maxRecDepth 100000 in
theorem w_X12_street_39 {X : Sx} {l : Launch} {D : Nat} {σ : AH} {r : Option Value} {σ' : AH} (hs : Sh σ) (h : W_X12_street_39 X l D σ r σ') : E X l m_X12_street D 39 [(0, .ref 124)] [] σ r σ' := by
  unfold W_X12_street_39 at h
  refine E_aload_n 0 dX12_street_39 rfl rfl ?_
  refine E_iconst (-1 : Int32) dX12_street_40 (by decide) ?_
  obtain ⟨d26, v31, σ27, hD28, hC29, h⟩ := h
  have hs30 := hC29.1.2.2.2.1 hs
  refine E_callV (As := [.int (-1 : Int32)]) (rest := []) (r1 := (some (.int v31))) (b := 124) dX12_street_41 ok_X12_told in_X12_told se_X12_told ml_X12_163 hD28 rfl rfl (Nat.le_of_ble_eq_true rfl) (sk_124 hs) (sn hs (by decide)) (by decide) rfl (by decide +kernel) hC29 ?_
  obtain ⟨rfl, rfl⟩ := h
  exact E_iret dX12_street_44 rfl
def W_X12_street_0 (X : Sx) (l : Launch) (D : Nat) (x1 : Int32) (x2 : Int32) (x3 : Int32) (x4 : Int32) (x5 : Int32) (σ : AH) (r : Option Value) (σ' : AH) : Prop := ∃ d1 : Nat, ∃ v6 : Int32, ∃ σ2 : AH, d1 + 1 ≤ D ∧ Call X l m_X12_isTarget d1 [.int x2, .int x3] (sI σ 124 0 (0 : Int32)) (some (.int v6)) σ2 ∧ (if v6 = 0 then W_X12_street_39 X l D σ2 r σ' else ∃ d7 : Nat, ∃ v12 : Int32, ∃ σ8 : AH, d7 + 1 ≤ D ∧ Call X l m_X12_in d7 [.long (x4).toInt64, .long (0 : Int64), .long (19 : Int64)] σ2 (some (.int v12)) σ8 ∧ (if v12 = 0 then W_X12_street_39 X l D σ8 r σ' else ∃ d13 : Nat, ∃ v18 : Int32, ∃ σ14 : AH, d13 + 1 ≤ D ∧ Call X l m_X12_in d13 [.long (x5).toInt64, .long (0 : Int64), .long (1000 : Int64)] σ8 (some (.int v18)) σ14 ∧ (if v18 = 0 then W_X12_street_39 X l D σ14 r σ' else vp_in ((x1 + ((((20 : Int32) * x2) + x3) * (20 : Int32))) + x4) 269832 ∧ ∃ d20 : Nat, ∃ v25 : Int32, ∃ σ21 : AH, d20 + 1 ≤ D ∧ Call X l m_X12_told d20 [.ref 124, .int (0 : Int32)] (sI σ14 125 (((x1 + ((((20 : Int32) * x2) + x3) * (20 : Int32))) + x4).toNatClampNeg) (x5 + (1 : Int32))) (some (.int v25)) σ21 ∧ (r = some (.int v25) ∧ σ' = σ21))))
set_option maxRecDepth 100000 in
theorem w_X12_street_0 {X : Sx} {l : Launch} {D : Nat} {x1 : Int32} {x2 : Int32} {x3 : Int32} {x4 : Int32} {x5 : Int32} {σ : AH} {r : Option Value} {σ' : AH} (hs : Sh σ) (h : W_X12_street_0 X l D x1 x2 x3 x4 x5 σ r σ') : E X l m_X12_street D 0 [(0, .ref 124), (1, .int x1), (2, .int x2), (3, .int x3), (4, .int x4), (5, .int x5)] [] σ r σ' := by
  unfold W_X12_street_0 at h
  refine E_aload_n 0 dX12_street_0 rfl rfl ?_
  refine E_iconst (0 : Int32) dX12_street_1 (by decide) ?_
  refine E_putI dX12_street_2 fl_X12_145 rfl (Or.inl rfl) (sk_124 hs) (sn hs (by decide)) (Or.inl (by decide)) rfl rfl ?_
  refine E_iload_n 2 dX12_street_5 rfl rfl ?_
  refine E_iload_n 3 dX12_street_6 rfl rfl ?_
  obtain ⟨d1, v6, σ2, hD3, hC4, h⟩ := h
  have hs5 := hC4.1.2.2.2.1 hs
  refine E_callS (As := [.int x2, .int x3]) (rest := []) (r1 := (some (.int v6))) dX12_street_7 ok_X12_isTarget is_X12_isTarget ml_X12_631 hD3 rfl rfl (Nat.le_of_ble_eq_true rfl) (by decide +kernel) hC4 ?_
  refine E_if_eq 39 dX12_street_10 (by decide) (fun c => ?_) (fun c => ?_)
  · rw [if_pos c] at h
    exact E_lv [0] rfl (w_X12_street_39 hs5 h)
  · rw [if_neg c] at h
    refine E_iload 4 dX12_street_13 rfl ?_
    refine E_i2l dX12_street_15 ?_
    refine E_lconst (0 : Int64) dX12_street_16 (by decide) ?_
    refine E_ldc2 (19 : Int64) dX12_street_17 cl_X12_159 ?_
    obtain ⟨d7, v12, σ8, hD9, hC10, h⟩ := h
    have hs11 := hC10.1.2.2.2.1 hs5
    refine E_callS (As := [.long (x4).toInt64, .long (0 : Int64), .long (19 : Int64)]) (rest := []) (r1 := (some (.int v12))) dX12_street_20 ok_X12_in is_X12_in ml_X12_153 hD9 rfl rfl (Nat.le_of_ble_eq_true rfl) (by decide +kernel) hC10 ?_
    refine E_if_eq 39 dX12_street_23 (by decide) (fun c => ?_) (fun c => ?_)
    · rw [if_pos c] at h
      exact E_lv [0] rfl (w_X12_street_39 hs11 h)
    · rw [if_neg c] at h
      refine E_iload 5 dX12_street_26 rfl ?_
      refine E_i2l dX12_street_28 ?_
      refine E_lconst (0 : Int64) dX12_street_29 (by decide) ?_
      refine E_ldc2 (1000 : Int64) dX12_street_30 cl_X12_462 ?_
      obtain ⟨d13, v18, σ14, hD15, hC16, h⟩ := h
      have hs17 := hC16.1.2.2.2.1 hs11
      refine E_callS (As := [.long (x5).toInt64, .long (0 : Int64), .long (1000 : Int64)]) (rest := []) (r1 := (some (.int v18))) dX12_street_33 ok_X12_in is_X12_in ml_X12_153 hD15 rfl rfl (Nat.le_of_ble_eq_true rfl) (by decide +kernel) hC16 ?_
      refine E_if_ne 45 dX12_street_36 (by decide) (fun c => ?_) (fun c => ?_)
      · rw [if_neg c] at h
        refine E_aload_n 0 dX12_street_45 rfl rfl ?_
        refine E_getR 125 dX12_street_46 fl_X12_8 rfl (sk_124 hs17) (sn hs17 (by decide)) (sr_124_2 hs17) ?_
        refine E_iload_n 1 dX12_street_49 rfl rfl ?_
        refine E_bipush (20 : Int32) dX12_street_50 (by decide) ?_
        refine E_iload_n 2 dX12_street_52 rfl rfl ?_
        refine E_imul dX12_street_53 ?_
        refine E_iload_n 3 dX12_street_54 rfl rfl ?_
        refine E_iadd dX12_street_55 ?_
        refine E_bipush (20 : Int32) dX12_street_56 (by decide) ?_
        refine E_imul dX12_street_58 ?_
        refine E_iadd dX12_street_59 ?_
        refine E_iload 4 dX12_street_60 rfl ?_
        refine E_iadd dX12_street_62 ?_
        refine E_iload 5 dX12_street_63 rfl ?_
        refine E_iconst (1 : Int32) dX12_street_65 (by decide) ?_
        refine E_iadd dX12_street_66 ?_
        obtain ⟨g19, h⟩ := h
        refine E_iast2 (((x1 + ((((20 : Int32) * x2) + x3) * (20 : Int32))) + x4).toNatClampNeg) dX12_street_67 (sk_125 hs17) (sn hs17 (by decide)) (Or.inl (by decide)) g19 rfl ?_
        refine E_aload_n 0 dX12_street_68 rfl rfl ?_
        refine E_iconst (0 : Int32) dX12_street_69 (by decide) ?_
        obtain ⟨d20, v25, σ21, hD22, hC23, h⟩ := h
        have hs24 := hC23.1.2.2.2.1 hs17
        refine E_callV (As := [.int (0 : Int32)]) (rest := []) (r1 := (some (.int v25))) (b := 124) dX12_street_70 ok_X12_told in_X12_told se_X12_told ml_X12_163 hD22 rfl rfl (Nat.le_of_ble_eq_true rfl) (sk_124 hs17) (sn hs17 (by decide)) (by decide) rfl (by decide +kernel) hC23 ?_
        obtain ⟨rfl, rfl⟩ := h
        exact E_iret dX12_street_73 rfl
      · rw [if_pos c] at h
        exact E_lv [0] rfl (w_X12_street_39 hs17 h)
def W_X12_claim_0 (X : Sx) (l : Launch) (D : Nat) (x1 : Int32) (x2 : Int32) (x3 : Int32) (x4 : Int32) (σ : AH) (r : Option Value) (σ' : AH) : Prop := ∃ d1 : Nat, ∃ v6 : Int32, ∃ σ2 : AH, d1 + 1 ≤ D ∧ Call X l m_X12_street d1 [.ref 124, .int (24712 : Int32), .int x1, .int x2, .int x3, .int x4] σ (some (.int v6)) σ2 ∧ (r = some (.int v6) ∧ σ' = σ2)
set_option maxRecDepth 100000 in
theorem w_X12_claim_0 {X : Sx} {l : Launch} {D : Nat} {x1 : Int32} {x2 : Int32} {x3 : Int32} {x4 : Int32} {σ : AH} {r : Option Value} {σ' : AH} (hs : Sh σ) (h : W_X12_claim_0 X l D x1 x2 x3 x4 σ r σ') : E X l m_X12_claim D 0 [(0, .ref 124), (1, .int x1), (2, .int x2), (3, .int x3), (4, .int x4)] [] σ r σ' := by
  unfold W_X12_claim_0 at h
  refine E_aload_n 0 dX12_claim_0 rfl rfl ?_
  refine E_sipush (24712 : Int32) dX12_claim_1 (by decide) ?_
  refine E_iload_n 1 dX12_claim_4 rfl rfl ?_
  refine E_iload_n 2 dX12_claim_5 rfl rfl ?_
  refine E_iload_n 3 dX12_claim_6 rfl rfl ?_
  refine E_iload 4 dX12_claim_7 rfl ?_
  obtain ⟨d1, v6, σ2, hD3, hC4, h⟩ := h
  have hs5 := hC4.1.2.2.2.1 hs
  refine E_callV (As := [.int (24712 : Int32), .int x1, .int x2, .int x3, .int x4]) (rest := []) (r1 := (some (.int v6))) (b := 124) dX12_claim_9 ok_X12_street in_X12_street se_X12_street ml_X12_634 hD3 rfl rfl (Nat.le_of_ble_eq_true rfl) (sk_124 hs) (sn hs (by decide)) (by decide) rfl (by decide +kernel) hC4 ?_
  obtain ⟨rfl, rfl⟩ := h
  exact E_iret dX12_claim_12 rfl
def W_X12_look_0 (X : Sx) (l : Launch) (D : Nat) (x1 : Int32) (x2 : Int32) (x3 : Int32) (x4 : Int32) (σ : AH) (r : Option Value) (σ' : AH) : Prop := ∃ d1 : Nat, ∃ v6 : Int32, ∃ σ2 : AH, d1 + 1 ≤ D ∧ Call X l m_X12_street d1 [.ref 124, .int (27112 : Int32), .int x1, .int x2, .int x3, .int x4] σ (some (.int v6)) σ2 ∧ (r = some (.int v6) ∧ σ' = σ2)
set_option maxRecDepth 100000 in
theorem w_X12_look_0 {X : Sx} {l : Launch} {D : Nat} {x1 : Int32} {x2 : Int32} {x3 : Int32} {x4 : Int32} {σ : AH} {r : Option Value} {σ' : AH} (hs : Sh σ) (h : W_X12_look_0 X l D x1 x2 x3 x4 σ r σ') : E X l m_X12_look D 0 [(0, .ref 124), (1, .int x1), (2, .int x2), (3, .int x3), (4, .int x4)] [] σ r σ' := by
  unfold W_X12_look_0 at h
  refine E_aload_n 0 dX12_look_0 rfl rfl ?_
  refine E_sipush (27112 : Int32) dX12_look_1 (by decide) ?_
  refine E_iload_n 1 dX12_look_4 rfl rfl ?_
  refine E_iload_n 2 dX12_look_5 rfl rfl ?_
  refine E_iload_n 3 dX12_look_6 rfl rfl ?_
  refine E_iload 4 dX12_look_7 rfl ?_
  obtain ⟨d1, v6, σ2, hD3, hC4, h⟩ := h
  have hs5 := hC4.1.2.2.2.1 hs
  refine E_callV (As := [.int (27112 : Int32), .int x1, .int x2, .int x3, .int x4]) (rest := []) (r1 := (some (.int v6))) (b := 124) dX12_look_9 ok_X12_street in_X12_street se_X12_street ml_X12_634 hD3 rfl rfl (Nat.le_of_ble_eq_true rfl) (sk_124 hs) (sn hs (by decide)) (by decide) rfl (by decide +kernel) hC4 ?_
  obtain ⟨rfl, rfl⟩ := h
  exact E_iret dX12_look_12 rfl
def W_X12_truth_0 (X : Sx) (l : Launch) (D : Nat) (x1 : Int32) (x2 : Int32) (x3 : Int32) (σ : AH) (r : Option Value) (σ' : AH) : Prop := ∃ d1 : Nat, ∃ v6 : Int32, ∃ σ2 : AH, d1 + 1 ≤ D ∧ Call X l m_X12_isTarget d1 [.int x1, .int x2] (sI σ 124 0 (0 : Int32)) (some (.int v6)) σ2 ∧ (if v6 = 0 then (r = some (.int (-1 : Int32)) ∧ σ' = σ2) else ∃ d7 : Nat, ∃ v12 : Int32, ∃ σ8 : AH, d7 + 1 ≤ D ∧ Call X l m_X12_in d7 [.long (x3).toInt64, .long (0 : Int64), .long (4 : Int64)] σ2 (some (.int v12)) σ8 ∧ (if v12 = 0 then (r = some (.int (-1 : Int32)) ∧ σ' = σ8) else E X l m_X12_truth D 39 [(0, .ref 124), (1, .int x1), (2, .int x2), (3, .int x3), (4, .int (0 : Int32)), (5, .int (0 : Int32)), (6, .int (0 : Int32)), (7, .int (0 : Int32))] [] σ8 r σ'))
set_option maxRecDepth 100000 in
theorem w_X12_truth_0 {X : Sx} {l : Launch} {D : Nat} {x1 : Int32} {x2 : Int32} {x3 : Int32} {σ : AH} {r : Option Value} {σ' : AH} (hs : Sh σ) (h : W_X12_truth_0 X l D x1 x2 x3 σ r σ') : E X l m_X12_truth D 0 [(0, .ref 124), (1, .int x1), (2, .int x2), (3, .int x3)] [] σ r σ' := by
  unfold W_X12_truth_0 at h
  refine E_aload_n 0 dX12_truth_0 rfl rfl ?_
  refine E_iconst (0 : Int32) dX12_truth_1 (by decide) ?_
  refine E_putI dX12_truth_2 fl_X12_145 rfl (Or.inl rfl) (sk_124 hs) (sn hs (by decide)) (Or.inl (by decide)) rfl rfl ?_
  refine E_iload_n 1 dX12_truth_5 rfl rfl ?_
  refine E_iload_n 2 dX12_truth_6 rfl rfl ?_
  obtain ⟨d1, v6, σ2, hD3, hC4, h⟩ := h
  have hs5 := hC4.1.2.2.2.1 hs
  refine E_callS (As := [.int x1, .int x2]) (rest := []) (r1 := (some (.int v6))) dX12_truth_7 ok_X12_isTarget is_X12_isTarget ml_X12_631 hD3 rfl rfl (Nat.le_of_ble_eq_true rfl) (by decide +kernel) hC4 ?_
  refine E_if_eq 25 dX12_truth_10 (by decide) (fun c => ?_) (fun c => ?_)
  · rw [if_pos c] at h
    refine E_iconst (-1 : Int32) dX12_truth_25 (by decide) ?_
    obtain ⟨rfl, rfl⟩ := h
    exact E_iret dX12_truth_26 rfl
  · rw [if_neg c] at h
    refine E_iload_n 3 dX12_truth_13 rfl rfl ?_
    refine E_i2l dX12_truth_14 ?_
    refine E_lconst (0 : Int64) dX12_truth_15 (by decide) ?_
    refine E_ldc2 (4 : Int64) dX12_truth_16 cl_X12_456 ?_
    obtain ⟨d7, v12, σ8, hD9, hC10, h⟩ := h
    have hs11 := hC10.1.2.2.2.1 hs5
    refine E_callS (As := [.long (x3).toInt64, .long (0 : Int64), .long (4 : Int64)]) (rest := []) (r1 := (some (.int v12))) dX12_truth_19 ok_X12_in is_X12_in ml_X12_153 hD9 rfl rfl (Nat.le_of_ble_eq_true rfl) (by decide +kernel) hC10 ?_
    refine E_if_ne 27 dX12_truth_22 (by decide) (fun c => ?_) (fun c => ?_)
    · rw [if_neg c] at h
      refine E_iconst (0 : Int32) dX12_truth_27 (by decide) ?_
      refine E_istore [(4, .int (0 : Int32)), (0, .ref 124), (1, .int x1), (2, .int x2), (3, .int x3)] dX12_truth_28 (by decide) rfl ?_
      refine E_iconst (0 : Int32) dX12_truth_30 (by decide) ?_
      refine E_istore [(5, .int (0 : Int32)), (4, .int (0 : Int32)), (0, .ref 124), (1, .int x1), (2, .int x2), (3, .int x3)] dX12_truth_31 (by decide) rfl ?_
      refine E_iconst (0 : Int32) dX12_truth_33 (by decide) ?_
      refine E_istore [(6, .int (0 : Int32)), (5, .int (0 : Int32)), (4, .int (0 : Int32)), (0, .ref 124), (1, .int x1), (2, .int x2), (3, .int x3)] dX12_truth_34 (by decide) rfl ?_
      refine E_iconst (0 : Int32) dX12_truth_36 (by decide) ?_
      refine E_istore [(7, .int (0 : Int32)), (6, .int (0 : Int32)), (5, .int (0 : Int32)), (4, .int (0 : Int32)), (0, .ref 124), (1, .int x1), (2, .int x2), (3, .int x3)] dX12_truth_37 (by decide) rfl ?_
      exact E_lv [4, 5, 6, 7, 3, 2, 1, 0] rfl h
    · rw [if_pos c] at h
      refine E_iconst (-1 : Int32) dX12_truth_25 (by decide) ?_
      obtain ⟨rfl, rfl⟩ := h
      exact E_iret dX12_truth_26 rfl
def W_X12_truth_223 (X : Sx) (l : Launch) (D : Nat) (σ : AH) (r : Option Value) (σ' : AH) : Prop := (r = some (.int (0 : Int32)) ∧ σ' = σ)
set_option maxRecDepth 100000 in
theorem w_X12_truth_223 {X : Sx} {l : Launch} {D : Nat} {σ : AH} {r : Option Value} {σ' : AH} (hs : Sh σ) (h : W_X12_truth_223 X l D σ r σ') : E X l m_X12_truth D 223 [] [] σ r σ' := by
  unfold W_X12_truth_223 at h
  refine E_iconst (0 : Int32) dX12_truth_223 (by decide) ?_
  refine E_goto 239 dX12_truth_224 (by decide) ?_
  obtain ⟨rfl, rfl⟩ := h
  exact E_iret dX12_truth_239 rfl
def W_X12_truth_145 (X : Sx) (l : Launch) (D : Nat) (x1 : Int32) (x2 : Int32) (x3 : Int32) (x4 : Int32) (x6 : Int32) (x7 : Int32) (y0 : Int32) (y1 : Int32) (σ : AH) (r : Option Value) (σ' : AH) : Prop := E X l m_X12_truth D 39 [(0, .ref 124), (1, .int x1), (2, .int x2), (3, .int x3), (4, .int x4), (5, .int (y1 + y0)), (6, .int x6), (7, .int (x7 + 1))] [] σ r σ'
set_option maxRecDepth 100000 in
theorem w_X12_truth_145 {X : Sx} {l : Launch} {D : Nat} {x1 : Int32} {x2 : Int32} {x3 : Int32} {x4 : Int32} {x6 : Int32} {x7 : Int32} {y0 : Int32} {y1 : Int32} {σ : AH} {r : Option Value} {σ' : AH} (hs : Sh σ) (h : W_X12_truth_145 X l D x1 x2 x3 x4 x6 x7 y0 y1 σ r σ') : E X l m_X12_truth D 145 [(0, .ref 124), (1, .int x1), (2, .int x2), (3, .int x3), (4, .int x4), (6, .int x6), (7, .int x7)] [.int y0, .int y1] σ r σ' := by
  unfold W_X12_truth_145 at h
  refine E_iadd dX12_truth_145 ?_
  refine E_istore [(5, .int (y1 + y0)), (0, .ref 124), (1, .int x1), (2, .int x2), (3, .int x3), (4, .int x4), (6, .int x6), (7, .int x7)] dX12_truth_146 (by decide) rfl ?_
  refine E_iinc 7 (x7 + 1) [(7, .int (x7 + 1)), (5, .int (y1 + y0)), (0, .ref 124), (1, .int x1), (2, .int x2), (3, .int x3), (4, .int x4), (6, .int x6)] dX12_truth_148 rfl (congrArg (x7 + ·) (by decide : Int32.ofInt 1 = 1)) (by decide) rfl ?_
  refine E_goto 39 dX12_truth_151 (by decide) ?_
  exact E_lv [2, 3, 4, 5, 6, 1, 7, 0] rfl h
def W_X12_truth_128 (X : Sx) (l : Launch) (D : Nat) (x1 : Int32) (x2 : Int32) (x3 : Int32) (x5 : Int32) (x6 : Int32) (x7 : Int32) (x9 : Int32) (x10 : Int32) (y0 : Int32) (y1 : Int32) (σ : AH) (r : Option Value) (σ' : AH) : Prop := (if 0 ≤ x10 then W_X12_truth_145 X l D x1 x2 x3 (y1 + y0) x6 x7 x10 x5 σ r σ' else W_X12_truth_145 X l D x1 x2 x3 (y1 + y0) x6 x7 x9 x5 σ r σ')
set_option maxRecDepth 100000 in
theorem w_X12_truth_128 {X : Sx} {l : Launch} {D : Nat} {x1 : Int32} {x2 : Int32} {x3 : Int32} {x5 : Int32} {x6 : Int32} {x7 : Int32} {x9 : Int32} {x10 : Int32} {y0 : Int32} {y1 : Int32} {σ : AH} {r : Option Value} {σ' : AH} (hs : Sh σ) (h : W_X12_truth_128 X l D x1 x2 x3 x5 x6 x7 x9 x10 y0 y1 σ r σ') : E X l m_X12_truth D 128 [(0, .ref 124), (1, .int x1), (2, .int x2), (3, .int x3), (5, .int x5), (6, .int x6), (7, .int x7), (9, .int x9), (10, .int x10)] [.int y0, .int y1] σ r σ' := by
  unfold W_X12_truth_128 at h
  refine E_iadd dX12_truth_128 ?_
  refine E_istore [(4, .int (y1 + y0)), (0, .ref 124), (1, .int x1), (2, .int x2), (3, .int x3), (5, .int x5), (6, .int x6), (7, .int x7), (9, .int x9), (10, .int x10)] dX12_truth_129 (by decide) rfl ?_
  refine E_iload 5 dX12_truth_131 rfl ?_
  refine E_iload 9 dX12_truth_133 rfl ?_
  refine E_if_ge 143 dX12_truth_135 (by decide) (fun c => ?_) (fun c => ?_)
  · rw [if_pos c] at h
    refine E_iload 9 dX12_truth_143 rfl ?_
    exact E_lv [1, 2, 3, 4, 0, 6, 7] rfl (w_X12_truth_145 hs h)
  · rw [if_neg c] at h
    refine E_iload 8 dX12_truth_138 rfl ?_
    refine E_goto 145 dX12_truth_140 (by decide) ?_
    exact E_lv [1, 2, 3, 4, 0, 6, 7] rfl (w_X12_truth_145 hs h)
def W_X12_truth_91 (X : Sx) (l : Launch) (D : Nat) (x1 : Int32) (x2 : Int32) (x3 : Int32) (x4 : Int32) (x5 : Int32) (x6 : Int32) (x7 : Int32) (x8 : Int32) (y0 : Int32) (σ : AH) (r : Option Value) (σ' : AH) : Prop := vp_in ((27112 : Int32) + x8) 269832 ∧ (if 0 ≤ ((gI σ 125 ((27112 : Int32) + x8).toNatClampNeg) - (1 : Int32)) then W_X12_truth_128 X l D x1 x2 x3 x5 (x6 + y0) x7 y0 ((gI σ 125 ((27112 : Int32) + x8).toNatClampNeg) - (1 : Int32)) ((gI σ 125 ((27112 : Int32) + x8).toNatClampNeg) - (1 : Int32)) x4 σ r σ' else W_X12_truth_128 X l D x1 x2 x3 x5 (x6 + y0) x7 y0 ((gI σ 125 ((27112 : Int32) + x8).toNatClampNeg) - (1 : Int32)) (0 : Int32) x4 σ r σ')
set_option maxRecDepth 100000 in
theorem w_X12_truth_91 {X : Sx} {l : Launch} {D : Nat} {x1 : Int32} {x2 : Int32} {x3 : Int32} {x4 : Int32} {x5 : Int32} {x6 : Int32} {x7 : Int32} {x8 : Int32} {y0 : Int32} {σ : AH} {r : Option Value} {σ' : AH} (hs : Sh σ) (h : W_X12_truth_91 X l D x1 x2 x3 x4 x5 x6 x7 x8 y0 σ r σ') : E X l m_X12_truth D 91 [(0, .ref 124), (1, .int x1), (2, .int x2), (3, .int x3), (4, .int x4), (5, .int x5), (6, .int x6), (7, .int x7), (8, .int x8)] [.int y0] σ r σ' := by
  unfold W_X12_truth_91 at h
  refine E_istore [(9, .int y0), (0, .ref 124), (1, .int x1), (2, .int x2), (3, .int x3), (4, .int x4), (5, .int x5), (6, .int x6), (7, .int x7), (8, .int x8)] dX12_truth_91 (by decide) rfl ?_
  refine E_aload_n 1 dX12_truth_93 rfl rfl ?_
  refine E_getR 125 dX12_truth_94 fl_X12_8 rfl (sk_124 hs) (sn hs (by decide)) (sr_124_2 hs) ?_
  refine E_sipush (27112 : Int32) dX12_truth_97 (by decide) ?_
  refine E_iload 9 dX12_truth_100 rfl ?_
  refine E_iadd dX12_truth_102 ?_
  obtain ⟨g16, h⟩ := h
  refine E_iald2 (((27112 : Int32) + x8).toNatClampNeg) dX12_truth_103 (sk_125 hs) (sn hs (by decide)) g16 rfl ?_
  refine E_iconst (1 : Int32) dX12_truth_104 (by decide) ?_
  refine E_isub dX12_truth_105 ?_
  refine E_istore [(10, .int ((gI σ 125 ((27112 : Int32) + x8).toNatClampNeg) - (1 : Int32))), (9, .int y0), (0, .ref 124), (1, .int x1), (2, .int x2), (3, .int x3), (4, .int x4), (5, .int x5), (6, .int x6), (7, .int x7), (8, .int x8)] dX12_truth_106 (by decide) rfl ?_
  refine E_iload 8 dX12_truth_108 rfl ?_
  refine E_iload 1 dX12_truth_110 rfl ?_
  refine E_iadd dX12_truth_112 ?_
  refine E_istore [(6, .int (x6 + y0)), (10, .int ((gI σ 125 ((27112 : Int32) + x8).toNatClampNeg) - (1 : Int32))), (9, .int y0), (0, .ref 124), (1, .int x1), (2, .int x2), (3, .int x3), (4, .int x4), (5, .int x5), (7, .int x7), (8, .int x8)] dX12_truth_113 (by decide) rfl ?_
  refine E_iload 7 dX12_truth_115 rfl ?_
  refine E_iload 1 dX12_truth_117 rfl ?_
  refine E_if_ge 126 dX12_truth_119 (by decide) (fun c => ?_) (fun c => ?_)
  · rw [if_pos c] at h
    refine E_iload 1 dX12_truth_126 rfl ?_
    exact E_lv [3, 4, 5, 6, 8, 0, 9, 2, 1] rfl (w_X12_truth_128 hs h)
  · rw [if_neg c] at h
    refine E_iconst (0 : Int32) dX12_truth_122 (by decide) ?_
    refine E_goto 128 dX12_truth_123 (by decide) ?_
    exact E_lv [3, 4, 5, 6, 8, 0, 9, 2, 1] rfl (w_X12_truth_128 hs h)
def W_X12_truth_39 (X : Sx) (l : Launch) (D : Nat) (x1 : Int32) (x2 : Int32) (x3 : Int32) (x4 : Int32) (x5 : Int32) (x6 : Int32) (x7 : Int32) (σ : AH) (r : Option Value) (σ' : AH) : Prop := (if (20 : Int32) ≤ x7 then vp_in (((24592 : Int32) + ((20 : Int32) * x1)) + x2) 269832 ∧ (if x3 = 0 then (r = some (.int x4) ∧ σ' = σ) else (if x3 = (1 : Int32) then (r = some (.int x5) ∧ σ' = σ) else (if x3 = (2 : Int32) then (r = some (.int x6) ∧ σ' = σ) else (if x3 = (3 : Int32) then (if ((gI σ 125 (((24592 : Int32) + ((20 : Int32) * x1)) + x2).toNatClampNeg) - (1 : Int32)) < 0 then W_X12_truth_223 X l D σ r σ' else (if x4 < ((gI σ 125 (((24592 : Int32) + ((20 : Int32) * x1)) + x2).toNatClampNeg) - (1 : Int32)) then W_X12_truth_223 X l D σ r σ' else (r = some (.int (1 : Int32)) ∧ σ' = σ))) else (if x6 ≤ x5 then (r = some (.int (0 : Int32)) ∧ σ' = σ) else (r = some (.int (1 : Int32)) ∧ σ' = σ)))))) else vp_in ((24712 : Int32) + (((((20 : Int32) * x1) + x2) * (20 : Int32)) + x7)) 269832 ∧ (if (gI σ 125 ((24712 : Int32) + (((((20 : Int32) * x1) + x2) * (20 : Int32)) + x7)).toNatClampNeg) = 0 then W_X12_truth_91 X l D x1 x2 x3 x4 x5 x6 x7 (((((20 : Int32) * x1) + x2) * (20 : Int32)) + x7) (0 : Int32) σ r σ' else vp_in ((24712 : Int32) + (((((20 : Int32) * x1) + x2) * (20 : Int32)) + x7)) 269832 ∧ W_X12_truth_91 X l D x1 x2 x3 x4 x5 x6 x7 (((((20 : Int32) * x1) + x2) * (20 : Int32)) + x7) ((gI σ 125 ((24712 : Int32) + (((((20 : Int32) * x1) + x2) * (20 : Int32)) + x7)).toNatClampNeg) - (1 : Int32)) σ r σ'))
set_option maxRecDepth 100000 in
theorem w_X12_truth_39 {X : Sx} {l : Launch} {D : Nat} {x1 : Int32} {x2 : Int32} {x3 : Int32} {x4 : Int32} {x5 : Int32} {x6 : Int32} {x7 : Int32} {σ : AH} {r : Option Value} {σ' : AH} (hs : Sh σ) (h : W_X12_truth_39 X l D x1 x2 x3 x4 x5 x6 x7 σ r σ') : E X l m_X12_truth D 39 [(0, .ref 124), (1, .int x1), (2, .int x2), (3, .int x3), (4, .int x4), (5, .int x5), (6, .int x6), (7, .int x7)] [] σ r σ' := by
  unfold W_X12_truth_39 at h
  refine E_iload 7 dX12_truth_39 rfl ?_
  refine E_bipush (20 : Int32) dX12_truth_41 (by decide) ?_
  refine E_icmp_ge 154 dX12_truth_43 (by decide) (fun c => ?_) (fun c => ?_)
  · rw [if_pos c] at h
    refine E_aload_n 0 dX12_truth_154 rfl rfl ?_
    refine E_getR 125 dX12_truth_155 fl_X12_8 rfl (sk_124 hs) (sn hs (by decide)) (sr_124_2 hs) ?_
    refine E_sipush (24592 : Int32) dX12_truth_158 (by decide) ?_
    refine E_bipush (20 : Int32) dX12_truth_161 (by decide) ?_
    refine E_iload_n 1 dX12_truth_163 rfl rfl ?_
    refine E_imul dX12_truth_164 ?_
    refine E_iadd dX12_truth_165 ?_
    refine E_iload_n 2 dX12_truth_166 rfl rfl ?_
    refine E_iadd dX12_truth_167 ?_
    obtain ⟨g13, h⟩ := h
    refine E_iald2 ((((24592 : Int32) + ((20 : Int32) * x1)) + x2).toNatClampNeg) dX12_truth_168 (sk_125 hs) (sn hs (by decide)) g13 rfl ?_
    refine E_iconst (1 : Int32) dX12_truth_169 (by decide) ?_
    refine E_isub dX12_truth_170 ?_
    refine E_istore [(7, .int ((gI σ 125 (((24592 : Int32) + ((20 : Int32) * x1)) + x2).toNatClampNeg) - (1 : Int32))), (0, .ref 124), (1, .int x1), (2, .int x2), (3, .int x3), (4, .int x4), (5, .int x5), (6, .int x6)] dX12_truth_171 (by decide) rfl ?_
    refine E_iload_n 4 dX12_truth_173 rfl rfl ?_
    refine E_if_ne 182 dX12_truth_174 (by decide) (fun c => ?_) (fun c => ?_)
    · rw [if_neg c] at h
      refine E_iload_n 4 dX12_truth_182 rfl rfl ?_
      refine E_iconst (1 : Int32) dX12_truth_183 (by decide) ?_
      refine E_icmp_ne 192 dX12_truth_184 (by decide) (fun c => ?_) (fun c => ?_)
      · rw [if_neg c] at h
        refine E_iload_n 4 dX12_truth_192 rfl rfl ?_
        refine E_iconst (2 : Int32) dX12_truth_193 (by decide) ?_
        refine E_icmp_ne 202 dX12_truth_194 (by decide) (fun c => ?_) (fun c => ?_)
        · rw [if_neg c] at h
          refine E_iload_n 4 dX12_truth_202 rfl rfl ?_
          refine E_iconst (3 : Int32) dX12_truth_203 (by decide) ?_
          refine E_icmp_ne 227 dX12_truth_204 (by decide) (fun c => ?_) (fun c => ?_)
          · rw [if_neg c] at h
            refine E_iload 6 dX12_truth_227 rfl ?_
            refine E_iload 7 dX12_truth_229 rfl ?_
            refine E_icmp_ge 238 dX12_truth_231 (by decide) (fun c => ?_) (fun c => ?_)
            · rw [if_pos c] at h
              refine E_iconst (0 : Int32) dX12_truth_238 (by decide) ?_
              obtain ⟨rfl, rfl⟩ := h
              exact E_iret dX12_truth_239 rfl
            · rw [if_neg c] at h
              refine E_iconst (1 : Int32) dX12_truth_234 (by decide) ?_
              refine E_goto 239 dX12_truth_235 (by decide) ?_
              obtain ⟨rfl, rfl⟩ := h
              exact E_iret dX12_truth_239 rfl
          · rw [if_pos c] at h
            refine E_iload 0 dX12_truth_207 rfl ?_
            refine E_if_lt 223 dX12_truth_209 (by decide) (fun c => ?_) (fun c => ?_)
            · rw [if_pos c] at h
              exact E_lv [] rfl (w_X12_truth_223 hs h)
            · rw [if_neg c] at h
              refine E_iload 5 dX12_truth_212 rfl ?_
              refine E_iload 0 dX12_truth_214 rfl ?_
              refine E_icmp_lt 223 dX12_truth_216 (by decide) (fun c => ?_) (fun c => ?_)
              · rw [if_pos c] at h
                exact E_lv [] rfl (w_X12_truth_223 hs h)
              · rw [if_neg c] at h
                refine E_iconst (1 : Int32) dX12_truth_219 (by decide) ?_
                refine E_goto 239 dX12_truth_220 (by decide) ?_
                obtain ⟨rfl, rfl⟩ := h
                exact E_iret dX12_truth_239 rfl
        · rw [if_pos c] at h
          refine E_iload 7 dX12_truth_197 rfl ?_
          refine E_goto 239 dX12_truth_199 (by decide) ?_
          obtain ⟨rfl, rfl⟩ := h
          exact E_iret dX12_truth_239 rfl
      · rw [if_pos c] at h
        refine E_iload 6 dX12_truth_187 rfl ?_
        refine E_goto 239 dX12_truth_189 (by decide) ?_
        obtain ⟨rfl, rfl⟩ := h
        exact E_iret dX12_truth_239 rfl
    · rw [if_pos c] at h
      refine E_iload 5 dX12_truth_177 rfl ?_
      refine E_goto 239 dX12_truth_179 (by decide) ?_
      obtain ⟨rfl, rfl⟩ := h
      exact E_iret dX12_truth_239 rfl
  · rw [if_neg c] at h
    refine E_bipush (20 : Int32) dX12_truth_46 (by decide) ?_
    refine E_iload_n 1 dX12_truth_48 rfl rfl ?_
    refine E_imul dX12_truth_49 ?_
    refine E_iload_n 2 dX12_truth_50 rfl rfl ?_
    refine E_iadd dX12_truth_51 ?_
    refine E_bipush (20 : Int32) dX12_truth_52 (by decide) ?_
    refine E_imul dX12_truth_54 ?_
    refine E_iload 7 dX12_truth_55 rfl ?_
    refine E_iadd dX12_truth_57 ?_
    refine E_istore [(8, .int (((((20 : Int32) * x1) + x2) * (20 : Int32)) + x7)), (0, .ref 124), (1, .int x1), (2, .int x2), (3, .int x3), (4, .int x4), (5, .int x5), (6, .int x6), (7, .int x7)] dX12_truth_58 (by decide) rfl ?_
    refine E_aload_n 1 dX12_truth_60 rfl rfl ?_
    refine E_getR 125 dX12_truth_61 fl_X12_8 rfl (sk_124 hs) (sn hs (by decide)) (sr_124_2 hs) ?_
    refine E_sipush (24712 : Int32) dX12_truth_64 (by decide) ?_
    refine E_iload 0 dX12_truth_67 rfl ?_
    refine E_iadd dX12_truth_69 ?_
    obtain ⟨g14, h⟩ := h
    refine E_iald2 (((24712 : Int32) + (((((20 : Int32) * x1) + x2) * (20 : Int32)) + x7)).toNatClampNeg) dX12_truth_70 (sk_125 hs) (sn hs (by decide)) g14 rfl ?_
    refine E_if_ne 78 dX12_truth_71 (by decide) (fun c => ?_) (fun c => ?_)
    · rw [if_neg c] at h
      refine E_aload_n 1 dX12_truth_78 rfl rfl ?_
      refine E_getR 125 dX12_truth_79 fl_X12_8 rfl (sk_124 hs) (sn hs (by decide)) (sr_124_2 hs) ?_
      refine E_sipush (24712 : Int32) dX12_truth_82 (by decide) ?_
      refine E_iload 0 dX12_truth_85 rfl ?_
      refine E_iadd dX12_truth_87 ?_
      obtain ⟨g15, h⟩ := h
      refine E_iald2 (((24712 : Int32) + (((((20 : Int32) * x1) + x2) * (20 : Int32)) + x7)).toNatClampNeg) dX12_truth_88 (sk_125 hs) (sn hs (by decide)) g15 rfl ?_
      refine E_iconst (1 : Int32) dX12_truth_89 (by decide) ?_
      refine E_isub dX12_truth_90 ?_
      exact E_lv [1, 2, 3, 4, 5, 6, 7, 8, 0] rfl (w_X12_truth_91 hs h)
    · rw [if_pos c] at h
      refine E_iconst (0 : Int32) dX12_truth_74 (by decide) ?_
      refine E_goto 91 dX12_truth_75 (by decide) ?_
      exact E_lv [1, 2, 3, 4, 5, 6, 7, 8, 0] rfl (w_X12_truth_91 hs h)
def W_X12_count_0 (X : Sx) (l : Launch) (D : Nat) (x1 : Int32) (σ : AH) (r : Option Value) (σ' : AH) : Prop := (if x1 = 0 then (r = some (.int (gI (sI σ 124 0 (0 : Int32)) 125 0)) ∧ σ' = (sI σ 124 0 (0 : Int32))) else (if x1 = 1 then (r = some (.int (gI (sI σ 124 0 (0 : Int32)) 125 1)) ∧ σ' = (sI σ 124 0 (0 : Int32))) else (if x1 = 2 then (r = some (.int (gI (sI σ 124 0 (0 : Int32)) 125 2)) ∧ σ' = (sI σ 124 0 (0 : Int32))) else (if x1 = 3 then (r = some (.int (gI (sI σ 124 0 (0 : Int32)) 125 4)) ∧ σ' = (sI σ 124 0 (0 : Int32))) else (if x1 = 4 then (r = some (.int (gI (sI σ 124 0 (0 : Int32)) 125 5)) ∧ σ' = (sI σ 124 0 (0 : Int32))) else (if x1 = 5 then (r = some (.int (gI (sI σ 124 0 (0 : Int32)) 124 48)) ∧ σ' = (sI σ 124 0 (0 : Int32))) else (if x1 = 6 then (r = some (.int (gI (sI σ 124 0 (0 : Int32)) 125 6)) ∧ σ' = (sI σ 124 0 (0 : Int32))) else (if x1 = 7 then (r = some (.int (gI (sI σ 124 0 (0 : Int32)) 125 11)) ∧ σ' = (sI σ 124 0 (0 : Int32))) else (if x1 = 8 then (r = some (.int (gI (sI σ 124 0 (0 : Int32)) 125 8)) ∧ σ' = (sI σ 124 0 (0 : Int32))) else (if x1 = 9 then (r = some (.int (gI (sI σ 124 0 (0 : Int32)) 124 6)) ∧ σ' = (sI σ 124 0 (0 : Int32))) else (r = some (.int (-1 : Int32)) ∧ σ' = (sI σ 124 0 (0 : Int32)))))))))))))
set_option maxRecDepth 100000 in
theorem w_X12_count_0 {X : Sx} {l : Launch} {D : Nat} {x1 : Int32} {σ : AH} {r : Option Value} {σ' : AH} (hs : Sh σ) (h : W_X12_count_0 X l D x1 σ r σ') : E X l m_X12_count D 0 [(0, .ref 124), (1, .int x1)] [] σ r σ' := by
  unfold W_X12_count_0 at h
  refine E_aload_n 0 dX12_count_0 rfl rfl ?_
  refine E_iconst (0 : Int32) dX12_count_1 (by decide) ?_
  refine E_putI dX12_count_2 fl_X12_145 rfl (Or.inl rfl) (sk_124 hs) (sn hs (by decide)) (Or.inl (by decide)) rfl rfl ?_
  refine E_iload_n 1 dX12_count_5 rfl rfl ?_
  by_cases c0 : x1 = 0
  · rw [if_pos c0] at h
    refine E_tabIn (off := 54) 60 dX12_count_6 (by rw [c0]; decide) (by rw [c0]; decide) (by rw [c0]; rfl) (by decide) ?_
    refine E_aload_n 0 dX12_count_60 rfl rfl ?_
    refine E_getR 125 dX12_count_61 fl_X12_8 rfl (sk_124 hs) (sn hs (by decide)) (sr_124_2 hs) ?_
    refine E_iconst (0 : Int32) dX12_count_64 (by decide) ?_
    refine E_iald2 0 dX12_count_65 (sk_125 hs) (sn hs (by decide)) (vp_lit (by decide)) (by decide) ?_
    obtain ⟨rfl, rfl⟩ := h
    exact E_iret dX12_count_66 rfl
  rw [if_neg c0] at h
  by_cases c1 : x1 = 1
  · rw [if_pos c1] at h
    refine E_tabIn (off := 61) 67 dX12_count_6 (by rw [c1]; decide) (by rw [c1]; decide) (by rw [c1]; rfl) (by decide) ?_
    refine E_aload_n 0 dX12_count_67 rfl rfl ?_
    refine E_getR 125 dX12_count_68 fl_X12_8 rfl (sk_124 hs) (sn hs (by decide)) (sr_124_2 hs) ?_
    refine E_iconst (1 : Int32) dX12_count_71 (by decide) ?_
    refine E_iald2 1 dX12_count_72 (sk_125 hs) (sn hs (by decide)) (vp_lit (by decide)) (by decide) ?_
    obtain ⟨rfl, rfl⟩ := h
    exact E_iret dX12_count_73 rfl
  rw [if_neg c1] at h
  by_cases c2 : x1 = 2
  · rw [if_pos c2] at h
    refine E_tabIn (off := 68) 74 dX12_count_6 (by rw [c2]; decide) (by rw [c2]; decide) (by rw [c2]; rfl) (by decide) ?_
    refine E_aload_n 0 dX12_count_74 rfl rfl ?_
    refine E_getR 125 dX12_count_75 fl_X12_8 rfl (sk_124 hs) (sn hs (by decide)) (sr_124_2 hs) ?_
    refine E_iconst (2 : Int32) dX12_count_78 (by decide) ?_
    refine E_iald2 2 dX12_count_79 (sk_125 hs) (sn hs (by decide)) (vp_lit (by decide)) (by decide) ?_
    obtain ⟨rfl, rfl⟩ := h
    exact E_iret dX12_count_80 rfl
  rw [if_neg c2] at h
  by_cases c3 : x1 = 3
  · rw [if_pos c3] at h
    refine E_tabIn (off := 75) 81 dX12_count_6 (by rw [c3]; decide) (by rw [c3]; decide) (by rw [c3]; rfl) (by decide) ?_
    refine E_aload_n 0 dX12_count_81 rfl rfl ?_
    refine E_getR 125 dX12_count_82 fl_X12_8 rfl (sk_124 hs) (sn hs (by decide)) (sr_124_2 hs) ?_
    refine E_iconst (4 : Int32) dX12_count_85 (by decide) ?_
    refine E_iald2 4 dX12_count_86 (sk_125 hs) (sn hs (by decide)) (vp_lit (by decide)) (by decide) ?_
    obtain ⟨rfl, rfl⟩ := h
    exact E_iret dX12_count_87 rfl
  rw [if_neg c3] at h
  by_cases c4 : x1 = 4
  · rw [if_pos c4] at h
    refine E_tabIn (off := 82) 88 dX12_count_6 (by rw [c4]; decide) (by rw [c4]; decide) (by rw [c4]; rfl) (by decide) ?_
    refine E_aload_n 0 dX12_count_88 rfl rfl ?_
    refine E_getR 125 dX12_count_89 fl_X12_8 rfl (sk_124 hs) (sn hs (by decide)) (sr_124_2 hs) ?_
    refine E_iconst (5 : Int32) dX12_count_92 (by decide) ?_
    refine E_iald2 5 dX12_count_93 (sk_125 hs) (sn hs (by decide)) (vp_lit (by decide)) (by decide) ?_
    obtain ⟨rfl, rfl⟩ := h
    exact E_iret dX12_count_94 rfl
  rw [if_neg c4] at h
  by_cases c5 : x1 = 5
  · rw [if_pos c5] at h
    refine E_tabIn (off := 89) 95 dX12_count_6 (by rw [c5]; decide) (by rw [c5]; decide) (by rw [c5]; rfl) (by decide) ?_
    refine E_aload_n 0 dX12_count_95 rfl rfl ?_
    refine E_getI dX12_count_96 fl_X12_170 rfl (sk_124 hs) (sn hs (by decide)) ?_
    obtain ⟨rfl, rfl⟩ := h
    exact E_iret dX12_count_99 rfl
  rw [if_neg c5] at h
  by_cases c6 : x1 = 6
  · rw [if_pos c6] at h
    refine E_tabIn (off := 94) 100 dX12_count_6 (by rw [c6]; decide) (by rw [c6]; decide) (by rw [c6]; rfl) (by decide) ?_
    refine E_aload_n 0 dX12_count_100 rfl rfl ?_
    refine E_getR 125 dX12_count_101 fl_X12_8 rfl (sk_124 hs) (sn hs (by decide)) (sr_124_2 hs) ?_
    refine E_bipush (6 : Int32) dX12_count_104 (by decide) ?_
    refine E_iald2 6 dX12_count_106 (sk_125 hs) (sn hs (by decide)) (vp_lit (by decide)) (by decide) ?_
    obtain ⟨rfl, rfl⟩ := h
    exact E_iret dX12_count_107 rfl
  rw [if_neg c6] at h
  by_cases c7 : x1 = 7
  · rw [if_pos c7] at h
    refine E_tabIn (off := 102) 108 dX12_count_6 (by rw [c7]; decide) (by rw [c7]; decide) (by rw [c7]; rfl) (by decide) ?_
    refine E_aload_n 0 dX12_count_108 rfl rfl ?_
    refine E_getR 125 dX12_count_109 fl_X12_8 rfl (sk_124 hs) (sn hs (by decide)) (sr_124_2 hs) ?_
    refine E_bipush (11 : Int32) dX12_count_112 (by decide) ?_
    refine E_iald2 11 dX12_count_114 (sk_125 hs) (sn hs (by decide)) (vp_lit (by decide)) (by decide) ?_
    obtain ⟨rfl, rfl⟩ := h
    exact E_iret dX12_count_115 rfl
  rw [if_neg c7] at h
  by_cases c8 : x1 = 8
  · rw [if_pos c8] at h
    refine E_tabIn (off := 110) 116 dX12_count_6 (by rw [c8]; decide) (by rw [c8]; decide) (by rw [c8]; rfl) (by decide) ?_
    refine E_aload_n 0 dX12_count_116 rfl rfl ?_
    refine E_getR 125 dX12_count_117 fl_X12_8 rfl (sk_124 hs) (sn hs (by decide)) (sr_124_2 hs) ?_
    refine E_bipush (8 : Int32) dX12_count_120 (by decide) ?_
    refine E_iald2 8 dX12_count_122 (sk_125 hs) (sn hs (by decide)) (vp_lit (by decide)) (by decide) ?_
    obtain ⟨rfl, rfl⟩ := h
    exact E_iret dX12_count_123 rfl
  rw [if_neg c8] at h
  by_cases c9 : x1 = 9
  · rw [if_pos c9] at h
    refine E_tabIn (off := 118) 124 dX12_count_6 (by rw [c9]; decide) (by rw [c9]; decide) (by rw [c9]; rfl) (by decide) ?_
    refine E_aload_n 0 dX12_count_124 rfl rfl ?_
    refine E_getI dX12_count_125 fl_X12_167 rfl (sk_124 hs) (sn hs (by decide)) ?_
    obtain ⟨rfl, rfl⟩ := h
    exact E_iret dX12_count_128 rfl
  rw [if_neg c9] at h
  refine E_tabOut 129 dX12_count_6 (i32_out (x := x1) 0 9 (fun k h1 h2 => by
      rcases (show k = 0 ∨ k = 1 ∨ k = 2 ∨ k = 3 ∨ k = 4 ∨ k = 5 ∨ k = 6 ∨ k = 7 ∨ k = 8 ∨ k = 9 by omega) with rfl | rfl | rfl | rfl | rfl | rfl | rfl | rfl | rfl | rfl
      · exact c0
      · exact c1
      · exact c2
      · exact c3
      · exact c4
      · exact c5
      · exact c6
      · exact c7
      · exact c8
      · exact c9
      )) (by decide) ?_
  refine E_iconst (-1 : Int32) dX12_count_129 (by decide) ?_
  obtain ⟨rfl, rfl⟩ := h
  exact E_iret dX12_count_130 rfl
def W_X12_status_0 (X : Sx) (l : Launch) (D : Nat) (σ : AH) (r : Option Value) (σ' : AH) : Prop := (r = some (.int (gI (sI σ 124 0 (0 : Int32)) 124 1)) ∧ σ' = (sI σ 124 0 (0 : Int32)))
set_option maxRecDepth 100000 in
theorem w_X12_status_0 {X : Sx} {l : Launch} {D : Nat} {σ : AH} {r : Option Value} {σ' : AH} (hs : Sh σ) (h : W_X12_status_0 X l D σ r σ') : E X l m_X12_status D 0 [(0, .ref 124)] [] σ r σ' := by
  unfold W_X12_status_0 at h
  refine E_aload_n 0 dX12_status_0 rfl rfl ?_
  refine E_iconst (0 : Int32) dX12_status_1 (by decide) ?_
  refine E_putI dX12_status_2 fl_X12_145 rfl (Or.inl rfl) (sk_124 hs) (sn hs (by decide)) (Or.inl (by decide)) rfl rfl ?_
  refine E_aload_n 0 dX12_status_5 rfl rfl ?_
  refine E_getI dX12_status_6 fl_X12_148 rfl (sk_124 hs) (sn hs (by decide)) ?_
  obtain ⟨rfl, rfl⟩ := h
  exact E_iret dX12_status_9 rfl
