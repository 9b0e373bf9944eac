theorem dX12_works_0 : decode cX12_works 0 = .ok (.aload_n 0, 1) := by decide +kernel
theorem dX12_works_1 : decode cX12_works 1 = .ok (.iconst 0, 1) := by decide +kernel
theorem dX12_works_2 : decode cX12_works 2 = .ok (.putfield 145, 3) := by decide +kernel
theorem dX12_works_5 : decode cX12_works 5 = .ok (.iload_n 1, 1) := by decide +kernel
theorem dX12_works_6 : decode cX12_works 6 = .ok (.i2l, 1) := by decide +kernel
theorem dX12_works_7 : decode cX12_works 7 = .ok (.lconst 0, 1) := by decide +kernel
theorem dX12_works_8 : decode cX12_works 8 = .ok (.ldc2_w 456, 3) := by decide +kernel
theorem dX12_works_11 : decode cX12_works 11 = .ok (.invokestatic 153, 3) := by decide +kernel
theorem dX12_works_14 : decode cX12_works 14 = .ok (.ifCond .eq 32, 3) := by decide +kernel
theorem dX12_works_17 : decode cX12_works 17 = .ok (.iload_n 3, 1) := by decide +kernel
theorem dX12_works_18 : decode cX12_works 18 = .ok (.i2l, 1) := by decide +kernel
theorem dX12_works_19 : decode cX12_works 19 = .ok (.lconst 0, 1) := by decide +kernel
theorem dX12_works_20 : decode cX12_works 20 = .ok (.ldc2_w 456, 3) := by decide +kernel
theorem dX12_works_23 : decode cX12_works 23 = .ok (.invokestatic 153, 3) := by decide +kernel
theorem dX12_works_26 : decode cX12_works 26 = .ok (.ifCond .eq 20, 3) := by decide +kernel
theorem dX12_works_29 : decode cX12_works 29 = .ok (.iload 5, 2) := by decide +kernel
theorem dX12_works_31 : decode cX12_works 31 = .ok (.i2l, 1) := by decide +kernel
theorem dX12_works_32 : decode cX12_works 32 = .ok (.lconst 0, 1) := by decide +kernel
theorem dX12_works_33 : decode cX12_works 33 = .ok (.ldc2_w 456, 3) := by decide +kernel
theorem dX12_works_36 : decode cX12_works 36 = .ok (.invokestatic 153, 3) := by decide +kernel
theorem dX12_works_39 : decode cX12_works 39 = .ok (.ifCond .eq 7, 3) := by decide +kernel
theorem dX12_works_42 : decode cX12_works 42 = .ok (.iconst 1, 1) := by decide +kernel
theorem dX12_works_43 : decode cX12_works 43 = .ok (.goto 4, 3) := by decide +kernel
theorem dX12_works_46 : decode cX12_works 46 = .ok (.iconst 0, 1) := by decide +kernel
theorem dX12_works_47 : decode cX12_works 47 = .ok (.istore 9, 2) := by decide +kernel
theorem dX12_works_49 : decode cX12_works 49 = .ok (.iload 9, 2) := by decide +kernel
theorem dX12_works_51 : decode cX12_works 51 = .ok (.ifCond .eq 62, 3) := by decide +kernel
theorem dX12_works_54 : decode cX12_works 54 = .ok (.iload_n 2, 1) := by decide +kernel
theorem dX12_works_55 : decode cX12_works 55 = .ok (.i2l, 1) := by decide +kernel
theorem dX12_works_56 : decode cX12_works 56 = .ok (.lconst 0, 1) := by decide +kernel
theorem dX12_works_57 : decode cX12_works 57 = .ok (.ldc2_w 462, 3) := by decide +kernel
theorem dX12_works_60 : decode cX12_works 60 = .ok (.invokestatic 153, 3) := by decide +kernel
theorem dX12_works_63 : decode cX12_works 63 = .ok (.ifCond .eq 50, 3) := by decide +kernel
theorem dX12_works_66 : decode cX12_works 66 = .ok (.iload 4, 2) := by decide +kernel
theorem dX12_works_68 : decode cX12_works 68 = .ok (.i2l, 1) := by decide +kernel
theorem dX12_works_69 : decode cX12_works 69 = .ok (.lconst 0, 1) := by decide +kernel
theorem dX12_works_70 : decode cX12_works 70 = .ok (.ldc2_w 462, 3) := by decide +kernel
theorem dX12_works_73 : decode cX12_works 73 = .ok (.invokestatic 153, 3) := by decide +kernel
theorem dX12_works_76 : decode cX12_works 76 = .ok (.ifCond .eq 37, 3) := by decide +kernel
theorem dX12_works_79 : decode cX12_works 79 = .ok (.iload 6, 2) := by decide +kernel
theorem dX12_works_81 : decode cX12_works 81 = .ok (.i2l, 1) := by decide +kernel
theorem dX12_works_82 : decode cX12_works 82 = .ok (.lconst 1, 1) := by decide +kernel
theorem dX12_works_83 : decode cX12_works 83 = .ok (.ldc2_w 279, 3) := by decide +kernel
theorem dX12_works_86 : decode cX12_works 86 = .ok (.invokestatic 153, 3) := by decide +kernel
theorem dX12_works_89 : decode cX12_works 89 = .ok (.ifCond .eq 24, 3) := by decide +kernel
theorem dX12_works_92 : decode cX12_works 92 = .ok (.iload 7, 2) := by decide +kernel
theorem dX12_works_94 : decode cX12_works 94 = .ok (.i2l, 1) := by decide +kernel
theorem dX12_works_95 : decode cX12_works 95 = .ok (.lconst 0, 1) := by decide +kernel
theorem dX12_works_96 : decode cX12_works 96 = .ok (.ldc2_w 464, 3) := by decide +kernel
theorem dX12_works_99 : decode cX12_works 99 = .ok (.invokestatic 153, 3) := by decide +kernel
theorem dX12_works_102 : decode cX12_works 102 = .ok (.ifCond .eq 11, 3) := by decide +kernel
theorem dX12_works_105 : decode cX12_works 105 = .ok (.iload 8, 2) := by decide +kernel
theorem dX12_works_107 : decode cX12_works 107 = .ok (.invokestatic 387, 3) := by decide +kernel
theorem dX12_works_110 : decode cX12_works 110 = .ok (.ifCond .ne 9, 3) := by decide +kernel
theorem dX12_works_113 : decode cX12_works 113 = .ok (.aload_n 0, 1) := by decide +kernel
theorem dX12_works_114 : decode cX12_works 114 = .ok (.iconst (-1), 1) := by decide +kernel
theorem dX12_works_115 : decode cX12_works 115 = .ok (.invokevirtual 163, 3) := by decide +kernel
theorem dX12_works_118 : decode cX12_works 118 = .ok (.ireturn, 1) := by decide +kernel
theorem dX12_works_119 : decode cX12_works 119 = .ok (.aload_n 0, 1) := by decide +kernel
theorem dX12_works_120 : decode cX12_works 120 = .ok (.getfield 8, 3) := by decide +kernel
theorem dX12_works_123 : decode cX12_works 123 = .ok (.iconst 2, 1) := by decide +kernel
theorem dX12_works_124 : decode cX12_works 124 = .ok (.iaload, 1) := by decide +kernel
theorem dX12_works_125 : decode cX12_works 125 = .ok (.bipush 8, 2) := by decide +kernel
theorem dX12_works_127 : decode cX12_works 127 = .ok (.if_icmp .ne 10, 3) := by decide +kernel
theorem dX12_works_130 : decode cX12_works 130 = .ok (.aload_n 0, 1) := by decide +kernel
theorem dX12_works_131 : decode cX12_works 131 = .ok (.bipush (-5), 2) := by decide +kernel
theorem dX12_works_133 : decode cX12_works 133 = .ok (.invokevirtual 163, 3) := by decide +kernel
theorem dX12_works_136 : decode cX12_works 136 = .ok (.ireturn, 1) := by decide +kernel
theorem dX12_works_137 : decode cX12_works 137 = .ok (.sipush 23228, 3) := by decide +kernel
theorem dX12_works_140 : decode cX12_works 140 = .ok (.bipush 8, 2) := by decide +kernel
theorem dX12_works_142 : decode cX12_works 142 = .ok (.aload_n 0, 1) := by decide +kernel
theorem dX12_works_143 : decode cX12_works 143 = .ok (.getfield 8, 3) := by decide +kernel
theorem dX12_works_146 : decode cX12_works 146 = .ok (.iconst 2, 1) := by decide +kernel
theorem dX12_works_147 : decode cX12_works 147 = .ok (.iaload, 1) := by decide +kernel
theorem dX12_works_148 : decode cX12_works 148 = .ok (.imul, 1) := by decide +kernel
theorem dX12_works_149 : decode cX12_works 149 = .ok (.iadd, 1) := by decide +kernel
theorem dX12_works_150 : decode cX12_works 150 = .ok (.istore 10, 2) := by decide +kernel
theorem dX12_works_152 : decode cX12_works 152 = .ok (.aload_n 0, 1) := by decide +kernel
theorem dX12_works_153 : decode cX12_works 153 = .ok (.iload 10, 2) := by decide +kernel
theorem dX12_works_155 : decode cX12_works 155 = .ok (.iload_n 1, 1) := by decide +kernel
theorem dX12_works_156 : decode cX12_works 156 = .ok (.iload_n 2, 1) := by decide +kernel
theorem dX12_works_157 : decode cX12_works 157 = .ok (.iload_n 3, 1) := by decide +kernel
theorem dX12_works_158 : decode cX12_works 158 = .ok (.iload 4, 2) := by decide +kernel
theorem dX12_works_160 : decode cX12_works 160 = .ok (.invokevirtual 458, 3) := by decide +kernel
theorem dX12_works_163 : decode cX12_works 163 = .ok (.aload_n 0, 1) := by decide +kernel
theorem dX12_works_164 : decode cX12_works 164 = .ok (.iload 10, 2) := by decide +kernel
theorem dX12_works_166 : decode cX12_works 166 = .ok (.iconst 4, 1) := by decide +kernel
theorem dX12_works_167 : decode cX12_works 167 = .ok (.iadd, 1) := by decide +kernel
theorem dX12_works_168 : decode cX12_works 168 = .ok (.iload 5, 2) := by decide +kernel
theorem dX12_works_170 : decode cX12_works 170 = .ok (.iload 6, 2) := by decide +kernel
theorem dX12_works_172 : decode cX12_works 172 = .ok (.iload 7, 2) := by decide +kernel
theorem dX12_works_174 : decode cX12_works 174 = .ok (.iload 8, 2) := by decide +kernel
theorem dX12_works_176 : decode cX12_works 176 = .ok (.invokevirtual 458, 3) := by decide +kernel
theorem dX12_works_179 : decode cX12_works 179 = .ok (.aload_n 0, 1) := by decide +kernel
theorem dX12_works_180 : decode cX12_works 180 = .ok (.getfield 8, 3) := by decide +kernel
theorem dX12_works_183 : decode cX12_works 183 = .ok (.iconst 2, 1) := by decide +kernel
theorem dX12_works_184 : decode cX12_works 184 = .ok (.dup2, 1) := by decide +kernel
theorem dX12_works_185 : decode cX12_works 185 = .ok (.iaload, 1) := by decide +kernel
theorem dX12_works_186 : decode cX12_works 186 = .ok (.iconst 1, 1) := by decide +kernel
theorem dX12_works_187 : decode cX12_works 187 = .ok (.iadd, 1) := by decide +kernel
theorem dX12_works_188 : decode cX12_works 188 = .ok (.iastore, 1) := by decide +kernel
theorem dX12_works_189 : decode cX12_works 189 = .ok (.aload_n 0, 1) := by decide +kernel
theorem dX12_works_190 : decode cX12_works 190 = .ok (.aload_n 0, 1) := by decide +kernel
theorem dX12_works_191 : decode cX12_works 191 = .ok (.getfield 8, 3) := by decide +kernel
theorem dX12_works_194 : decode cX12_works 194 = .ok (.iconst 2, 1) := by decide +kernel
theorem dX12_works_195 : decode cX12_works 195 = .ok (.iaload, 1) := by decide +kernel
theorem dX12_works_196 : decode cX12_works 196 = .ok (.iconst 1, 1) := by decide +kernel
theorem dX12_works_197 : decode cX12_works 197 = .ok (.isub, 1) := by decide +kernel
theorem dX12_works_198 : decode cX12_works 198 = .ok (.invokevirtual 163, 3) := by decide +kernel
theorem dX12_works_201 : decode cX12_works 201 = .ok (.ireturn, 1) := by decide +kernel
theorem dX12_gangs_0 : decode cX12_gangs 0 = .ok (.aload_n 0, 1) := by decide +kernel
theorem dX12_gangs_1 : decode cX12_gangs 1 = .ok (.iconst 0, 1) := by decide +kernel
theorem dX12_gangs_2 : decode cX12_gangs 2 = .ok (.putfield 145, 3) := by decide +kernel
theorem dX12_gangs_5 : decode cX12_gangs 5 = .ok (.iload_n 1, 1) := by decide +kernel
theorem dX12_gangs_6 : decode cX12_gangs 6 = .ok (.invokestatic 466, 3) := by decide +kernel
theorem dX12_gangs_9 : decode cX12_gangs 9 = .ok (.ifCond .eq 30, 3) := by decide +kernel
theorem dX12_gangs_12 : decode cX12_gangs 12 = .ok (.iload_n 2, 1) := by decide +kernel
theorem dX12_gangs_13 : decode cX12_gangs 13 = .ok (.i2l, 1) := by decide +kernel
theorem dX12_gangs_14 : decode cX12_gangs 14 = .ok (.lconst 0, 1) := by decide +kernel
theorem dX12_gangs_15 : decode cX12_gangs 15 = .ok (.ldc2_w 469, 3) := by decide +kernel
theorem dX12_gangs_18 : decode cX12_gangs 18 = .ok (.invokestatic 153, 3) := by decide +kernel
theorem dX12_gangs_21 : decode cX12_gangs 21 = .ok (.ifCond .eq 18, 3) := by decide +kernel
theorem dX12_gangs_24 : decode cX12_gangs 24 = .ok (.iload_n 3, 1) := by decide +kernel
theorem dX12_gangs_25 : decode cX12_gangs 25 = .ok (.invokestatic 387, 3) := by decide +kernel
theorem dX12_gangs_28 : decode cX12_gangs 28 = .ok (.ifCond .eq 11, 3) := by decide +kernel
theorem dX12_gangs_31 : decode cX12_gangs 31 = .ok (.iload 4, 2) := by decide +kernel
theorem dX12_gangs_33 : decode cX12_gangs 33 = .ok (.invokestatic 387, 3) := by decide +kernel
theorem dX12_gangs_36 : decode cX12_gangs 36 = .ok (.ifCond .ne 9, 3) := by decide +kernel
theorem dX12_gangs_39 : decode cX12_gangs 39 = .ok (.aload_n 0, 1) := by decide +kernel
theorem dX12_gangs_40 : decode cX12_gangs 40 = .ok (.iconst (-1), 1) := by decide +kernel
theorem dX12_gangs_41 : decode cX12_gangs 41 = .ok (.invokevirtual 163, 3) := by decide +kernel
theorem dX12_gangs_44 : decode cX12_gangs 44 = .ok (.ireturn, 1) := by decide +kernel
theorem dX12_gangs_45 : decode cX12_gangs 45 = .ok (.aload_n 0, 1) := by decide +kernel
theorem dX12_gangs_46 : decode cX12_gangs 46 = .ok (.getfield 8, 3) := by decide +kernel
theorem dX12_gangs_49 : decode cX12_gangs 49 = .ok (.iconst 3, 1) := by decide +kernel
theorem dX12_gangs_50 : decode cX12_gangs 50 = .ok (.iaload, 1) := by decide +kernel
theorem dX12_gangs_51 : decode cX12_gangs 51 = .ok (.bipush 60, 2) := by decide +kernel
theorem dX12_gangs_53 : decode cX12_gangs 53 = .ok (.if_icmp .ne 10, 3) := by decide +kernel
theorem dX12_gangs_56 : decode cX12_gangs 56 = .ok (.aload_n 0, 1) := by decide +kernel
theorem dX12_gangs_57 : decode cX12_gangs 57 = .ok (.bipush (-5), 2) := by decide +kernel
theorem dX12_gangs_59 : decode cX12_gangs 59 = .ok (.invokevirtual 163, 3) := by decide +kernel
theorem dX12_gangs_62 : decode cX12_gangs 62 = .ok (.ireturn, 1) := by decide +kernel
theorem dX12_gangs_63 : decode cX12_gangs 63 = .ok (.aload_n 0, 1) := by decide +kernel
theorem dX12_gangs_64 : decode cX12_gangs 64 = .ok (.sipush 23292, 3) := by decide +kernel
theorem dX12_gangs_67 : decode cX12_gangs 67 = .ok (.iconst 4, 1) := by decide +kernel
theorem dX12_gangs_68 : decode cX12_gangs 68 = .ok (.aload_n 0, 1) := by decide +kernel
theorem dX12_gangs_69 : decode cX12_gangs 69 = .ok (.getfield 8, 3) := by decide +kernel
theorem dX12_gangs_72 : decode cX12_gangs 72 = .ok (.iconst 3, 1) := by decide +kernel
theorem dX12_gangs_73 : decode cX12_gangs 73 = .ok (.iaload, 1) := by decide +kernel
theorem dX12_gangs_74 : decode cX12_gangs 74 = .ok (.imul, 1) := by decide +kernel
theorem dX12_gangs_75 : decode cX12_gangs 75 = .ok (.iadd, 1) := by decide +kernel
theorem dX12_gangs_76 : decode cX12_gangs 76 = .ok (.iload_n 1, 1) := by decide +kernel
theorem dX12_gangs_77 : decode cX12_gangs 77 = .ok (.iload_n 2, 1) := by decide +kernel
theorem dX12_gangs_78 : decode cX12_gangs 78 = .ok (.iload_n 3, 1) := by decide +kernel
theorem dX12_gangs_79 : decode cX12_gangs 79 = .ok (.iload 4, 2) := by decide +kernel
theorem dX12_gangs_81 : decode cX12_gangs 81 = .ok (.invokevirtual 458, 3) := by decide +kernel
theorem dX12_gangs_84 : decode cX12_gangs 84 = .ok (.aload_n 0, 1) := by decide +kernel
theorem dX12_gangs_85 : decode cX12_gangs 85 = .ok (.getfield 8, 3) := by decide +kernel
theorem dX12_gangs_88 : decode cX12_gangs 88 = .ok (.iconst 3, 1) := by decide +kernel
theorem dX12_gangs_89 : decode cX12_gangs 89 = .ok (.dup2, 1) := by decide +kernel
theorem dX12_gangs_90 : decode cX12_gangs 90 = .ok (.iaload, 1) := by decide +kernel
theorem dX12_gangs_91 : decode cX12_gangs 91 = .ok (.iconst 1, 1) := by decide +kernel
theorem dX12_gangs_92 : decode cX12_gangs 92 = .ok (.iadd, 1) := by decide +kernel
theorem dX12_gangs_93 : decode cX12_gangs 93 = .ok (.iastore, 1) := by decide +kernel
theorem dX12_gangs_94 : decode cX12_gangs 94 = .ok (.aload_n 0, 1) := by decide +kernel
theorem dX12_gangs_95 : decode cX12_gangs 95 = .ok (.aload_n 0, 1) := by decide +kernel
theorem dX12_gangs_96 : decode cX12_gangs 96 = .ok (.getfield 8, 3) := by decide +kernel
theorem dX12_gangs_99 : decode cX12_gangs 99 = .ok (.iconst 3, 1) := by decide +kernel
theorem dX12_gangs_100 : decode cX12_gangs 100 = .ok (.iaload, 1) := by decide +kernel
theorem dX12_gangs_101 : decode cX12_gangs 101 = .ok (.invokevirtual 163, 3) := by decide +kernel
theorem dX12_gangs_104 : decode cX12_gangs 104 = .ok (.ireturn, 1) := by decide +kernel
theorem dX12_plot_0 : decode cX12_plot 0 = .ok (.aload_n 0, 1) := by decide +kernel
theorem dX12_plot_1 : decode cX12_plot 1 = .ok (.iconst 0, 1) := by decide +kernel
theorem dX12_plot_2 : decode cX12_plot 2 = .ok (.putfield 145, 3) := by decide +kernel
theorem dX12_plot_5 : decode cX12_plot 5 = .ok (.iload_n 1, 1) := by decide +kernel
theorem dX12_plot_6 : decode cX12_plot 6 = .ok (.invokestatic 466, 3) := by decide +kernel
theorem dX12_plot_9 : decode cX12_plot 9 = .ok (.ifCond .eq 35, 3) := by decide +kernel
theorem dX12_plot_12 : decode cX12_plot 12 = .ok (.iload_n 2, 1) := by decide +kernel
theorem dX12_plot_13 : decode cX12_plot 13 = .ok (.i2l, 1) := by decide +kernel
theorem dX12_plot_14 : decode cX12_plot 14 = .ok (.lconst 0, 1) := by decide +kernel
theorem dX12_plot_15 : decode cX12_plot 15 = .ok (.ldc2_w 161, 3) := by decide +kernel
theorem dX12_plot_18 : decode cX12_plot 18 = .ok (.invokestatic 153, 3) := by decide +kernel
theorem dX12_plot_21 : decode cX12_plot 21 = .ok (.ifCond .eq 23, 3) := by decide +kernel
theorem dX12_plot_24 : decode cX12_plot 24 = .ok (.iload_n 3, 1) := by decide +kernel
theorem dX12_plot_25 : decode cX12_plot 25 = .ok (.i2l, 1) := by decide +kernel
theorem dX12_plot_26 : decode cX12_plot 26 = .ok (.lconst 1, 1) := by decide +kernel
theorem dX12_plot_27 : decode cX12_plot 27 = .ok (.ldc2_w 450, 3) := by decide +kernel
theorem dX12_plot_30 : decode cX12_plot 30 = .ok (.invokestatic 153, 3) := by decide +kernel
theorem dX12_plot_33 : decode cX12_plot 33 = .ok (.ifCond .eq 11, 3) := by decide +kernel
theorem dX12_plot_36 : decode cX12_plot 36 = .ok (.iload 4, 2) := by decide +kernel
theorem dX12_plot_38 : decode cX12_plot 38 = .ok (.invokestatic 387, 3) := by decide +kernel
theorem dX12_plot_41 : decode cX12_plot 41 = .ok (.ifCond .ne 9, 3) := by decide +kernel
theorem dX12_plot_44 : decode cX12_plot 44 = .ok (.aload_n 0, 1) := by decide +kernel
theorem dX12_plot_45 : decode cX12_plot 45 = .ok (.iconst (-1), 1) := by decide +kernel
theorem dX12_plot_46 : decode cX12_plot 46 = .ok (.invokevirtual 163, 3) := by decide +kernel
theorem dX12_plot_49 : decode cX12_plot 49 = .ok (.ireturn, 1) := by decide +kernel
theorem dX12_plot_50 : decode cX12_plot 50 = .ok (.aload_n 0, 1) := by decide +kernel
theorem dX12_plot_51 : decode cX12_plot 51 = .ok (.getfield 8, 3) := by decide +kernel
theorem dX12_plot_54 : decode cX12_plot 54 = .ok (.iconst 4, 1) := by decide +kernel
theorem dX12_plot_55 : decode cX12_plot 55 = .ok (.iaload, 1) := by decide +kernel
theorem dX12_plot_56 : decode cX12_plot 56 = .ok (.bipush 30, 2) := by decide +kernel
theorem dX12_plot_58 : decode cX12_plot 58 = .ok (.if_icmp .ne 10, 3) := by decide +kernel
theorem dX12_plot_61 : decode cX12_plot 61 = .ok (.aload_n 0, 1) := by decide +kernel
theorem dX12_plot_62 : decode cX12_plot 62 = .ok (.bipush (-5), 2) := by decide +kernel
theorem dX12_plot_64 : decode cX12_plot 64 = .ok (.invokevirtual 163, 3) := by decide +kernel
theorem dX12_plot_67 : decode cX12_plot 67 = .ok (.ireturn, 1) := by decide +kernel
theorem dX12_plot_68 : decode cX12_plot 68 = .ok (.aload_n 0, 1) := by decide +kernel
theorem dX12_plot_69 : decode cX12_plot 69 = .ok (.sipush 23532, 3) := by decide +kernel
theorem dX12_plot_72 : decode cX12_plot 72 = .ok (.iconst 4, 1) := by decide +kernel
theorem dX12_plot_73 : decode cX12_plot 73 = .ok (.aload_n 0, 1) := by decide +kernel
theorem dX12_plot_74 : decode cX12_plot 74 = .ok (.getfield 8, 3) := by decide +kernel
theorem dX12_plot_77 : decode cX12_plot 77 = .ok (.iconst 4, 1) := by decide +kernel
theorem dX12_plot_78 : decode cX12_plot 78 = .ok (.iaload, 1) := by decide +kernel
theorem dX12_plot_79 : decode cX12_plot 79 = .ok (.imul, 1) := by decide +kernel
theorem dX12_plot_80 : decode cX12_plot 80 = .ok (.iadd, 1) := by decide +kernel
theorem dX12_plot_81 : decode cX12_plot 81 = .ok (.iload_n 1, 1) := by decide +kernel
theorem dX12_plot_82 : decode cX12_plot 82 = .ok (.iload_n 2, 1) := by decide +kernel
theorem dX12_plot_83 : decode cX12_plot 83 = .ok (.iload_n 3, 1) := by decide +kernel
theorem dX12_plot_84 : decode cX12_plot 84 = .ok (.iload 4, 2) := by decide +kernel
theorem dX12_plot_86 : decode cX12_plot 86 = .ok (.invokevirtual 458, 3) := by decide +kernel
theorem dX12_plot_89 : decode cX12_plot 89 = .ok (.aload_n 0, 1) := by decide +kernel
theorem dX12_plot_90 : decode cX12_plot 90 = .ok (.getfield 8, 3) := by decide +kernel
theorem dX12_plot_93 : decode cX12_plot 93 = .ok (.iconst 4, 1) := by decide +kernel
theorem dX12_plot_94 : decode cX12_plot 94 = .ok (.dup2, 1) := by decide +kernel
theorem dX12_plot_95 : decode cX12_plot 95 = .ok (.iaload, 1) := by decide +kernel
theorem dX12_plot_96 : decode cX12_plot 96 = .ok (.iconst 1, 1) := by decide +kernel
theorem dX12_plot_97 : decode cX12_plot 97 = .ok (.iadd, 1) := by decide +kernel
theorem dX12_plot_98 : decode cX12_plot 98 = .ok (.iastore, 1) := by decide +kernel
theorem dX12_plot_99 : decode cX12_plot 99 = .ok (.aload_n 0, 1) := by decide +kernel
theorem dX12_plot_100 : decode cX12_plot 100 = .ok (.aload_n 0, 1) := by decide +kernel
theorem dX12_plot_101 : decode cX12_plot 101 = .ok (.getfield 8, 3) := by decide +kernel
theorem dX12_plot_104 : decode cX12_plot 104 = .ok (.iconst 4, 1) := by decide +kernel
theorem dX12_plot_105 : decode cX12_plot 105 = .ok (.iaload, 1) := by decide +kernel
theorem dX12_plot_106 : decode cX12_plot 106 = .ok (.iconst 1, 1) := by decide +kernel
theorem dX12_plot_107 : decode cX12_plot 107 = .ok (.isub, 1) := by decide +kernel
theorem dX12_plot_108 : decode cX12_plot 108 = .ok (.invokevirtual 163, 3) := by decide +kernel
theorem dX12_plot_111 : decode cX12_plot 111 = .ok (.ireturn, 1) := by decide +kernel
theorem dX12_isPlot_0 : decode cX12_isPlot 0 = .ok (.iload_n 1, 1) := by decide +kernel
theorem dX12_isPlot_1 : decode cX12_isPlot 1 = .ok (.i2l, 1) := by decide +kernel
theorem dX12_isPlot_2 : decode cX12_isPlot 2 = .ok (.lconst 0, 1) := by decide +kernel
theorem dX12_isPlot_3 : decode cX12_isPlot 3 = .ok (.aload_n 0, 1) := by decide +kernel
theorem dX12_isPlot_4 : decode cX12_isPlot 4 = .ok (.getfield 8, 3) := by decide +kernel
theorem dX12_isPlot_7 : decode cX12_isPlot 7 = .ok (.iconst 4, 1) := by decide +kernel
theorem dX12_isPlot_8 : decode cX12_isPlot 8 = .ok (.iaload, 1) := by decide +kernel
theorem dX12_isPlot_9 : decode cX12_isPlot 9 = .ok (.i2l, 1) := by decide +kernel
theorem dX12_isPlot_10 : decode cX12_isPlot 10 = .ok (.lconst 1, 1) := by decide +kernel
theorem dX12_isPlot_11 : decode cX12_isPlot 11 = .ok (.lsub, 1) := by decide +kernel
theorem dX12_isPlot_12 : decode cX12_isPlot 12 = .ok (.invokestatic 153, 3) := by decide +kernel
theorem dX12_isPlot_15 : decode cX12_isPlot 15 = .ok (.ireturn, 1) := by decide +kernel
theorem dX12_councilOf_0 : decode cX12_councilOf 0 = .ok (.aload_n 0, 1) := by decide +kernel
theorem dX12_councilOf_1 : decode cX12_councilOf 1 = .ok (.getfield 8, 3) := by decide +kernel
theorem dX12_councilOf_4 : decode cX12_councilOf 4 = .ok (.sipush 23532, 3) := by decide +kernel
theorem dX12_councilOf_7 : decode cX12_councilOf 7 = .ok (.iconst 4, 1) := by decide +kernel
theorem dX12_councilOf_8 : decode cX12_councilOf 8 = .ok (.iload_n 1, 1) := by decide +kernel
theorem dX12_councilOf_9 : decode cX12_councilOf 9 = .ok (.imul, 1) := by decide +kernel
theorem dX12_councilOf_10 : decode cX12_councilOf 10 = .ok (.iadd, 1) := by decide +kernel
theorem dX12_councilOf_11 : decode cX12_councilOf 11 = .ok (.iaload, 1) := by decide +kernel
theorem dX12_councilOf_12 : decode cX12_councilOf 12 = .ok (.ireturn, 1) := by decide +kernel
theorem dX12_kindOf_0 : decode cX12_kindOf 0 = .ok (.aload_n 0, 1) := by decide +kernel
theorem dX12_kindOf_1 : decode cX12_kindOf 1 = .ok (.getfield 8, 3) := by decide +kernel
theorem dX12_kindOf_4 : decode cX12_kindOf 4 = .ok (.sipush 23532, 3) := by decide +kernel
theorem dX12_kindOf_7 : decode cX12_kindOf 7 = .ok (.iconst 4, 1) := by decide +kernel
theorem dX12_kindOf_8 : decode cX12_kindOf 8 = .ok (.iload_n 1, 1) := by decide +kernel
theorem dX12_kindOf_9 : decode cX12_kindOf 9 = .ok (.imul, 1) := by decide +kernel
theorem dX12_kindOf_10 : decode cX12_kindOf 10 = .ok (.iadd, 1) := by decide +kernel
theorem dX12_kindOf_11 : decode cX12_kindOf 11 = .ok (.iconst 1, 1) := by decide +kernel
theorem dX12_kindOf_12 : decode cX12_kindOf 12 = .ok (.iadd, 1) := by decide +kernel
theorem dX12_kindOf_13 : decode cX12_kindOf 13 = .ok (.iaload, 1) := by decide +kernel
theorem dX12_kindOf_14 : decode cX12_kindOf 14 = .ok (.ireturn, 1) := by decide +kernel
theorem dX12_roomsOf_0 : decode cX12_roomsOf 0 = .ok (.aload_n 0, 1) := by decide +kernel
theorem dX12_roomsOf_1 : decode cX12_roomsOf 1 = .ok (.getfield 8, 3) := by decide +kernel
theorem dX12_roomsOf_4 : decode cX12_roomsOf 4 = .ok (.sipush 23532, 3) := by decide +kernel
theorem dX12_roomsOf_7 : decode cX12_roomsOf 7 = .ok (.iconst 4, 1) := by decide +kernel
theorem dX12_roomsOf_8 : decode cX12_roomsOf 8 = .ok (.iload_n 1, 1) := by decide +kernel
theorem dX12_roomsOf_9 : decode cX12_roomsOf 9 = .ok (.imul, 1) := by decide +kernel
theorem dX12_roomsOf_10 : decode cX12_roomsOf 10 = .ok (.iadd, 1) := by decide +kernel
theorem dX12_roomsOf_11 : decode cX12_roomsOf 11 = .ok (.iconst 2, 1) := by decide +kernel
theorem dX12_roomsOf_12 : decode cX12_roomsOf 12 = .ok (.iadd, 1) := by decide +kernel
theorem dX12_roomsOf_13 : decode cX12_roomsOf 13 = .ok (.iaload, 1) := by decide +kernel
theorem dX12_roomsOf_14 : decode cX12_roomsOf 14 = .ok (.ireturn, 1) := by decide +kernel
theorem dX12_start_0 : decode cX12_start 0 = .ok (.aload_n 0, 1) := by decide +kernel
theorem dX12_start_1 : decode cX12_start 1 = .ok (.iconst 0, 1) := by decide +kernel
theorem dX12_start_2 : decode cX12_start 2 = .ok (.putfield 145, 3) := by decide +kernel
theorem dX12_start_5 : decode cX12_start 5 = .ok (.iload_n 2, 1) := by decide +kernel
theorem dX12_start_6 : decode cX12_start 6 = .ok (.invokestatic 387, 3) := by decide +kernel
theorem dX12_start_9 : decode cX12_start 9 = .ok (.ifCond .eq 10, 3) := by decide +kernel
theorem dX12_start_12 : decode cX12_start 12 = .ok (.iload_n 3, 1) := by decide +kernel
theorem dX12_start_13 : decode cX12_start 13 = .ok (.invokestatic 387, 3) := by decide +kernel
theorem dX12_start_16 : decode cX12_start 16 = .ok (.ifCond .ne 9, 3) := by decide +kernel
theorem dX12_start_19 : decode cX12_start 19 = .ok (.aload_n 0, 1) := by decide +kernel
theorem dX12_start_20 : decode cX12_start 20 = .ok (.iconst (-1), 1) := by decide +kernel
theorem dX12_start_21 : decode cX12_start 21 = .ok (.invokevirtual 163, 3) := by decide +kernel
theorem dX12_start_24 : decode cX12_start 24 = .ok (.ireturn, 1) := by decide +kernel
theorem dX12_start_25 : decode cX12_start 25 = .ok (.aload_n 0, 1) := by decide +kernel
theorem dX12_start_26 : decode cX12_start 26 = .ok (.iload_n 1, 1) := by decide +kernel
theorem dX12_start_27 : decode cX12_start 27 = .ok (.invokevirtual 471, 3) := by decide +kernel
theorem dX12_start_30 : decode cX12_start 30 = .ok (.ifCond .ne 10, 3) := by decide +kernel
theorem dX12_start_33 : decode cX12_start 33 = .ok (.aload_n 0, 1) := by decide +kernel
theorem dX12_start_34 : decode cX12_start 34 = .ok (.bipush (-2), 2) := by decide +kernel
theorem dX12_start_36 : decode cX12_start 36 = .ok (.invokevirtual 163, 3) := by decide +kernel
theorem dX12_start_39 : decode cX12_start 39 = .ok (.ireturn, 1) := by decide +kernel
theorem dX12_start_40 : decode cX12_start 40 = .ok (.iconst 0, 1) := by decide +kernel
theorem dX12_start_41 : decode cX12_start 41 = .ok (.istore 4, 2) := by decide +kernel
theorem dX12_start_43 : decode cX12_start 43 = .ok (.iload 4, 2) := by decide +kernel
theorem dX12_start_45 : decode cX12_start 45 = .ok (.aload_n 0, 1) := by decide +kernel
theorem dX12_start_46 : decode cX12_start 46 = .ok (.getfield 170, 3) := by decide +kernel
theorem dX12_start_49 : decode cX12_start 49 = .ok (.if_icmp .ge 27, 3) := by decide +kernel
theorem dX12_start_52 : decode cX12_start 52 = .ok (.aload_n 0, 1) := by decide +kernel
theorem dX12_start_53 : decode cX12_start 53 = .ok (.getfield 103, 3) := by decide +kernel
theorem dX12_start_56 : decode cX12_start 56 = .ok (.iload 4, 2) := by decide +kernel
theorem dX12_start_58 : decode cX12_start 58 = .ok (.iaload, 1) := by decide +kernel
theorem dX12_start_59 : decode cX12_start 59 = .ok (.iload_n 1, 1) := by decide +kernel
theorem dX12_start_60 : decode cX12_start 60 = .ok (.if_icmp .ne 10, 3) := by decide +kernel
theorem dX12_start_63 : decode cX12_start 63 = .ok (.aload_n 0, 1) := by decide +kernel
theorem dX12_start_64 : decode cX12_start 64 = .ok (.bipush (-3), 2) := by decide +kernel
theorem dX12_start_66 : decode cX12_start 66 = .ok (.invokevirtual 163, 3) := by decide +kernel
theorem dX12_start_69 : decode cX12_start 69 = .ok (.ireturn, 1) := by decide +kernel
theorem dX12_start_70 : decode cX12_start 70 = .ok (.iinc 4 1, 3) := by decide +kernel
theorem dX12_start_73 : decode cX12_start 73 = .ok (.goto (-30), 3) := by decide +kernel
theorem dX12_start_76 : decode cX12_start 76 = .ok (.aload_n 0, 1) := by decide +kernel
theorem dX12_start_77 : decode cX12_start 77 = .ok (.getfield 8, 3) := by decide +kernel
theorem dX12_start_80 : decode cX12_start 80 = .ok (.iconst 5, 1) := by decide +kernel
theorem dX12_start_81 : decode cX12_start 81 = .ok (.iaload, 1) := by decide +kernel
theorem dX12_start_82 : decode cX12_start 82 = .ok (.bipush 60, 2) := by decide +kernel
theorem dX12_start_84 : decode cX12_start 84 = .ok (.if_icmp .ne 10, 3) := by decide +kernel
theorem dX12_start_87 : decode cX12_start 87 = .ok (.aload_n 0, 1) := by decide +kernel
theorem dX12_start_88 : decode cX12_start 88 = .ok (.bipush (-5), 2) := by decide +kernel
theorem dX12_start_90 : decode cX12_start 90 = .ok (.invokevirtual 163, 3) := by decide +kernel
theorem dX12_start_93 : decode cX12_start 93 = .ok (.ireturn, 1) := by decide +kernel
theorem dX12_start_94 : decode cX12_start 94 = .ok (.sipush 23652, 3) := by decide +kernel
theorem dX12_start_97 : decode cX12_start 97 = .ok (.iconst 3, 1) := by decide +kernel
theorem dX12_start_98 : decode cX12_start 98 = .ok (.aload_n 0, 1) := by decide +kernel
theorem dX12_start_99 : decode cX12_start 99 = .ok (.getfield 8, 3) := by decide +kernel
theorem dX12_start_102 : decode cX12_start 102 = .ok (.iconst 5, 1) := by decide +kernel
theorem dX12_start_103 : decode cX12_start 103 = .ok (.iaload, 1) := by decide +kernel
theorem dX12_start_104 : decode cX12_start 104 = .ok (.imul, 1) := by decide +kernel
theorem dX12_start_105 : decode cX12_start 105 = .ok (.iadd, 1) := by decide +kernel
theorem dX12_start_106 : decode cX12_start 106 = .ok (.istore 4, 2) := by decide +kernel
theorem dX12_start_108 : decode cX12_start 108 = .ok (.aload_n 0, 1) := by decide +kernel
theorem dX12_start_109 : decode cX12_start 109 = .ok (.getfield 8, 3) := by decide +kernel
theorem dX12_start_112 : decode cX12_start 112 = .ok (.iload 4, 2) := by decide +kernel
theorem dX12_start_114 : decode cX12_start 114 = .ok (.iload_n 1, 1) := by decide +kernel
theorem dX12_start_115 : decode cX12_start 115 = .ok (.iastore, 1) := by decide +kernel
theorem dX12_start_116 : decode cX12_start 116 = .ok (.aload_n 0, 1) := by decide +kernel
theorem dX12_start_117 : decode cX12_start 117 = .ok (.getfield 8, 3) := by decide +kernel
theorem dX12_start_120 : decode cX12_start 120 = .ok (.iload 4, 2) := by decide +kernel
theorem dX12_start_122 : decode cX12_start 122 = .ok (.iconst 1, 1) := by decide +kernel
theorem dX12_start_123 : decode cX12_start 123 = .ok (.iadd, 1) := by decide +kernel
theorem dX12_start_124 : decode cX12_start 124 = .ok (.iload_n 2, 1) := by decide +kernel
theorem dX12_start_125 : decode cX12_start 125 = .ok (.iastore, 1) := by decide +kernel
theorem dX12_start_126 : decode cX12_start 126 = .ok (.aload_n 0, 1) := by decide +kernel
theorem dX12_start_127 : decode cX12_start 127 = .ok (.getfield 8, 3) := by decide +kernel
theorem dX12_start_130 : decode cX12_start 130 = .ok (.iload 4, 2) := by decide +kernel
theorem dX12_start_132 : decode cX12_start 132 = .ok (.iconst 2, 1) := by decide +kernel
theorem dX12_start_133 : decode cX12_start 133 = .ok (.iadd, 1) := by decide +kernel
theorem dX12_start_134 : decode cX12_start 134 = .ok (.iload_n 3, 1) := by decide +kernel
theorem dX12_start_135 : decode cX12_start 135 = .ok (.iastore, 1) := by decide +kernel
theorem dX12_start_136 : decode cX12_start 136 = .ok (.aload_n 0, 1) := by decide +kernel
theorem dX12_start_137 : decode cX12_start 137 = .ok (.getfield 8, 3) := by decide +kernel
theorem dX12_start_140 : decode cX12_start 140 = .ok (.iconst 5, 1) := by decide +kernel
theorem dX12_start_141 : decode cX12_start 141 = .ok (.dup2, 1) := by decide +kernel
theorem dX12_start_142 : decode cX12_start 142 = .ok (.iaload, 1) := by decide +kernel
theorem dX12_start_143 : decode cX12_start 143 = .ok (.iconst 1, 1) := by decide +kernel
theorem dX12_start_144 : decode cX12_start 144 = .ok (.iadd, 1) := by decide +kernel
theorem dX12_start_145 : decode cX12_start 145 = .ok (.iastore, 1) := by decide +kernel
theorem dX12_start_146 : decode cX12_start 146 = .ok (.aload_n 0, 1) := by decide +kernel
theorem dX12_start_147 : decode cX12_start 147 = .ok (.aload_n 0, 1) := by decide +kernel
theorem dX12_start_148 : decode cX12_start 148 = .ok (.getfield 8, 3) := by decide +kernel
theorem dX12_start_151 : decode cX12_start 151 = .ok (.iconst 5, 1) := by decide +kernel
theorem dX12_start_152 : decode cX12_start 152 = .ok (.iaload, 1) := by decide +kernel
theorem dX12_start_153 : decode cX12_start 153 = .ok (.invokevirtual 163, 3) := by decide +kernel
theorem dX12_start_156 : decode cX12_start 156 = .ok (.ireturn, 1) := by decide +kernel
theorem dX12_findStarts_0 : decode cX12_findStarts 0 = .ok (.iconst 0, 1) := by decide +kernel
theorem dX12_findStarts_1 : decode cX12_findStarts 1 = .ok (.istore_n 1, 1) := by decide +kernel
theorem dX12_findStarts_2 : decode cX12_findStarts 2 = .ok (.iload_n 1, 1) := by decide +kernel
theorem dX12_findStarts_3 : decode cX12_findStarts 3 = .ok (.bipush 30, 2) := by decide +kernel
theorem dX12_findStarts_5 : decode cX12_findStarts 5 = .ok (.if_icmp .ge 16, 3) := by decide +kernel
theorem dX12_findStarts_8 : decode cX12_findStarts 8 = .ok (.aload_n 0, 1) := by decide +kernel
theorem dX12_findStarts_9 : decode cX12_findStarts 9 = .ok (.getfield 67, 3) := by decide +kernel
theorem dX12_findStarts_12 : decode cX12_findStarts 12 = .ok (.iload_n 1, 1) := by decide +kernel
theorem dX12_findStarts_13 : decode cX12_findStarts 13 = .ok (.iconst (-1), 1) := by decide +kernel
theorem dX12_findStarts_14 : decode cX12_findStarts 14 = .ok (.iastore, 1) := by decide +kernel
theorem dX12_findStarts_15 : decode cX12_findStarts 15 = .ok (.iinc 1 1, 3) := by decide +kernel
theorem dX12_findStarts_18 : decode cX12_findStarts 18 = .ok (.goto (-16), 3) := by decide +kernel
theorem dX12_findStarts_21 : decode cX12_findStarts 21 = .ok (.aload_n 0, 1) := by decide +kernel
theorem dX12_findStarts_22 : decode cX12_findStarts 22 = .ok (.getfield 8, 3) := by decide +kernel
theorem dX12_findStarts_25 : decode cX12_findStarts 25 = .ok (.iconst 5, 1) := by decide +kernel
theorem dX12_findStarts_26 : decode cX12_findStarts 26 = .ok (.iaload, 1) := by decide +kernel
theorem dX12_findStarts_27 : decode cX12_findStarts 27 = .ok (.iconst 1, 1) := by decide +kernel
theorem dX12_findStarts_28 : decode cX12_findStarts 28 = .ok (.isub, 1) := by decide +kernel
theorem dX12_findStarts_29 : decode cX12_findStarts 29 = .ok (.istore_n 1, 1) := by decide +kernel
theorem dX12_findStarts_30 : decode cX12_findStarts 30 = .ok (.iload_n 1, 1) := by decide +kernel
theorem dX12_findStarts_31 : decode cX12_findStarts 31 = .ok (.ifCond .lt 65, 3) := by decide +kernel
theorem dX12_findStarts_34 : decode cX12_findStarts 34 = .ok (.sipush 23652, 3) := by decide +kernel
theorem dX12_findStarts_37 : decode cX12_findStarts 37 = .ok (.iconst 3, 1) := by decide +kernel
theorem dX12_findStarts_38 : decode cX12_findStarts 38 = .ok (.iload_n 1, 1) := by decide +kernel
theorem dX12_findStarts_39 : decode cX12_findStarts 39 = .ok (.imul, 1) := by decide +kernel
theorem dX12_findStarts_40 : decode cX12_findStarts 40 = .ok (.iadd, 1) := by decide +kernel
theorem dX12_findStarts_41 : decode cX12_findStarts 41 = .ok (.istore_n 2, 1) := by decide +kernel
theorem dX12_findStarts_42 : decode cX12_findStarts 42 = .ok (.aload_n 0, 1) := by decide +kernel
theorem dX12_findStarts_43 : decode cX12_findStarts 43 = .ok (.getfield 67, 3) := by decide +kernel
theorem dX12_findStarts_46 : decode cX12_findStarts 46 = .ok (.aload_n 0, 1) := by decide +kernel
theorem dX12_findStarts_47 : decode cX12_findStarts 47 = .ok (.getfield 8, 3) := by decide +kernel
theorem dX12_findStarts_50 : decode cX12_findStarts 50 = .ok (.iload_n 2, 1) := by decide +kernel
theorem dX12_findStarts_51 : decode cX12_findStarts 51 = .ok (.iaload, 1) := by decide +kernel
theorem dX12_findStarts_52 : decode cX12_findStarts 52 = .ok (.aload_n 0, 1) := by decide +kernel
theorem dX12_findStarts_53 : decode cX12_findStarts 53 = .ok (.getfield 8, 3) := by decide +kernel
theorem dX12_findStarts_56 : decode cX12_findStarts 56 = .ok (.iload_n 2, 1) := by decide +kernel
theorem dX12_findStarts_57 : decode cX12_findStarts 57 = .ok (.iconst 2, 1) := by decide +kernel
theorem dX12_findStarts_58 : decode cX12_findStarts 58 = .ok (.iadd, 1) := by decide +kernel
theorem dX12_findStarts_59 : decode cX12_findStarts 59 = .ok (.iaload, 1) := by decide +kernel
theorem dX12_findStarts_60 : decode cX12_findStarts 60 = .ok (.aload_n 0, 1) := by decide +kernel
theorem dX12_findStarts_61 : decode cX12_findStarts 61 = .ok (.getfield 399, 3) := by decide +kernel
theorem dX12_findStarts_64 : decode cX12_findStarts 64 = .ok (.if_icmp .gt 14, 3) := by decide +kernel
theorem dX12_findStarts_67 : decode cX12_findStarts 67 = .ok (.aload_n 0, 1) := by decide +kernel
theorem dX12_findStarts_68 : decode cX12_findStarts 68 = .ok (.getfield 8, 3) := by decide +kernel
theorem dX12_findStarts_71 : decode cX12_findStarts 71 = .ok (.iload_n 2, 1) := by decide +kernel
theorem dX12_findStarts_72 : decode cX12_findStarts 72 = .ok (.iconst 1, 1) := by decide +kernel
theorem dX12_findStarts_73 : decode cX12_findStarts 73 = .ok (.iadd, 1) := by decide +kernel
theorem dX12_findStarts_74 : decode cX12_findStarts 74 = .ok (.iaload, 1) := by decide +kernel
theorem dX12_findStarts_75 : decode cX12_findStarts 75 = .ok (.goto 14, 3) := by decide +kernel
theorem dX12_findStarts_78 : decode cX12_findStarts 78 = .ok (.aload_n 0, 1) := by decide +kernel
theorem dX12_findStarts_79 : decode cX12_findStarts 79 = .ok (.getfield 67, 3) := by decide +kernel
theorem dX12_findStarts_82 : decode cX12_findStarts 82 = .ok (.aload_n 0, 1) := by decide +kernel
theorem dX12_findStarts_83 : decode cX12_findStarts 83 = .ok (.getfield 8, 3) := by decide +kernel
theorem dX12_findStarts_86 : decode cX12_findStarts 86 = .ok (.iload_n 2, 1) := by decide +kernel
theorem dX12_findStarts_87 : decode cX12_findStarts 87 = .ok (.iaload, 1) := by decide +kernel
theorem dX12_findStarts_88 : decode cX12_findStarts 88 = .ok (.iaload, 1) := by decide +kernel
theorem dX12_findStarts_89 : decode cX12_findStarts 89 = .ok (.iastore, 1) := by decide +kernel
theorem dX12_findStarts_90 : decode cX12_findStarts 90 = .ok (.iinc 1 (-1), 3) := by decide +kernel
theorem dX12_findStarts_93 : decode cX12_findStarts 93 = .ok (.goto (-63), 3) := by decide +kernel
theorem dX12_findStarts_96 : decode cX12_findStarts 96 = .ok (.return_, 1) := by decide +kernel
theorem dX12_license_0 : decode cX12_license 0 = .ok (.iconst 0, 1) := by decide +kernel
theorem dX12_license_1 : decode cX12_license 1 = .ok (.istore_n 1, 1) := by decide +kernel
theorem dX12_license_2 : decode cX12_license 2 = .ok (.iload_n 1, 1) := by decide +kernel
theorem dX12_license_3 : decode cX12_license 3 = .ok (.aload_n 0, 1) := by decide +kernel
theorem dX12_license_4 : decode cX12_license 4 = .ok (.getfield 8, 3) := by decide +kernel
theorem dX12_license_7 : decode cX12_license 7 = .ok (.iconst 4, 1) := by decide +kernel
theorem dX12_license_8 : decode cX12_license 8 = .ok (.iaload, 1) := by decide +kernel
theorem dX12_license_9 : decode cX12_license 9 = .ok (.if_icmp .ge 212, 3) := by decide +kernel
theorem dX12_license_12 : decode cX12_license 12 = .ok (.aload_n 0, 1) := by decide +kernel
theorem dX12_license_13 : decode cX12_license 13 = .ok (.getfield 70, 3) := by decide +kernel
theorem dX12_license_16 : decode cX12_license 16 = .ok (.iload_n 1, 1) := by decide +kernel
theorem dX12_license_17 : decode cX12_license 17 = .ok (.iconst 0, 1) := by decide +kernel
theorem dX12_license_18 : decode cX12_license 18 = .ok (.bastore, 1) := by decide +kernel
theorem dX12_license_19 : decode cX12_license 19 = .ok (.aload_n 0, 1) := by decide +kernel
theorem dX12_license_20 : decode cX12_license 20 = .ok (.getfield 67, 3) := by decide +kernel
theorem dX12_license_23 : decode cX12_license 23 = .ok (.iload_n 1, 1) := by decide +kernel
theorem dX12_license_24 : decode cX12_license 24 = .ok (.iaload, 1) := by decide +kernel
theorem dX12_license_25 : decode cX12_license 25 = .ok (.iconst (-1), 1) := by decide +kernel
theorem dX12_license_26 : decode cX12_license 26 = .ok (.if_icmp .eq 189, 3) := by decide +kernel
theorem dX12_license_29 : decode cX12_license 29 = .ok (.iconst 0, 1) := by decide +kernel
theorem dX12_license_30 : decode cX12_license 30 = .ok (.istore_n 2, 1) := by decide +kernel
theorem dX12_license_31 : decode cX12_license 31 = .ok (.iconst 0, 1) := by decide +kernel
theorem dX12_license_32 : decode cX12_license 32 = .ok (.istore_n 3, 1) := by decide +kernel
theorem dX12_license_33 : decode cX12_license 33 = .ok (.iload_n 3, 1) := by decide +kernel
theorem dX12_license_34 : decode cX12_license 34 = .ok (.aload_n 0, 1) := by decide +kernel
theorem dX12_license_35 : decode cX12_license 35 = .ok (.getfield 8, 3) := by decide +kernel
theorem dX12_license_38 : decode cX12_license 38 = .ok (.iconst 4, 1) := by decide +kernel
theorem dX12_license_39 : decode cX12_license 39 = .ok (.iaload, 1) := by decide +kernel
theorem dX12_license_40 : decode cX12_license 40 = .ok (.if_icmp .ge 121, 3) := by decide +kernel
theorem dX12_license_43 : decode cX12_license 43 = .ok (.aload_n 0, 1) := by decide +kernel
theorem dX12_license_44 : decode cX12_license 44 = .ok (.getfield 67, 3) := by decide +kernel
theorem dX12_license_47 : decode cX12_license 47 = .ok (.iload_n 3, 1) := by decide +kernel
theorem dX12_license_48 : decode cX12_license 48 = .ok (.iaload, 1) := by decide +kernel
theorem dX12_license_49 : decode cX12_license 49 = .ok (.iconst (-1), 1) := by decide +kernel
theorem dX12_license_50 : decode cX12_license 50 = .ok (.if_icmp .eq 54, 3) := by decide +kernel
theorem dX12_license_53 : decode cX12_license 53 = .ok (.aload_n 0, 1) := by decide +kernel
theorem dX12_license_54 : decode cX12_license 54 = .ok (.iload_n 3, 1) := by decide +kernel
theorem dX12_license_55 : decode cX12_license 55 = .ok (.invokevirtual 474, 3) := by decide +kernel
theorem dX12_license_58 : decode cX12_license 58 = .ok (.aload_n 0, 1) := by decide +kernel
theorem dX12_license_59 : decode cX12_license 59 = .ok (.iload_n 1, 1) := by decide +kernel
theorem dX12_license_60 : decode cX12_license 60 = .ok (.invokevirtual 474, 3) := by decide +kernel
theorem dX12_license_63 : decode cX12_license 63 = .ok (.if_icmp .ne 41, 3) := by decide +kernel
theorem dX12_license_66 : decode cX12_license 66 = .ok (.aload_n 0, 1) := by decide +kernel
theorem dX12_license_67 : decode cX12_license 67 = .ok (.iload_n 3, 1) := by decide +kernel
theorem dX12_license_68 : decode cX12_license 68 = .ok (.invokevirtual 477, 3) := by decide +kernel
theorem dX12_license_71 : decode cX12_license 71 = .ok (.aload_n 0, 1) := by decide +kernel
theorem dX12_license_72 : decode cX12_license 72 = .ok (.iload_n 1, 1) := by decide +kernel
theorem dX12_license_73 : decode cX12_license 73 = .ok (.invokevirtual 477, 3) := by decide +kernel
theorem dX12_license_76 : decode cX12_license 76 = .ok (.if_icmp .ne 28, 3) := by decide +kernel
theorem dX12_license_79 : decode cX12_license 79 = .ok (.aload_n 0, 1) := by decide +kernel
theorem dX12_license_80 : decode cX12_license 80 = .ok (.getfield 67, 3) := by decide +kernel
theorem dX12_license_83 : decode cX12_license 83 = .ok (.iload_n 3, 1) := by decide +kernel
theorem dX12_license_84 : decode cX12_license 84 = .ok (.iaload, 1) := by decide +kernel
theorem dX12_license_85 : decode cX12_license 85 = .ok (.bipush 13, 2) := by decide +kernel
theorem dX12_license_87 : decode cX12_license 87 = .ok (.idiv, 1) := by decide +kernel
theorem dX12_license_88 : decode cX12_license 88 = .ok (.aload_n 0, 1) := by decide +kernel
theorem dX12_license_89 : decode cX12_license 89 = .ok (.getfield 67, 3) := by decide +kernel
theorem dX12_license_92 : decode cX12_license 92 = .ok (.iload_n 1, 1) := by decide +kernel
theorem dX12_license_93 : decode cX12_license 93 = .ok (.iaload, 1) := by decide +kernel
theorem dX12_license_94 : decode cX12_license 94 = .ok (.bipush 13, 2) := by decide +kernel
theorem dX12_license_96 : decode cX12_license 96 = .ok (.idiv, 1) := by decide +kernel
theorem dX12_license_97 : decode cX12_license 97 = .ok (.if_icmp .ne 7, 3) := by decide +kernel
theorem dX12_license_100 : decode cX12_license 100 = .ok (.iconst 1, 1) := by decide +kernel
theorem dX12_license_101 : decode cX12_license 101 = .ok (.goto 4, 3) := by decide +kernel
theorem dX12_license_104 : decode cX12_license 104 = .ok (.iconst 0, 1) := by decide +kernel
theorem dX12_license_105 : decode cX12_license 105 = .ok (.istore 4, 2) := by decide +kernel
theorem dX12_license_107 : decode cX12_license 107 = .ok (.iload_n 2, 1) := by decide +kernel
theorem dX12_license_108 : decode cX12_license 108 = .ok (.iload 4, 2) := by decide +kernel
theorem dX12_license_110 : decode cX12_license 110 = .ok (.ifCond .eq 42, 3) := by decide +kernel
theorem dX12_license_113 : decode cX12_license 113 = .ok (.aload_n 0, 1) := by decide +kernel
theorem dX12_license_114 : decode cX12_license 114 = .ok (.getfield 67, 3) := by decide +kernel
theorem dX12_license_117 : decode cX12_license 117 = .ok (.iload_n 3, 1) := by decide +kernel
theorem dX12_license_118 : decode cX12_license 118 = .ok (.iaload, 1) := by decide +kernel
theorem dX12_license_119 : decode cX12_license 119 = .ok (.aload_n 0, 1) := by decide +kernel
theorem dX12_license_120 : decode cX12_license 120 = .ok (.getfield 67, 3) := by decide +kernel
theorem dX12_license_123 : decode cX12_license 123 = .ok (.iload_n 1, 1) := by decide +kernel
theorem dX12_license_124 : decode cX12_license 124 = .ok (.iaload, 1) := by decide +kernel
theorem dX12_license_125 : decode cX12_license 125 = .ok (.if_icmp .lt 23, 3) := by decide +kernel
theorem dX12_license_128 : decode cX12_license 128 = .ok (.aload_n 0, 1) := by decide +kernel
theorem dX12_license_129 : decode cX12_license 129 = .ok (.getfield 67, 3) := by decide +kernel
theorem dX12_license_132 : decode cX12_license 132 = .ok (.iload_n 3, 1) := by decide +kernel
theorem dX12_license_133 : decode cX12_license 133 = .ok (.iaload, 1) := by decide +kernel
theorem dX12_license_134 : decode cX12_license 134 = .ok (.aload_n 0, 1) := by decide +kernel
theorem dX12_license_135 : decode cX12_license 135 = .ok (.getfield 67, 3) := by decide +kernel
theorem dX12_license_138 : decode cX12_license 138 = .ok (.iload_n 1, 1) := by decide +kernel
theorem dX12_license_139 : decode cX12_license 139 = .ok (.iaload, 1) := by decide +kernel
theorem dX12_license_140 : decode cX12_license 140 = .ok (.if_icmp .ne 12, 3) := by decide +kernel
theorem dX12_license_143 : decode cX12_license 143 = .ok (.iload_n 3, 1) := by decide +kernel
theorem dX12_license_144 : decode cX12_license 144 = .ok (.iload_n 1, 1) := by decide +kernel
theorem dX12_license_145 : decode cX12_license 145 = .ok (.if_icmp .ge 7, 3) := by decide +kernel
theorem dX12_license_148 : decode cX12_license 148 = .ok (.iconst 1, 1) := by decide +kernel
theorem dX12_license_149 : decode cX12_license 149 = .ok (.goto 4, 3) := by decide +kernel
theorem dX12_license_152 : decode cX12_license 152 = .ok (.iconst 0, 1) := by decide +kernel
theorem dX12_license_153 : decode cX12_license 153 = .ok (.iadd, 1) := by decide +kernel
theorem dX12_license_154 : decode cX12_license 154 = .ok (.istore_n 2, 1) := by decide +kernel
theorem dX12_license_155 : decode cX12_license 155 = .ok (.iinc 3 1, 3) := by decide +kernel
theorem dX12_license_158 : decode cX12_license 158 = .ok (.goto (-125), 3) := by decide +kernel
theorem dX12_license_161 : decode cX12_license 161 = .ok (.aload_n 0, 1) := by decide +kernel
theorem dX12_license_162 : decode cX12_license 162 = .ok (.getfield 67, 3) := by decide +kernel
theorem dX12_license_165 : decode cX12_license 165 = .ok (.iload_n 1, 1) := by decide +kernel
theorem dX12_license_166 : decode cX12_license 166 = .ok (.iaload, 1) := by decide +kernel
theorem dX12_license_167 : decode cX12_license 167 = .ok (.bipush 13, 2) := by decide +kernel
theorem dX12_license_169 : decode cX12_license 169 = .ok (.idiv, 1) := by decide +kernel
theorem dX12_license_170 : decode cX12_license 170 = .ok (.bipush 13, 2) := by decide +kernel
theorem dX12_license_172 : decode cX12_license 172 = .ok (.imul, 1) := by decide +kernel
theorem dX12_license_173 : decode cX12_license 173 = .ok (.istore_n 3, 1) := by decide +kernel
theorem dX12_license_174 : decode cX12_license 174 = .ok (.aload_n 0, 1) := by decide +kernel
theorem dX12_license_175 : decode cX12_license 175 = .ok (.iconst 0, 1) := by decide +kernel
theorem dX12_license_176 : decode cX12_license 176 = .ok (.iload_n 3, 1) := by decide +kernel
theorem dX12_license_177 : decode cX12_license 177 = .ok (.invokevirtual 440, 3) := by decide +kernel
theorem dX12_license_180 : decode cX12_license 180 = .ok (.aload_n 0, 1) := by decide +kernel
theorem dX12_license_181 : decode cX12_license 181 = .ok (.getfield 70, 3) := by decide +kernel
theorem dX12_license_184 : decode cX12_license 184 = .ok (.iload_n 1, 1) := by decide +kernel
theorem dX12_license_185 : decode cX12_license 185 = .ok (.aload_n 0, 1) := by decide +kernel
theorem dX12_license_186 : decode cX12_license 186 = .ok (.iconst 4, 1) := by decide +kernel
theorem dX12_license_187 : decode cX12_license 187 = .ok (.aload_n 0, 1) := by decide +kernel
theorem dX12_license_188 : decode cX12_license 188 = .ok (.iload_n 1, 1) := by decide +kernel
theorem dX12_license_189 : decode cX12_license 189 = .ok (.invokevirtual 477, 3) := by decide +kernel
theorem dX12_license_192 : decode cX12_license 192 = .ok (.iconst 0, 1) := by decide +kernel
theorem dX12_license_193 : decode cX12_license 193 = .ok (.iconst 0, 1) := by decide +kernel
theorem dX12_license_194 : decode cX12_license 194 = .ok (.iload_n 3, 1) := by decide +kernel
theorem dX12_license_195 : decode cX12_license 195 = .ok (.invokevirtual 443, 3) := by decide +kernel
theorem dX12_license_198 : decode cX12_license 198 = .ok (.ifCond .eq 11, 3) := by decide +kernel
theorem dX12_license_201 : decode cX12_license 201 = .ok (.iload_n 2, 1) := by decide +kernel
theorem dX12_license_202 : decode cX12_license 202 = .ok (.aload_n 0, 1) := by decide +kernel
theorem dX12_license_203 : decode cX12_license 203 = .ok (.invokevirtual 447, 3) := by decide +kernel
theorem dX12_license_206 : decode cX12_license 206 = .ok (.if_icmp .ge 7, 3) := by decide +kernel
theorem dX12_license_209 : decode cX12_license 209 = .ok (.iconst 1, 1) := by decide +kernel
theorem dX12_license_210 : decode cX12_license 210 = .ok (.goto 4, 3) := by decide +kernel
theorem dX12_license_213 : decode cX12_license 213 = .ok (.iconst 0, 1) := by decide +kernel
theorem dX12_license_214 : decode cX12_license 214 = .ok (.bastore, 1) := by decide +kernel
theorem dX12_license_215 : decode cX12_license 215 = .ok (.iinc 1 1, 3) := by decide +kernel
theorem dX12_license_218 : decode cX12_license 218 = .ok (.goto (-216), 3) := by decide +kernel
theorem dX12_license_221 : decode cX12_license 221 = .ok (.return_, 1) := by decide +kernel
theorem dX12_beginRun_0 : decode cX12_beginRun 0 = .ok (.aload_n 0, 1) := by decide +kernel
theorem dX12_beginRun_1 : decode cX12_beginRun 1 = .ok (.iload_n 1, 1) := by decide +kernel
theorem dX12_beginRun_2 : decode cX12_beginRun 2 = .ok (.putfield 480, 3) := by decide +kernel
theorem dX12_beginRun_5 : decode cX12_beginRun 5 = .ok (.aload_n 0, 1) := by decide +kernel
theorem dX12_beginRun_6 : decode cX12_beginRun 6 = .ok (.invokevirtual 483, 3) := by decide +kernel
theorem dX12_beginRun_9 : decode cX12_beginRun 9 = .ok (.aload_n 0, 1) := by decide +kernel
theorem dX12_beginRun_10 : decode cX12_beginRun 10 = .ok (.invokevirtual 486, 3) := by decide +kernel
theorem dX12_beginRun_13 : decode cX12_beginRun 13 = .ok (.iconst 0, 1) := by decide +kernel
theorem dX12_beginRun_14 : decode cX12_beginRun 14 = .ok (.istore_n 2, 1) := by decide +kernel
theorem dX12_beginRun_15 : decode cX12_beginRun 15 = .ok (.iload_n 2, 1) := by decide +kernel
theorem dX12_beginRun_16 : decode cX12_beginRun 16 = .ok (.iconst 5, 1) := by decide +kernel
theorem dX12_beginRun_17 : decode cX12_beginRun 17 = .ok (.if_icmp .ge 16, 3) := by decide +kernel
theorem dX12_beginRun_20 : decode cX12_beginRun 20 = .ok (.aload_n 0, 1) := by decide +kernel
theorem dX12_beginRun_21 : decode cX12_beginRun 21 = .ok (.getfield 73, 3) := by decide +kernel
theorem dX12_beginRun_24 : decode cX12_beginRun 24 = .ok (.iload_n 2, 1) := by decide +kernel
theorem dX12_beginRun_25 : decode cX12_beginRun 25 = .ok (.iconst 0, 1) := by decide +kernel
theorem dX12_beginRun_26 : decode cX12_beginRun 26 = .ok (.iastore, 1) := by decide +kernel
theorem dX12_beginRun_27 : decode cX12_beginRun 27 = .ok (.iinc 2 1, 3) := by decide +kernel
theorem dX12_beginRun_30 : decode cX12_beginRun 30 = .ok (.goto (-15), 3) := by decide +kernel
theorem dX12_beginRun_33 : decode cX12_beginRun 33 = .ok (.iconst 0, 1) := by decide +kernel
theorem dX12_beginRun_34 : decode cX12_beginRun 34 = .ok (.istore_n 2, 1) := by decide +kernel
theorem dX12_beginRun_35 : decode cX12_beginRun 35 = .ok (.iload_n 2, 1) := by decide +kernel
theorem dX12_beginRun_36 : decode cX12_beginRun 36 = .ok (.bipush 30, 2) := by decide +kernel
theorem dX12_beginRun_38 : decode cX12_beginRun 38 = .ok (.if_icmp .ge 37, 3) := by decide +kernel
theorem dX12_beginRun_41 : decode cX12_beginRun 41 = .ok (.aload_n 0, 1) := by decide +kernel
theorem dX12_beginRun_42 : decode cX12_beginRun 42 = .ok (.getfield 79, 3) := by decide +kernel
theorem dX12_beginRun_45 : decode cX12_beginRun 45 = .ok (.iload_n 2, 1) := by decide +kernel
theorem dX12_beginRun_46 : decode cX12_beginRun 46 = .ok (.iconst 0, 1) := by decide +kernel
theorem dX12_beginRun_47 : decode cX12_beginRun 47 = .ok (.iastore, 1) := by decide +kernel
theorem dX12_beginRun_48 : decode cX12_beginRun 48 = .ok (.aload_n 0, 1) := by decide +kernel
theorem dX12_beginRun_49 : decode cX12_beginRun 49 = .ok (.getfield 82, 3) := by decide +kernel
theorem dX12_beginRun_52 : decode cX12_beginRun 52 = .ok (.iload_n 2, 1) := by decide +kernel
theorem dX12_beginRun_53 : decode cX12_beginRun 53 = .ok (.iconst 0, 1) := by decide +kernel
theorem dX12_beginRun_54 : decode cX12_beginRun 54 = .ok (.bastore, 1) := by decide +kernel
theorem dX12_beginRun_55 : decode cX12_beginRun 55 = .ok (.aload_n 0, 1) := by decide +kernel
theorem dX12_beginRun_56 : decode cX12_beginRun 56 = .ok (.getfield 85, 3) := by decide +kernel
theorem dX12_beginRun_59 : decode cX12_beginRun 59 = .ok (.iload_n 2, 1) := by decide +kernel
theorem dX12_beginRun_60 : decode cX12_beginRun 60 = .ok (.iconst 0, 1) := by decide +kernel
theorem dX12_beginRun_61 : decode cX12_beginRun 61 = .ok (.iastore, 1) := by decide +kernel
theorem dX12_beginRun_62 : decode cX12_beginRun 62 = .ok (.aload_n 0, 1) := by decide +kernel
theorem dX12_beginRun_63 : decode cX12_beginRun 63 = .ok (.getfield 88, 3) := by decide +kernel
theorem dX12_beginRun_66 : decode cX12_beginRun 66 = .ok (.iload_n 2, 1) := by decide +kernel
theorem dX12_beginRun_67 : decode cX12_beginRun 67 = .ok (.iconst 0, 1) := by decide +kernel
theorem dX12_beginRun_68 : decode cX12_beginRun 68 = .ok (.bastore, 1) := by decide +kernel
theorem dX12_beginRun_69 : decode cX12_beginRun 69 = .ok (.iinc 2 1, 3) := by decide +kernel
theorem dX12_beginRun_72 : decode cX12_beginRun 72 = .ok (.goto (-37), 3) := by decide +kernel
theorem dX12_beginRun_75 : decode cX12_beginRun 75 = .ok (.iconst 0, 1) := by decide +kernel
theorem dX12_beginRun_76 : decode cX12_beginRun 76 = .ok (.istore_n 2, 1) := by decide +kernel
theorem dX12_beginRun_77 : decode cX12_beginRun 77 = .ok (.iload_n 2, 1) := by decide +kernel
theorem dX12_beginRun_78 : decode cX12_beginRun 78 = .ok (.bipush 90, 2) := by decide +kernel
theorem dX12_beginRun_80 : decode cX12_beginRun 80 = .ok (.if_icmp .ge 23, 3) := by decide +kernel
theorem dX12_beginRun_83 : decode cX12_beginRun 83 = .ok (.aload_n 0, 1) := by decide +kernel
theorem dX12_beginRun_84 : decode cX12_beginRun 84 = .ok (.getfield 91, 3) := by decide +kernel
theorem dX12_beginRun_87 : decode cX12_beginRun 87 = .ok (.iload_n 2, 1) := by decide +kernel
theorem dX12_beginRun_88 : decode cX12_beginRun 88 = .ok (.iconst (-1), 1) := by decide +kernel
theorem dX12_beginRun_89 : decode cX12_beginRun 89 = .ok (.iastore, 1) := by decide +kernel
theorem dX12_beginRun_90 : decode cX12_beginRun 90 = .ok (.aload_n 0, 1) := by decide +kernel
theorem dX12_beginRun_91 : decode cX12_beginRun 91 = .ok (.getfield 94, 3) := by decide +kernel
theorem dX12_beginRun_94 : decode cX12_beginRun 94 = .ok (.iload_n 2, 1) := by decide +kernel
theorem dX12_beginRun_95 : decode cX12_beginRun 95 = .ok (.iconst (-1), 1) := by decide +kernel
theorem dX12_beginRun_96 : decode cX12_beginRun 96 = .ok (.iastore, 1) := by decide +kernel
theorem dX12_beginRun_97 : decode cX12_beginRun 97 = .ok (.iinc 2 1, 3) := by decide +kernel
theorem dX12_beginRun_100 : decode cX12_beginRun 100 = .ok (.goto (-23), 3) := by decide +kernel
theorem dX12_beginRun_103 : decode cX12_beginRun 103 = .ok (.return_, 1) := by decide +kernel
theorem dX12_gangsOf_0 : decode cX12_gangsOf 0 = .ok (.iconst 0, 1) := by decide +kernel
theorem dX12_gangsOf_1 : decode cX12_gangsOf 1 = .ok (.istore_n 3, 1) := by decide +kernel
theorem dX12_gangsOf_2 : decode cX12_gangsOf 2 = .ok (.iconst (-1), 1) := by decide +kernel
theorem dX12_gangsOf_3 : decode cX12_gangsOf 3 = .ok (.istore 4, 2) := by decide +kernel
theorem dX12_gangsOf_5 : decode cX12_gangsOf 5 = .ok (.iconst 0, 1) := by decide +kernel
theorem dX12_gangsOf_6 : decode cX12_gangsOf 6 = .ok (.istore 5, 2) := by decide +kernel
theorem dX12_gangsOf_8 : decode cX12_gangsOf 8 = .ok (.iload 5, 2) := by decide +kernel
theorem dX12_gangsOf_10 : decode cX12_gangsOf 10 = .ok (.aload_n 0, 1) := by decide +kernel
theorem dX12_gangsOf_11 : decode cX12_gangsOf 11 = .ok (.getfield 8, 3) := by decide +kernel
theorem dX12_gangsOf_14 : decode cX12_gangsOf 14 = .ok (.iconst 3, 1) := by decide +kernel
theorem dX12_gangsOf_15 : decode cX12_gangsOf 15 = .ok (.iaload, 1) := by decide +kernel
theorem dX12_gangsOf_16 : decode cX12_gangsOf 16 = .ok (.if_icmp .ge 94, 3) := by decide +kernel
theorem dX12_gangsOf_19 : decode cX12_gangsOf 19 = .ok (.sipush 23292, 3) := by decide +kernel
theorem dX12_gangsOf_22 : decode cX12_gangsOf 22 = .ok (.iconst 4, 1) := by decide +kernel
theorem dX12_gangsOf_23 : decode cX12_gangsOf 23 = .ok (.iload 5, 2) := by decide +kernel
theorem dX12_gangsOf_25 : decode cX12_gangsOf 25 = .ok (.imul, 1) := by decide +kernel
theorem dX12_gangsOf_26 : decode cX12_gangsOf 26 = .ok (.iadd, 1) := by decide +kernel
theorem dX12_gangsOf_27 : decode cX12_gangsOf 27 = .ok (.istore 6, 2) := by decide +kernel
theorem dX12_gangsOf_29 : decode cX12_gangsOf 29 = .ok (.aload_n 0, 1) := by decide +kernel
theorem dX12_gangsOf_30 : decode cX12_gangsOf 30 = .ok (.getfield 8, 3) := by decide +kernel
theorem dX12_gangsOf_33 : decode cX12_gangsOf 33 = .ok (.iload 6, 2) := by decide +kernel
theorem dX12_gangsOf_35 : decode cX12_gangsOf 35 = .ok (.iaload, 1) := by decide +kernel
theorem dX12_gangsOf_36 : decode cX12_gangsOf 36 = .ok (.iload_n 1, 1) := by decide +kernel
theorem dX12_gangsOf_37 : decode cX12_gangsOf 37 = .ok (.if_icmp .ne 67, 3) := by decide +kernel
theorem dX12_gangsOf_40 : decode cX12_gangsOf 40 = .ok (.aload_n 0, 1) := by decide +kernel
theorem dX12_gangsOf_41 : decode cX12_gangsOf 41 = .ok (.getfield 8, 3) := by decide +kernel
theorem dX12_gangsOf_44 : decode cX12_gangsOf 44 = .ok (.iload 6, 2) := by decide +kernel
theorem dX12_gangsOf_46 : decode cX12_gangsOf 46 = .ok (.iconst 3, 1) := by decide +kernel
theorem dX12_gangsOf_47 : decode cX12_gangsOf 47 = .ok (.iadd, 1) := by decide +kernel
theorem dX12_gangsOf_48 : decode cX12_gangsOf 48 = .ok (.iaload, 1) := by decide +kernel
theorem dX12_gangsOf_49 : decode cX12_gangsOf 49 = .ok (.aload_n 0, 1) := by decide +kernel
theorem dX12_gangsOf_50 : decode cX12_gangsOf 50 = .ok (.getfield 399, 3) := by decide +kernel
theorem dX12_gangsOf_53 : decode cX12_gangsOf 53 = .ok (.if_icmp .gt 51, 3) := by decide +kernel
theorem dX12_gangsOf_56 : decode cX12_gangsOf 56 = .ok (.aload_n 0, 1) := by decide +kernel
theorem dX12_gangsOf_57 : decode cX12_gangsOf 57 = .ok (.getfield 8, 3) := by decide +kernel
theorem dX12_gangsOf_60 : decode cX12_gangsOf 60 = .ok (.iload 6, 2) := by decide +kernel
theorem dX12_gangsOf_62 : decode cX12_gangsOf 62 = .ok (.iconst 2, 1) := by decide +kernel
theorem dX12_gangsOf_63 : decode cX12_gangsOf 63 = .ok (.iadd, 1) := by decide +kernel
theorem dX12_gangsOf_64 : decode cX12_gangsOf 64 = .ok (.iaload, 1) := by decide +kernel
theorem dX12_gangsOf_65 : decode cX12_gangsOf 65 = .ok (.iload_n 2, 1) := by decide +kernel
theorem dX12_gangsOf_66 : decode cX12_gangsOf 66 = .ok (.if_icmp .gt 38, 3) := by decide +kernel
theorem dX12_gangsOf_69 : decode cX12_gangsOf 69 = .ok (.aload_n 0, 1) := by decide +kernel
theorem dX12_gangsOf_70 : decode cX12_gangsOf 70 = .ok (.getfield 8, 3) := by decide +kernel
theorem dX12_gangsOf_73 : decode cX12_gangsOf 73 = .ok (.iload 6, 2) := by decide +kernel
theorem dX12_gangsOf_75 : decode cX12_gangsOf 75 = .ok (.iconst 2, 1) := by decide +kernel
theorem dX12_gangsOf_76 : decode cX12_gangsOf 76 = .ok (.iadd, 1) := by decide +kernel
theorem dX12_gangsOf_77 : decode cX12_gangsOf 77 = .ok (.iaload, 1) := by decide +kernel
theorem dX12_gangsOf_78 : decode cX12_gangsOf 78 = .ok (.iload 4, 2) := by decide +kernel
theorem dX12_gangsOf_80 : decode cX12_gangsOf 80 = .ok (.if_icmp .lt 24, 3) := by decide +kernel
theorem dX12_gangsOf_83 : decode cX12_gangsOf 83 = .ok (.aload_n 0, 1) := by decide +kernel
theorem dX12_gangsOf_84 : decode cX12_gangsOf 84 = .ok (.getfield 8, 3) := by decide +kernel
theorem dX12_gangsOf_87 : decode cX12_gangsOf 87 = .ok (.iload 6, 2) := by decide +kernel
theorem dX12_gangsOf_89 : decode cX12_gangsOf 89 = .ok (.iconst 2, 1) := by decide +kernel
theorem dX12_gangsOf_90 : decode cX12_gangsOf 90 = .ok (.iadd, 1) := by decide +kernel
theorem dX12_gangsOf_91 : decode cX12_gangsOf 91 = .ok (.iaload, 1) := by decide +kernel
theorem dX12_gangsOf_92 : decode cX12_gangsOf 92 = .ok (.istore 4, 2) := by decide +kernel
theorem dX12_gangsOf_94 : decode cX12_gangsOf 94 = .ok (.aload_n 0, 1) := by decide +kernel
theorem dX12_gangsOf_95 : decode cX12_gangsOf 95 = .ok (.getfield 8, 3) := by decide +kernel
theorem dX12_gangsOf_98 : decode cX12_gangsOf 98 = .ok (.iload 6, 2) := by decide +kernel
theorem dX12_gangsOf_100 : decode cX12_gangsOf 100 = .ok (.iconst 1, 1) := by decide +kernel
theorem dX12_gangsOf_101 : decode cX12_gangsOf 101 = .ok (.iadd, 1) := by decide +kernel
theorem dX12_gangsOf_102 : decode cX12_gangsOf 102 = .ok (.iaload, 1) := by decide +kernel
theorem dX12_gangsOf_103 : decode cX12_gangsOf 103 = .ok (.istore_n 3, 1) := by decide +kernel
theorem dX12_gangsOf_104 : decode cX12_gangsOf 104 = .ok (.iinc 5 1, 3) := by decide +kernel
theorem dX12_gangsOf_107 : decode cX12_gangsOf 107 = .ok (.goto (-99), 3) := by decide +kernel
theorem dX12_gangsOf_110 : decode cX12_gangsOf 110 = .ok (.iload_n 3, 1) := by decide +kernel
theorem dX12_gangsOf_111 : decode cX12_gangsOf 111 = .ok (.ireturn, 1) := by decide +kernel
theorem dX12_doWork_0 : decode cX12_doWork 0 = .ok (.aload_n 0, 1) := by decide +kernel
theorem dX12_doWork_1 : decode cX12_doWork 1 = .ok (.getfield 8, 3) := by decide +kernel
theorem dX12_doWork_4 : decode cX12_doWork 4 = .ok (.iload_n 1, 1) := by decide +kernel
theorem dX12_doWork_5 : decode cX12_doWork 5 = .ok (.bipush 7, 2) := by decide +kernel
theorem dX12_doWork_7 : decode cX12_doWork 7 = .ok (.iadd, 1) := by decide +kernel
theorem dX12_doWork_8 : decode cX12_doWork 8 = .ok (.iaload, 1) := by decide +kernel
theorem dX12_doWork_9 : decode cX12_doWork 9 = .ok (.iload_n 2, 1) := by decide +kernel
theorem dX12_doWork_10 : decode cX12_doWork 10 = .ok (.if_icmp .le 4, 3) := by decide +kernel
theorem dX12_doWork_13 : decode cX12_doWork 13 = .ok (.return_, 1) := by decide +kernel
theorem dX12_doWork_14 : decode cX12_doWork 14 = .ok (.aload_n 0, 1) := by decide +kernel
theorem dX12_doWork_15 : decode cX12_doWork 15 = .ok (.getfield 8, 3) := by decide +kernel
theorem dX12_doWork_18 : decode cX12_doWork 18 = .ok (.iload_n 1, 1) := by decide +kernel
theorem dX12_doWork_19 : decode cX12_doWork 19 = .ok (.iaload, 1) := by decide +kernel
theorem dX12_doWork_20 : decode cX12_doWork 20 = .ok (.istore_n 3, 1) := by decide +kernel
theorem dX12_doWork_21 : decode cX12_doWork 21 = .ok (.aload_n 0, 1) := by decide +kernel
theorem dX12_doWork_22 : decode cX12_doWork 22 = .ok (.getfield 8, 3) := by decide +kernel
theorem dX12_doWork_25 : decode cX12_doWork 25 = .ok (.iload_n 1, 1) := by decide +kernel
theorem dX12_doWork_26 : decode cX12_doWork 26 = .ok (.iconst 2, 1) := by decide +kernel
theorem dX12_doWork_27 : decode cX12_doWork 27 = .ok (.iadd, 1) := by decide +kernel
theorem dX12_doWork_28 : decode cX12_doWork 28 = .ok (.iaload, 1) := by decide +kernel
theorem dX12_doWork_29 : decode cX12_doWork 29 = .ok (.istore 4, 2) := by decide +kernel
theorem dX12_doWork_31 : decode cX12_doWork 31 = .ok (.aload_n 0, 1) := by decide +kernel
theorem dX12_doWork_32 : decode cX12_doWork 32 = .ok (.getfield 8, 3) := by decide +kernel
theorem dX12_doWork_35 : decode cX12_doWork 35 = .ok (.iload_n 1, 1) := by decide +kernel
theorem dX12_doWork_36 : decode cX12_doWork 36 = .ok (.iconst 1, 1) := by decide +kernel
theorem dX12_doWork_37 : decode cX12_doWork 37 = .ok (.iadd, 1) := by decide +kernel
theorem dX12_doWork_38 : decode cX12_doWork 38 = .ok (.iaload, 1) := by decide +kernel
theorem dX12_doWork_39 : decode cX12_doWork 39 = .ok (.iload_n 3, 1) := by decide +kernel
theorem dX12_doWork_40 : decode cX12_doWork 40 = .ok (.iload 4, 2) := by decide +kernel
theorem dX12_doWork_42 : decode cX12_doWork 42 = .ok (.if_icmp .ne 14, 3) := by decide +kernel
theorem dX12_doWork_45 : decode cX12_doWork 45 = .ok (.aload_n 0, 1) := by decide +kernel
theorem dX12_doWork_46 : decode cX12_doWork 46 = .ok (.getfield 8, 3) := by decide +kernel
theorem dX12_doWork_49 : decode cX12_doWork 49 = .ok (.iload_n 1, 1) := by decide +kernel
theorem dX12_doWork_50 : decode cX12_doWork 50 = .ok (.iconst 3, 1) := by decide +kernel
theorem dX12_doWork_51 : decode cX12_doWork 51 = .ok (.iadd, 1) := by decide +kernel
theorem dX12_doWork_52 : decode cX12_doWork 52 = .ok (.iaload, 1) := by decide +kernel
theorem dX12_doWork_53 : decode cX12_doWork 53 = .ok (.goto 4, 3) := by decide +kernel
theorem dX12_doWork_56 : decode cX12_doWork 56 = .ok (.iconst 0, 1) := by decide +kernel
theorem dX12_doWork_57 : decode cX12_doWork 57 = .ok (.iadd, 1) := by decide +kernel
theorem dX12_doWork_58 : decode cX12_doWork 58 = .ok (.istore 5, 2) := by decide +kernel
theorem dX12_doWork_60 : decode cX12_doWork 60 = .ok (.iload_n 3, 1) := by decide +kernel
theorem dX12_doWork_61 : decode cX12_doWork 61 = .ok (.iload 4, 2) := by decide +kernel
theorem dX12_doWork_63 : decode cX12_doWork 63 = .ok (.if_icmp .ne 7, 3) := by decide +kernel
theorem dX12_doWork_66 : decode cX12_doWork 66 = .ok (.iconst 0, 1) := by decide +kernel
theorem dX12_doWork_67 : decode cX12_doWork 67 = .ok (.goto 11, 3) := by decide +kernel
theorem dX12_doWork_70 : decode cX12_doWork 70 = .ok (.aload_n 0, 1) := by decide +kernel
theorem dX12_doWork_71 : decode cX12_doWork 71 = .ok (.getfield 8, 3) := by decide +kernel
theorem dX12_doWork_74 : decode cX12_doWork 74 = .ok (.iload_n 1, 1) := by decide +kernel
theorem dX12_doWork_75 : decode cX12_doWork 75 = .ok (.iconst 3, 1) := by decide +kernel
theorem dX12_doWork_76 : decode cX12_doWork 76 = .ok (.iadd, 1) := by decide +kernel
theorem dX12_doWork_77 : decode cX12_doWork 77 = .ok (.iaload, 1) := by decide +kernel
theorem dX12_doWork_78 : decode cX12_doWork 78 = .ok (.istore 6, 2) := by decide +kernel
theorem dX12_doWork_80 : decode cX12_doWork 80 = .ok (.aload_n 0, 1) := by decide +kernel
theorem dX12_doWork_81 : decode cX12_doWork 81 = .ok (.getfield 8, 3) := by decide +kernel
theorem dX12_doWork_84 : decode cX12_doWork 84 = .ok (.iload_n 1, 1) := by decide +kernel
theorem dX12_doWork_85 : decode cX12_doWork 85 = .ok (.bipush 6, 2) := by decide +kernel
theorem dX12_doWork_87 : decode cX12_doWork 87 = .ok (.iadd, 1) := by decide +kernel
theorem dX12_doWork_88 : decode cX12_doWork 88 = .ok (.iaload, 1) := by decide +kernel
theorem dX12_doWork_89 : decode cX12_doWork 89 = .ok (.istore 7, 2) := by decide +kernel
theorem dX12_doWork_91 : decode cX12_doWork 91 = .ok (.iload 5, 2) := by decide +kernel
theorem dX12_doWork_93 : decode cX12_doWork 93 = .ok (.ifCond .le 29, 3) := by decide +kernel
theorem dX12_doWork_96 : decode cX12_doWork 96 = .ok (.aload_n 0, 1) := by decide +kernel
theorem dX12_doWork_97 : decode cX12_doWork 97 = .ok (.getfield 73, 3) := by decide +kernel
theorem dX12_doWork_100 : decode cX12_doWork 100 = .ok (.iload_n 3, 1) := by decide +kernel
theorem dX12_doWork_101 : decode cX12_doWork 101 = .ok (.iaload, 1) := by decide +kernel
theorem dX12_doWork_102 : decode cX12_doWork 102 = .ok (.iload 5, 2) := by decide +kernel
theorem dX12_doWork_104 : decode cX12_doWork 104 = .ok (.idiv, 1) := by decide +kernel
theorem dX12_doWork_105 : decode cX12_doWork 105 = .ok (.iload 7, 2) := by decide +kernel
theorem dX12_doWork_107 : decode cX12_doWork 107 = .ok (.if_icmp .ge 15, 3) := by decide +kernel
theorem dX12_doWork_110 : decode cX12_doWork 110 = .ok (.aload_n 0, 1) := by decide +kernel
theorem dX12_doWork_111 : decode cX12_doWork 111 = .ok (.getfield 73, 3) := by decide +kernel
theorem dX12_doWork_114 : decode cX12_doWork 114 = .ok (.iload_n 3, 1) := by decide +kernel
theorem dX12_doWork_115 : decode cX12_doWork 115 = .ok (.iaload, 1) := by decide +kernel
theorem dX12_doWork_116 : decode cX12_doWork 116 = .ok (.iload 5, 2) := by decide +kernel
theorem dX12_doWork_118 : decode cX12_doWork 118 = .ok (.idiv, 1) := by decide +kernel
theorem dX12_doWork_119 : decode cX12_doWork 119 = .ok (.goto 5, 3) := by decide +kernel
theorem dX12_doWork_122 : decode cX12_doWork 122 = .ok (.iload 7, 2) := by decide +kernel
theorem dX12_doWork_124 : decode cX12_doWork 124 = .ok (.istore 7, 2) := by decide +kernel
theorem dX12_doWork_126 : decode cX12_doWork 126 = .ok (.iload 6, 2) := by decide +kernel
theorem dX12_doWork_128 : decode cX12_doWork 128 = .ok (.ifCond .le 31, 3) := by decide +kernel
theorem dX12_doWork_131 : decode cX12_doWork 131 = .ok (.aload_n 0, 1) := by decide +kernel
theorem dX12_doWork_132 : decode cX12_doWork 132 = .ok (.getfield 73, 3) := by decide +kernel
theorem dX12_doWork_135 : decode cX12_doWork 135 = .ok (.iload 4, 2) := by decide +kernel
theorem dX12_doWork_137 : decode cX12_doWork 137 = .ok (.iaload, 1) := by decide +kernel
theorem dX12_doWork_138 : decode cX12_doWork 138 = .ok (.iload 6, 2) := by decide +kernel
theorem dX12_doWork_140 : decode cX12_doWork 140 = .ok (.idiv, 1) := by decide +kernel
theorem dX12_doWork_141 : decode cX12_doWork 141 = .ok (.iload 7, 2) := by decide +kernel
theorem dX12_doWork_143 : decode cX12_doWork 143 = .ok (.if_icmp .ge 16, 3) := by decide +kernel
theorem dX12_doWork_146 : decode cX12_doWork 146 = .ok (.aload_n 0, 1) := by decide +kernel
theorem dX12_doWork_147 : decode cX12_doWork 147 = .ok (.getfield 73, 3) := by decide +kernel
theorem dX12_doWork_150 : decode cX12_doWork 150 = .ok (.iload 4, 2) := by decide +kernel
theorem dX12_doWork_152 : decode cX12_doWork 152 = .ok (.iaload, 1) := by decide +kernel
theorem dX12_doWork_153 : decode cX12_doWork 153 = .ok (.iload 6, 2) := by decide +kernel
theorem dX12_doWork_155 : decode cX12_doWork 155 = .ok (.idiv, 1) := by decide +kernel
theorem dX12_doWork_156 : decode cX12_doWork 156 = .ok (.goto 5, 3) := by decide +kernel
theorem dX12_doWork_159 : decode cX12_doWork 159 = .ok (.iload 7, 2) := by decide +kernel
theorem dX12_doWork_161 : decode cX12_doWork 161 = .ok (.istore 7, 2) := by decide +kernel
theorem dX12_doWork_163 : decode cX12_doWork 163 = .ok (.aload_n 0, 1) := by decide +kernel
theorem dX12_doWork_164 : decode cX12_doWork 164 = .ok (.getfield 73, 3) := by decide +kernel
theorem dX12_doWork_167 : decode cX12_doWork 167 = .ok (.iload_n 3, 1) := by decide +kernel
theorem dX12_doWork_168 : decode cX12_doWork 168 = .ok (.dup2, 1) := by decide +kernel
theorem dX12_doWork_169 : decode cX12_doWork 169 = .ok (.iaload, 1) := by decide +kernel
theorem dX12_doWork_170 : decode cX12_doWork 170 = .ok (.iload 7, 2) := by decide +kernel
theorem dX12_doWork_172 : decode cX12_doWork 172 = .ok (.iload 5, 2) := by decide +kernel
theorem dX12_doWork_174 : decode cX12_doWork 174 = .ok (.imul, 1) := by decide +kernel
theorem dX12_doWork_175 : decode cX12_doWork 175 = .ok (.isub, 1) := by decide +kernel
theorem dX12_doWork_176 : decode cX12_doWork 176 = .ok (.iastore, 1) := by decide +kernel
theorem dX12_doWork_177 : decode cX12_doWork 177 = .ok (.aload_n 0, 1) := by decide +kernel
theorem dX12_doWork_178 : decode cX12_doWork 178 = .ok (.getfield 73, 3) := by decide +kernel
theorem dX12_doWork_181 : decode cX12_doWork 181 = .ok (.iload 4, 2) := by decide +kernel
theorem dX12_doWork_183 : decode cX12_doWork 183 = .ok (.dup2, 1) := by decide +kernel
theorem dX12_doWork_184 : decode cX12_doWork 184 = .ok (.iaload, 1) := by decide +kernel
theorem dX12_doWork_185 : decode cX12_doWork 185 = .ok (.iload 7, 2) := by decide +kernel
theorem dX12_doWork_187 : decode cX12_doWork 187 = .ok (.iload 6, 2) := by decide +kernel
theorem dX12_doWork_189 : decode cX12_doWork 189 = .ok (.imul, 1) := by decide +kernel
theorem dX12_doWork_190 : decode cX12_doWork 190 = .ok (.isub, 1) := by decide +kernel
theorem dX12_doWork_191 : decode cX12_doWork 191 = .ok (.iastore, 1) := by decide +kernel
theorem dX12_doWork_192 : decode cX12_doWork 192 = .ok (.aload_n 0, 1) := by decide +kernel
theorem dX12_doWork_193 : decode cX12_doWork 193 = .ok (.getfield 73, 3) := by decide +kernel
theorem dX12_doWork_196 : decode cX12_doWork 196 = .ok (.aload_n 0, 1) := by decide +kernel
theorem dX12_doWork_197 : decode cX12_doWork 197 = .ok (.getfield 8, 3) := by decide +kernel
theorem dX12_doWork_200 : decode cX12_doWork 200 = .ok (.iload_n 1, 1) := by decide +kernel
theorem dX12_doWork_201 : decode cX12_doWork 201 = .ok (.iconst 4, 1) := by decide +kernel
theorem dX12_doWork_202 : decode cX12_doWork 202 = .ok (.iadd, 1) := by decide +kernel
theorem dX12_doWork_203 : decode cX12_doWork 203 = .ok (.iaload, 1) := by decide +kernel
theorem dX12_doWork_204 : decode cX12_doWork 204 = .ok (.dup2, 1) := by decide +kernel
theorem dX12_doWork_205 : decode cX12_doWork 205 = .ok (.iaload, 1) := by decide +kernel
theorem dX12_doWork_206 : decode cX12_doWork 206 = .ok (.iload 7, 2) := by decide +kernel
theorem dX12_doWork_208 : decode cX12_doWork 208 = .ok (.aload_n 0, 1) := by decide +kernel
theorem dX12_doWork_209 : decode cX12_doWork 209 = .ok (.getfield 8, 3) := by decide +kernel
theorem dX12_doWork_212 : decode cX12_doWork 212 = .ok (.iload_n 1, 1) := by decide +kernel
theorem dX12_doWork_213 : decode cX12_doWork 213 = .ok (.iconst 5, 1) := by decide +kernel
theorem dX12_doWork_214 : decode cX12_doWork 214 = .ok (.iadd, 1) := by decide +kernel
theorem dX12_doWork_215 : decode cX12_doWork 215 = .ok (.iaload, 1) := by decide +kernel
theorem dX12_doWork_216 : decode cX12_doWork 216 = .ok (.imul, 1) := by decide +kernel
theorem dX12_doWork_217 : decode cX12_doWork 217 = .ok (.iadd, 1) := by decide +kernel
theorem dX12_doWork_218 : decode cX12_doWork 218 = .ok (.iastore, 1) := by decide +kernel
theorem dX12_doWork_219 : decode cX12_doWork 219 = .ok (.return_, 1) := by decide +kernel
theorem dX12_isAhead_0 : decode cX12_isAhead 0 = .ok (.aload_n 0, 1) := by decide +kernel
theorem dX12_isAhead_1 : decode cX12_isAhead 1 = .ok (.iload_n 1, 1) := by decide +kernel
theorem dX12_isAhead_2 : decode cX12_isAhead 2 = .ok (.invokevirtual 477, 3) := by decide +kernel
theorem dX12_isAhead_5 : decode cX12_isAhead 5 = .ok (.iload_n 3, 1) := by decide +kernel
theorem dX12_isAhead_6 : decode cX12_isAhead 6 = .ok (.if_icmp .ne 7, 3) := by decide +kernel
theorem dX12_isAhead_9 : decode cX12_isAhead 9 = .ok (.iconst 1, 1) := by decide +kernel
theorem dX12_isAhead_10 : decode cX12_isAhead 10 = .ok (.goto 4, 3) := by decide +kernel
theorem dX12_isAhead_13 : decode cX12_isAhead 13 = .ok (.iconst 0, 1) := by decide +kernel
theorem dX12_isAhead_14 : decode cX12_isAhead 14 = .ok (.istore 4, 2) := by decide +kernel
theorem dX12_isAhead_16 : decode cX12_isAhead 16 = .ok (.aload_n 0, 1) := by decide +kernel
theorem dX12_isAhead_17 : decode cX12_isAhead 17 = .ok (.iload_n 2, 1) := by decide +kernel
theorem dX12_isAhead_18 : decode cX12_isAhead 18 = .ok (.invokevirtual 477, 3) := by decide +kernel
theorem dX12_isAhead_21 : decode cX12_isAhead 21 = .ok (.iload_n 3, 1) := by decide +kernel
theorem dX12_isAhead_22 : decode cX12_isAhead 22 = .ok (.if_icmp .ne 7, 3) := by decide +kernel
theorem dX12_isAhead_25 : decode cX12_isAhead 25 = .ok (.iconst 1, 1) := by decide +kernel
theorem dX12_isAhead_26 : decode cX12_isAhead 26 = .ok (.goto 4, 3) := by decide +kernel
theorem dX12_isAhead_29 : decode cX12_isAhead 29 = .ok (.iconst 0, 1) := by decide +kernel
theorem dX12_isAhead_30 : decode cX12_isAhead 30 = .ok (.istore 5, 2) := by decide +kernel
theorem dX12_isAhead_32 : decode cX12_isAhead 32 = .ok (.iload 4, 2) := by decide +kernel
theorem dX12_isAhead_34 : decode cX12_isAhead 34 = .ok (.iload 5, 2) := by decide +kernel
theorem dX12_isAhead_36 : decode cX12_isAhead 36 = .ok (.if_icmp .eq 6, 3) := by decide +kernel
theorem dX12_isAhead_39 : decode cX12_isAhead 39 = .ok (.iload 4, 2) := by decide +kernel
theorem dX12_isAhead_41 : decode cX12_isAhead 41 = .ok (.ireturn, 1) := by decide +kernel
theorem dX12_isAhead_42 : decode cX12_isAhead 42 = .ok (.aload_n 0, 1) := by decide +kernel
theorem dX12_isAhead_43 : decode cX12_isAhead 43 = .ok (.getfield 67, 3) := by decide +kernel
theorem dX12_isAhead_46 : decode cX12_isAhead 46 = .ok (.iload_n 1, 1) := by decide +kernel
theorem dX12_isAhead_47 : decode cX12_isAhead 47 = .ok (.iaload, 1) := by decide +kernel
theorem dX12_isAhead_48 : decode cX12_isAhead 48 = .ok (.aload_n 0, 1) := by decide +kernel
theorem dX12_isAhead_49 : decode cX12_isAhead 49 = .ok (.getfield 67, 3) := by decide +kernel
theorem dX12_isAhead_52 : decode cX12_isAhead 52 = .ok (.iload_n 2, 1) := by decide +kernel
theorem dX12_isAhead_53 : decode cX12_isAhead 53 = .ok (.iaload, 1) := by decide +kernel
theorem dX12_isAhead_54 : decode cX12_isAhead 54 = .ok (.if_icmp .eq 26, 3) := by decide +kernel
theorem dX12_isAhead_57 : decode cX12_isAhead 57 = .ok (.aload_n 0, 1) := by decide +kernel
theorem dX12_isAhead_58 : decode cX12_isAhead 58 = .ok (.getfield 67, 3) := by decide +kernel
theorem dX12_isAhead_61 : decode cX12_isAhead 61 = .ok (.iload_n 1, 1) := by decide +kernel
theorem dX12_isAhead_62 : decode cX12_isAhead 62 = .ok (.iaload, 1) := by decide +kernel
theorem dX12_isAhead_63 : decode cX12_isAhead 63 = .ok (.aload_n 0, 1) := by decide +kernel
theorem dX12_isAhead_64 : decode cX12_isAhead 64 = .ok (.getfield 67, 3) := by decide +kernel
theorem dX12_isAhead_67 : decode cX12_isAhead 67 = .ok (.iload_n 2, 1) := by decide +kernel
theorem dX12_isAhead_68 : decode cX12_isAhead 68 = .ok (.iaload, 1) := by decide +kernel
theorem dX12_isAhead_69 : decode cX12_isAhead 69 = .ok (.if_icmp .ge 7, 3) := by decide +kernel
theorem dX12_isAhead_72 : decode cX12_isAhead 72 = .ok (.iconst 1, 1) := by decide +kernel
theorem dX12_isAhead_73 : decode cX12_isAhead 73 = .ok (.goto 17, 3) := by decide +kernel
theorem dX12_isAhead_76 : decode cX12_isAhead 76 = .ok (.iconst 0, 1) := by decide +kernel
theorem dX12_isAhead_77 : decode cX12_isAhead 77 = .ok (.goto 13, 3) := by decide +kernel
theorem dX12_isAhead_80 : decode cX12_isAhead 80 = .ok (.iload_n 1, 1) := by decide +kernel
theorem dX12_isAhead_81 : decode cX12_isAhead 81 = .ok (.iload_n 2, 1) := by decide +kernel
theorem dX12_isAhead_82 : decode cX12_isAhead 82 = .ok (.if_icmp .ge 7, 3) := by decide +kernel
theorem dX12_isAhead_85 : decode cX12_isAhead 85 = .ok (.iconst 1, 1) := by decide +kernel
theorem dX12_isAhead_86 : decode cX12_isAhead 86 = .ok (.goto 4, 3) := by decide +kernel
theorem dX12_isAhead_89 : decode cX12_isAhead 89 = .ok (.iconst 0, 1) := by decide +kernel
theorem dX12_isAhead_90 : decode cX12_isAhead 90 = .ok (.ireturn, 1) := by decide +kernel
def W_X12_works_113 (X : Sx) (l : Launch) (D : Nat) (σ : AH) (r : Option Value) (σ' : AH) : Prop := ∃ d71 : Nat, ∃ v76 : Int32, ∃ σ72 : AH, d71 + 1 ≤ D ∧ Call X l m_X12_told d71 [.ref 124, .int (-1 : Int32)] σ (some (.int v76)) σ72 ∧ (r = some (.int v76) ∧ σ' = σ72)
set_option maxRecDepth 100000 in
theorem w_X12_works_113 {X : Sx} {l : Launch} {D : Nat} {σ : AH} {r : Option Value} {σ' : AH} (hs : Sh σ) (h : W_X12_works_113 X l D σ r σ') : E X l m_X12_works D 113 [(0, .ref 124)] [] σ r σ' := by
  unfold W_X12_works_113 at h
  refine E_aload_n 0 dX12_works_113 rfl rfl ?_
  refine E_iconst (-1 : Int32) dX12_works_114 (by decide) ?_
  obtain ⟨d71, v76, σ72, hD73, hC74, h⟩ := h
  have hs75 := hC74.1.2.2.2.1 hs
  refine E_callV (As := [.int (-1 : Int32)]) (rest := []) (r1 := (some (.int v76))) (b := 124) dX12_works_115 ok_X12_told in_X12_told se_X12_told ml_X12_163 hD73 rfl rfl (Nat.le_of_ble_eq_true rfl) (sk_124 hs) (sn hs (by decide)) (by decide) rfl (by decide +kernel) hC74 ?_
  obtain ⟨rfl, rfl⟩ := h
  exact E_iret dX12_works_118 rfl
def W_X12_works_47 (X : Sx) (l : Launch) (D : Nat) (x1 : Int32) (x2 : Int32) (x3 : Int32) (x4 : Int32) (x5 : Int32) (x6 : Int32) (x7 : Int32) (x8 : Int32) (y0 : Int32) (σ : AH) (r : Option Value) (σ' : AH) : Prop := (if y0 = 0 then W_X12_works_113 X l D σ r σ' else ∃ d19 : Nat, ∃ v24 : Int32, ∃ σ20 : AH, d19 + 1 ≤ D ∧ Call X l m_X12_in d19 [.long (x2).toInt64, .long (0 : Int64), .long (1000 : Int64)] σ (some (.int v24)) σ20 ∧ (if v24 = 0 then W_X12_works_113 X l D σ20 r σ' else ∃ d25 : Nat, ∃ v30 : Int32, ∃ σ26 : AH, d25 + 1 ≤ D ∧ Call X l m_X12_in d25 [.long (x4).toInt64, .long (0 : Int64), .long (1000 : Int64)] σ20 (some (.int v30)) σ26 ∧ (if v30 = 0 then W_X12_works_113 X l D σ26 r σ' else ∃ d31 : Nat, ∃ v36 : Int32, ∃ σ32 : AH, d31 + 1 ≤ D ∧ Call X l m_X12_in d31 [.long (x6).toInt64, .long (1 : Int64), .long (10000 : Int64)] σ26 (some (.int v36)) σ32 ∧ (if v36 = 0 then W_X12_works_113 X l D σ32 r σ' else ∃ d37 : Nat, ∃ v42 : Int32, ∃ σ38 : AH, d37 + 1 ≤ D ∧ Call X l m_X12_in d37 [.long (x7).toInt64, .long (0 : Int64), .long (100 : Int64)] σ32 (some (.int v42)) σ38 ∧ (if v42 = 0 then W_X12_works_113 X l D σ38 r σ' else ∃ d43 : Nat, ∃ v48 : Int32, ∃ σ44 : AH, d43 + 1 ≤ D ∧ Call X l m_X12_isWeek d43 [.int x8] σ38 (some (.int v48)) σ44 ∧ (if v48 = 0 then W_X12_works_113 X l D σ44 r σ' else (if (gI σ44 125 2) = (8 : Int32) then ∃ d65 : Nat, ∃ v70 : Int32, ∃ σ66 : AH, d65 + 1 ≤ D ∧ Call X l m_X12_told d65 [.ref 124, .int (-5 : Int32)] σ44 (some (.int v70)) σ66 ∧ (r = some (.int v70) ∧ σ' = σ66) else ∃ d49 : Nat, ∃ σ50 : AH, d49 + 1 ≤ D ∧ Call X l m_X12_addFour d49 [.ref 124, .int ((23228 : Int32) + ((8 : Int32) * (gI σ44 125 2))), .int x1, .int x2, .int x3, .int x4] σ44 none σ50 ∧ ∃ d54 : Nat, ∃ σ55 : AH, d54 + 1 ≤ D ∧ Call X l m_X12_addFour d54 [.ref 124, .int (((23228 : Int32) + ((8 : Int32) * (gI σ44 125 2))) + (4 : Int32)), .int x5, .int x6, .int x7, .int x8] σ50 none σ55 ∧ ∃ d59 : Nat, ∃ v64 : Int32, ∃ σ60 : AH, d59 + 1 ≤ D ∧ Call X l m_X12_told d59 [.ref 124, .int ((gI (sI σ55 125 2 ((gI σ55 125 2) + (1 : Int32))) 125 2) - (1 : Int32))] (sI σ55 125 2 ((gI σ55 125 2) + (1 : Int32))) (some (.int v64)) σ60 ∧ (r = some (.int v64) ∧ σ' = σ60))))))))
set_option maxRecDepth 100000 in
theorem w_X12_works_47 {X : Sx} {l : Launch} {D : Nat} {x1 : Int32} {x2 : Int32} {x3 : Int32} {x4 : Int32} {x5 : Int32} {x6 : Int32} {x7 : Int32} {x8 : Int32} {y0 : Int32} {σ : AH} {r : Option Value} {σ' : AH} (hs : Sh σ) (h : W_X12_works_47 X l D x1 x2 x3 x4 x5 x6 x7 x8 y0 σ r σ') : E X l m_X12_works D 47 [(0, .ref 124), (1, .int x1), (2, .int x2), (3, .int x3), (4, .int x4), (5, .int x5), (6, .int x6), (7, .int x7), (8, .int x8)] [.int y0] σ r σ' := by
  unfold W_X12_works_47 at h
  refine E_istore [(9, .int y0), (0, .ref 124), (1, .int x1), (2, .int x2), (3, .int x3), (4, .int x4), (5, .int x5), (6, .int x6), (7, .int x7), (8, .int x8)] dX12_works_47 (by decide) rfl ?_
  refine E_iload 0 dX12_works_49 rfl ?_
  refine E_if_eq 113 dX12_works_51 (by decide) (fun c => ?_) (fun c => ?_)
  · rw [if_pos c] at h
    exact E_lv [1] rfl (w_X12_works_113 hs h)
  · rw [if_neg c] at h
    refine E_iload_n 3 dX12_works_54 rfl rfl ?_
    refine E_i2l dX12_works_55 ?_
    refine E_lconst (0 : Int64) dX12_works_56 (by decide) ?_
    refine E_ldc2 (1000 : Int64) dX12_works_57 cl_X12_462 ?_
    obtain ⟨d19, v24, σ20, hD21, hC22, h⟩ := h
    have hs23 := hC22.1.2.2.2.1 hs
    refine E_callS (As := [.long (x2).toInt64, .long (0 : Int64), .long (1000 : Int64)]) (rest := []) (r1 := (some (.int v24))) dX12_works_60 ok_X12_in is_X12_in ml_X12_153 hD21 rfl rfl (Nat.le_of_ble_eq_true rfl) (by decide +kernel) hC22 ?_
    refine E_if_eq 113 dX12_works_63 (by decide) (fun c => ?_) (fun c => ?_)
    · rw [if_pos c] at h
      exact E_lv [1] rfl (w_X12_works_113 hs23 h)
    · rw [if_neg c] at h
      refine E_iload 5 dX12_works_66 rfl ?_
      refine E_i2l dX12_works_68 ?_
      refine E_lconst (0 : Int64) dX12_works_69 (by decide) ?_
      refine E_ldc2 (1000 : Int64) dX12_works_70 cl_X12_462 ?_
      obtain ⟨d25, v30, σ26, hD27, hC28, h⟩ := h
      have hs29 := hC28.1.2.2.2.1 hs23
      refine E_callS (As := [.long (x4).toInt64, .long (0 : Int64), .long (1000 : Int64)]) (rest := []) (r1 := (some (.int v30))) dX12_works_73 ok_X12_in is_X12_in ml_X12_153 hD27 rfl rfl (Nat.le_of_ble_eq_true rfl) (by decide +kernel) hC28 ?_
      refine E_if_eq 113 dX12_works_76 (by decide) (fun c => ?_) (fun c => ?_)
      · rw [if_pos c] at h
        exact E_lv [1] rfl (w_X12_works_113 hs29 h)
      · rw [if_neg c] at h
        refine E_iload 7 dX12_works_79 rfl ?_
        refine E_i2l dX12_works_81 ?_
        refine E_lconst (1 : Int64) dX12_works_82 (by decide) ?_
        refine E_ldc2 (10000 : Int64) dX12_works_83 cl_X12_279 ?_
        obtain ⟨d31, v36, σ32, hD33, hC34, h⟩ := h
        have hs35 := hC34.1.2.2.2.1 hs29
        refine E_callS (As := [.long (x6).toInt64, .long (1 : Int64), .long (10000 : Int64)]) (rest := []) (r1 := (some (.int v36))) dX12_works_86 ok_X12_in is_X12_in ml_X12_153 hD33 rfl rfl (Nat.le_of_ble_eq_true rfl) (by decide +kernel) hC34 ?_
        refine E_if_eq 113 dX12_works_89 (by decide) (fun c => ?_) (fun c => ?_)
        · rw [if_pos c] at h
          exact E_lv [1] rfl (w_X12_works_113 hs35 h)
        · rw [if_neg c] at h
          refine E_iload 8 dX12_works_92 rfl ?_
          refine E_i2l dX12_works_94 ?_
          refine E_lconst (0 : Int64) dX12_works_95 (by decide) ?_
          refine E_ldc2 (100 : Int64) dX12_works_96 cl_X12_464 ?_
          obtain ⟨d37, v42, σ38, hD39, hC40, h⟩ := h
          have hs41 := hC40.1.2.2.2.1 hs35
          refine E_callS (As := [.long (x7).toInt64, .long (0 : Int64), .long (100 : Int64)]) (rest := []) (r1 := (some (.int v42))) dX12_works_99 ok_X12_in is_X12_in ml_X12_153 hD39 rfl rfl (Nat.le_of_ble_eq_true rfl) (by decide +kernel) hC40 ?_
          refine E_if_eq 113 dX12_works_102 (by decide) (fun c => ?_) (fun c => ?_)
          · rw [if_pos c] at h
            exact E_lv [1] rfl (w_X12_works_113 hs41 h)
          · rw [if_neg c] at h
            refine E_iload 9 dX12_works_105 rfl ?_
            obtain ⟨d43, v48, σ44, hD45, hC46, h⟩ := h
            have hs47 := hC46.1.2.2.2.1 hs41
            refine E_callS (As := [.int x8]) (rest := []) (r1 := (some (.int v48))) dX12_works_107 ok_X12_isWeek is_X12_isWeek ml_X12_387 hD45 rfl rfl (Nat.le_of_ble_eq_true rfl) (by decide +kernel) hC46 ?_
            refine E_if_ne 119 dX12_works_110 (by decide) (fun c => ?_) (fun c => ?_)
            · rw [if_neg c] at h
              refine E_aload_n 1 dX12_works_119 rfl rfl ?_
              refine E_getR 125 dX12_works_120 fl_X12_8 rfl (sk_124 hs47) (sn hs47 (by decide)) (sr_124_2 hs47) ?_
              refine E_iconst (2 : Int32) dX12_works_123 (by decide) ?_
              refine E_iald2 2 dX12_works_124 (sk_125 hs47) (sn hs47 (by decide)) (vp_lit (by decide)) (by decide) ?_
              refine E_bipush (8 : Int32) dX12_works_125 (by decide) ?_
              refine E_icmp_ne 137 dX12_works_127 (by decide) (fun c => ?_) (fun c => ?_)
              · rw [if_neg c] at h
                refine E_sipush (23228 : Int32) dX12_works_137 (by decide) ?_
                refine E_bipush (8 : Int32) dX12_works_140 (by decide) ?_
                refine E_aload_n 1 dX12_works_142 rfl rfl ?_
                refine E_getR 125 dX12_works_143 fl_X12_8 rfl (sk_124 hs47) (sn hs47 (by decide)) (sr_124_2 hs47) ?_
                refine E_iconst (2 : Int32) dX12_works_146 (by decide) ?_
                refine E_iald2 2 dX12_works_147 (sk_125 hs47) (sn hs47 (by decide)) (vp_lit (by decide)) (by decide) ?_
                refine E_imul dX12_works_148 ?_
                refine E_iadd dX12_works_149 ?_
                refine E_istore [(10, .int ((23228 : Int32) + ((8 : Int32) * (gI σ44 125 2)))), (9, .int y0), (0, .ref 124), (1, .int x1), (2, .int x2), (3, .int x3), (4, .int x4), (5, .int x5), (6, .int x6), (7, .int x7), (8, .int x8)] dX12_works_150 (by decide) rfl ?_
                refine E_aload_n 2 dX12_works_152 rfl rfl ?_
                refine E_iload 0 dX12_works_153 rfl ?_
                refine E_iload_n 3 dX12_works_155 rfl rfl ?_
                refine E_iload_n 4 dX12_works_156 rfl rfl ?_
                refine E_iload_n 5 dX12_works_157 rfl rfl ?_
                refine E_iload 6 dX12_works_158 rfl ?_
                obtain ⟨d49, σ50, hD51, hC52, h⟩ := h
                have hs53 := hC52.1.2.2.2.1 hs47
                refine E_callV (As := [.int ((23228 : Int32) + ((8 : Int32) * (gI σ44 125 2))), .int x1, .int x2, .int x3, .int x4]) (rest := []) (r1 := none) (b := 124) dX12_works_160 ok_X12_addFour in_X12_addFour se_X12_addFour ml_X12_458 hD51 rfl rfl (Nat.le_of_ble_eq_true rfl) (sk_124 hs47) (sn hs47 (by decide)) (by decide) rfl (by decide +kernel) hC52 ?_
                refine E_aload_n 2 dX12_works_163 rfl rfl ?_
                refine E_iload 0 dX12_works_164 rfl ?_
                refine E_iconst (4 : Int32) dX12_works_166 (by decide) ?_
                refine E_iadd dX12_works_167 ?_
                refine E_iload 7 dX12_works_168 rfl ?_
                refine E_iload 8 dX12_works_170 rfl ?_
                refine E_iload 9 dX12_works_172 rfl ?_
                refine E_iload 10 dX12_works_174 rfl ?_
                obtain ⟨d54, σ55, hD56, hC57, h⟩ := h
                have hs58 := hC57.1.2.2.2.1 hs53
                refine E_callV (As := [.int (((23228 : Int32) + ((8 : Int32) * (gI σ44 125 2))) + (4 : Int32)), .int x5, .int x6, .int x7, .int x8]) (rest := []) (r1 := none) (b := 124) dX12_works_176 ok_X12_addFour in_X12_addFour se_X12_addFour ml_X12_458 hD56 rfl rfl (Nat.le_of_ble_eq_true rfl) (sk_124 hs53) (sn hs53 (by decide)) (by decide) rfl (by decide +kernel) hC57 ?_
                refine E_aload_n 2 dX12_works_179 rfl rfl ?_
                refine E_getR 125 dX12_works_180 fl_X12_8 rfl (sk_124 hs58) (sn hs58 (by decide)) (sr_124_2 hs58) ?_
                refine E_iconst (2 : Int32) dX12_works_183 (by decide) ?_
                refine E_dup2 dX12_works_184 rfl rfl ?_
                refine E_iald2 2 dX12_works_185 (sk_125 hs58) (sn hs58 (by decide)) (vp_lit (by decide)) (by decide) ?_
                refine E_iconst (1 : Int32) dX12_works_186 (by decide) ?_
                refine E_iadd dX12_works_187 ?_
                refine E_iast2 2 dX12_works_188 (sk_125 hs58) (sn hs58 (by decide)) (Or.inl (by decide)) (vp_lit (by decide)) (by decide) ?_
                refine E_aload_n 2 dX12_works_189 rfl rfl ?_
                refine E_aload_n 2 dX12_works_190 rfl rfl ?_
                refine E_getR 125 dX12_works_191 fl_X12_8 rfl (sk_124 hs58) (sn hs58 (by decide)) (sr_124_2 hs58) ?_
                refine E_iconst (2 : Int32) dX12_works_194 (by decide) ?_
                refine E_iald2 2 dX12_works_195 (sk_125 hs58) (sn hs58 (by decide)) (vp_lit (by decide)) (by decide) ?_
                refine E_iconst (1 : Int32) dX12_works_196 (by decide) ?_
                refine E_isub dX12_works_197 ?_
                obtain ⟨d59, v64, σ60, hD61, hC62, h⟩ := h
                have hs63 := hC62.1.2.2.2.1 hs58
                refine E_callV (As := [.int ((gI (sI σ55 125 2 ((gI σ55 125 2) + (1 : Int32))) 125 2) - (1 : Int32))]) (rest := []) (r1 := (some (.int v64))) (b := 124) dX12_works_198 ok_X12_told in_X12_told se_X12_told ml_X12_163 hD61 rfl rfl (Nat.le_of_ble_eq_true rfl) (sk_124 hs58) (sn hs58 (by decide)) (by decide) rfl (by decide +kernel) hC62 ?_
                obtain ⟨rfl, rfl⟩ := h
                exact E_iret dX12_works_201 rfl
              · rw [if_pos c] at h
                refine E_aload_n 1 dX12_works_130 rfl rfl ?_
                refine E_bipush (-5 : Int32) dX12_works_131 (by decide) ?_
                obtain ⟨d65, v70, σ66, hD67, hC68, h⟩ := h
                have hs69 := hC68.1.2.2.2.1 hs47
                refine E_callV (As := [.int (-5 : Int32)]) (rest := []) (r1 := (some (.int v70))) (b := 124) dX12_works_133 ok_X12_told in_X12_told se_X12_told ml_X12_163 hD67 rfl rfl (Nat.le_of_ble_eq_true rfl) (sk_124 hs47) (sn hs47 (by decide)) (by decide) rfl (by decide +kernel) hC68 ?_
                obtain ⟨rfl, rfl⟩ := h
                exact E_iret dX12_works_136 rfl
            · rw [if_pos c] at h
              exact E_lv [1] rfl (w_X12_works_113 hs47 h)
def W_X12_works_46 (X : Sx) (l : Launch) (D : Nat) (x1 : Int32) (x2 : Int32) (x3 : Int32) (x4 : Int32) (x5 : Int32) (x6 : Int32) (x7 : Int32) (x8 : Int32) (σ : AH) (r : Option Value) (σ' : AH) : Prop := W_X12_works_47 X l D x1 x2 x3 x4 x5 x6 x7 x8 (0 : Int32) σ r σ'
set_option maxRecDepth 100000 in
theorem w_X12_works_46 {X : Sx} {l : Launch} {D : Nat} {x1 : Int32} {x2 : Int32} {x3 : Int32} {x4 : Int32} {x5 : Int32} {x6 : Int32} {x7 : Int32} {x8 : Int32} {σ : AH} {r : Option Value} {σ' : AH} (hs : Sh σ) (h : W_X12_works_46 X l D x1 x2 x3 x4 x5 x6 x7 x8 σ r σ') : E X l m_X12_works D 46 [(0, .ref 124), (1, .int x1), (2, .int x2), (3, .int x3), (4, .int x4), (5, .int x5), (6, .int x6), (7, .int x7), (8, .int x8)] [] σ r σ' := by
  unfold W_X12_works_46 at h
  refine E_iconst (0 : Int32) dX12_works_46 (by decide) ?_
  exact E_lv [0, 1, 2, 3, 4, 5, 6, 7, 8] rfl (w_X12_works_47 hs h)
def W_X12_works_0 (X : Sx) (l : Launch) (D : Nat) (x1 : Int32) (x2 : Int32) (x3 : Int32) (x4 : Int32) (x5 : Int32) (x6 : Int32) (x7 : Int32) (x8 : Int32) (σ : AH) (r : Option Value) (σ' : AH) : Prop := ∃ d1 : Nat, ∃ v6 : Int32, ∃ σ2 : AH, d1 + 1 ≤ D ∧ Call X l m_X12_in d1 [.long (x1).toInt64, .long (0 : Int64), .long (4 : Int64)] (sI σ 124 0 (0 : Int32)) (some (.int v6)) σ2 ∧ (if v6 = 0 then W_X12_works_46 X l D x1 x2 x3 x4 x5 x6 x7 x8 σ2 r σ' else ∃ d7 : Nat, ∃ v12 : Int32, ∃ σ8 : AH, d7 + 1 ≤ D ∧ Call X l m_X12_in d7 [.long (x3).toInt64, .long (0 : Int64), .long (4 : Int64)] σ2 (some (.int v12)) σ8 ∧ (if v12 = 0 then W_X12_works_46 X l D x1 x2 x3 x4 x5 x6 x7 x8 σ8 r σ' else ∃ d13 : Nat, ∃ v18 : Int32, ∃ σ14 : AH, d13 + 1 ≤ D ∧ Call X l m_X12_in d13 [.long (x5).toInt64, .long (0 : Int64), .long (4 : Int64)] σ8 (some (.int v18)) σ14 ∧ (if v18 = 0 then W_X12_works_46 X l D x1 x2 x3 x4 x5 x6 x7 x8 σ14 r σ' else W_X12_works_47 X l D x1 x2 x3 x4 x5 x6 x7 x8 (1 : Int32) σ14 r σ')))
set_option maxRecDepth 100000 in
theorem w_X12_works_0 {X : Sx} {l : Launch} {D : Nat} {x1 : Int32} {x2 : Int32} {x3 : Int32} {x4 : Int32} {x5 : Int32} {x6 : Int32} {x7 : Int32} {x8 : Int32} {σ : AH} {r : Option Value} {σ' : AH} (hs : Sh σ) (h : W_X12_works_0 X l D x1 x2 x3 x4 x5 x6 x7 x8 σ r σ') : E X l m_X12_works D 0 [(0, .ref 124), (1, .int x1), (2, .int x2), (3, .int x3), (4, .int x4), (5, .int x5), (6, .int x6), (7, .int x7), (8, .int x8)] [] σ r σ' := by
  unfold W_X12_works_0 at h
  refine E_aload_n 0 dX12_works_0 rfl rfl ?_
  refine E_iconst (0 : Int32) dX12_works_1 (by decide) ?_
  refine E_putI dX12_works_2 fl_X12_145 rfl (Or.inl rfl) (sk_124 hs) (sn hs (by decide)) (Or.inl (by decide)) rfl rfl ?_
  refine E_iload_n 1 dX12_works_5 rfl rfl ?_
  refine E_i2l dX12_works_6 ?_
  refine E_lconst (0 : Int64) dX12_works_7 (by decide) ?_
  refine E_ldc2 (4 : Int64) dX12_works_8 cl_X12_456 ?_
  obtain ⟨d1, v6, σ2, hD3, hC4, h⟩ := h
  have hs5 := hC4.1.2.2.2.1 hs
  refine E_callS (As := [.long (x1).toInt64, .long (0 : Int64), .long (4 : Int64)]) (rest := []) (r1 := (some (.int v6))) dX12_works_11 ok_X12_in is_X12_in ml_X12_153 hD3 rfl rfl (Nat.le_of_ble_eq_true rfl) (by decide +kernel) hC4 ?_
  refine E_if_eq 46 dX12_works_14 (by decide) (fun c => ?_) (fun c => ?_)
  · rw [if_pos c] at h
    exact E_lv [0, 1, 2, 3, 4, 5, 6, 7, 8] rfl (w_X12_works_46 hs5 h)
  · rw [if_neg c] at h
    refine E_iload_n 3 dX12_works_17 rfl rfl ?_
    refine E_i2l dX12_works_18 ?_
    refine E_lconst (0 : Int64) dX12_works_19 (by decide) ?_
    refine E_ldc2 (4 : Int64) dX12_works_20 cl_X12_456 ?_
    obtain ⟨d7, v12, σ8, hD9, hC10, h⟩ := h
    have hs11 := hC10.1.2.2.2.1 hs5
    refine E_callS (As := [.long (x3).toInt64, .long (0 : Int64), .long (4 : Int64)]) (rest := []) (r1 := (some (.int v12))) dX12_works_23 ok_X12_in is_X12_in ml_X12_153 hD9 rfl rfl (Nat.le_of_ble_eq_true rfl) (by decide +kernel) hC10 ?_
    refine E_if_eq 46 dX12_works_26 (by decide) (fun c => ?_) (fun c => ?_)
    · rw [if_pos c] at h
      exact E_lv [0, 1, 2, 3, 4, 5, 6, 7, 8] rfl (w_X12_works_46 hs11 h)
    · rw [if_neg c] at h
      refine E_iload 5 dX12_works_29 rfl ?_
      refine E_i2l dX12_works_31 ?_
      refine E_lconst (0 : Int64) dX12_works_32 (by decide) ?_
      refine E_ldc2 (4 : Int64) dX12_works_33 cl_X12_456 ?_
      obtain ⟨d13, v18, σ14, hD15, hC16, h⟩ := h
      have hs17 := hC16.1.2.2.2.1 hs11
      refine E_callS (As := [.long (x5).toInt64, .long (0 : Int64), .long (4 : Int64)]) (rest := []) (r1 := (some (.int v18))) dX12_works_36 ok_X12_in is_X12_in ml_X12_153 hD15 rfl rfl (Nat.le_of_ble_eq_true rfl) (by decide +kernel) hC16 ?_
      refine E_if_eq 46 dX12_works_39 (by decide) (fun c => ?_) (fun c => ?_)
      · rw [if_pos c] at h
        exact E_lv [0, 1, 2, 3, 4, 5, 6, 7, 8] rfl (w_X12_works_46 hs17 h)
      · rw [if_neg c] at h
        refine E_iconst (1 : Int32) dX12_works_42 (by decide) ?_
        refine E_goto 47 dX12_works_43 (by decide) ?_
        exact E_lv [0, 1, 2, 3, 4, 5, 6, 7, 8] rfl (w_X12_works_47 hs17 h)
def W_X12_gangs_39 (X : Sx) (l : Launch) (D : Nat) (σ : AH) (r : Option Value) (σ' : AH) : Prop := ∃ d42 : Nat, ∃ v47 : Int32, ∃ σ43 : AH, d42 + 1 ≤ D ∧ Call X l m_X12_told d42 [.ref 124, .int (-1 : Int32)] σ (some (.int v47)) σ43 ∧ (r = some (.int v47) ∧ σ' = σ43)
set_option maxRecDepth 100000 in
theorem w_X12_gangs_39 {X : Sx} {l : Launch} {D : Nat} {σ : AH} {r : Option Value} {σ' : AH} (hs : Sh σ) (h : W_X12_gangs_39 X l D σ r σ') : E X l m_X12_gangs D 39 [(0, .ref 124)] [] σ r σ' := by
  unfold W_X12_gangs_39 at h
  refine E_aload_n 0 dX12_gangs_39 rfl rfl ?_
  refine E_iconst (-1 : Int32) dX12_gangs_40 (by decide) ?_
  obtain ⟨d42, v47, σ43, hD44, hC45, h⟩ := h
  have hs46 := hC45.1.2.2.2.1 hs
  refine E_callV (As := [.int (-1 : Int32)]) (rest := []) (r1 := (some (.int v47))) (b := 124) dX12_gangs_41 ok_X12_told in_X12_told se_X12_told ml_X12_163 hD44 rfl rfl (Nat.le_of_ble_eq_true rfl) (sk_124 hs) (sn hs (by decide)) (by decide) rfl (by decide +kernel) hC45 ?_
  obtain ⟨rfl, rfl⟩ := h
  exact E_iret dX12_gangs_44 rfl
def W_X12_gangs_0 (X : Sx) (l : Launch) (D : Nat) (x1 : Int32) (x2 : Int32) (x3 : Int32) (x4 : Int32) (σ : AH) (r : Option Value) (σ' : AH) : Prop := ∃ d1 : Nat, ∃ v6 : Int32, ∃ σ2 : AH, d1 + 1 ≤ D ∧ Call X l m_X12_isCouncil d1 [.int x1] (sI σ 124 0 (0 : Int32)) (some (.int v6)) σ2 ∧ (if v6 = 0 then W_X12_gangs_39 X l D σ2 r σ' else ∃ d7 : Nat, ∃ v12 : Int32, ∃ σ8 : AH, d7 + 1 ≤ D ∧ Call X l m_X12_in d7 [.long (x2).toInt64, .long (0 : Int64), .long (50 : Int64)] σ2 (some (.int v12)) σ8 ∧ (if v12 = 0 then W_X12_gangs_39 X l D σ8 r σ' else ∃ d13 : Nat, ∃ v18 : Int32, ∃ σ14 : AH, d13 + 1 ≤ D ∧ Call X l m_X12_isWeek d13 [.int x3] σ8 (some (.int v18)) σ14 ∧ (if v18 = 0 then W_X12_gangs_39 X l D σ14 r σ' else ∃ d19 : Nat, ∃ v24 : Int32, ∃ σ20 : AH, d19 + 1 ≤ D ∧ Call X l m_X12_isWeek d19 [.int x4] σ14 (some (.int v24)) σ20 ∧ (if v24 = 0 then W_X12_gangs_39 X l D σ20 r σ' else (if (gI σ20 125 3) = (60 : Int32) then ∃ d36 : Nat, ∃ v41 : Int32, ∃ σ37 : AH, d36 + 1 ≤ D ∧ Call X l m_X12_told d36 [.ref 124, .int (-5 : Int32)] σ20 (some (.int v41)) σ37 ∧ (r = some (.int v41) ∧ σ' = σ37) else ∃ d25 : Nat, ∃ σ26 : AH, d25 + 1 ≤ D ∧ Call X l m_X12_addFour d25 [.ref 124, .int ((23292 : Int32) + ((4 : Int32) * (gI σ20 125 3))), .int x1, .int x2, .int x3, .int x4] σ20 none σ26 ∧ ∃ d30 : Nat, ∃ v35 : Int32, ∃ σ31 : AH, d30 + 1 ≤ D ∧ Call X l m_X12_told d30 [.ref 124, .int (gI (sI σ26 125 3 ((gI σ26 125 3) + (1 : Int32))) 125 3)] (sI σ26 125 3 ((gI σ26 125 3) + (1 : Int32))) (some (.int v35)) σ31 ∧ (r = some (.int v35) ∧ σ' = σ31))))))
set_option maxRecDepth 100000 in
theorem w_X12_gangs_0 {X : Sx} {l : Launch} {D : Nat} {x1 : Int32} {x2 : Int32} {x3 : Int32} {x4 : Int32} {σ : AH} {r : Option Value} {σ' : AH} (hs : Sh σ) (h : W_X12_gangs_0 X l D x1 x2 x3 x4 σ r σ') : E X l m_X12_gangs D 0 [(0, .ref 124), (1, .int x1), (2, .int x2), (3, .int x3), (4, .int x4)] [] σ r σ' := by
  unfold W_X12_gangs_0 at h
  refine E_aload_n 0 dX12_gangs_0 rfl rfl ?_
  refine E_iconst (0 : Int32) dX12_gangs_1 (by decide) ?_
  refine E_putI dX12_gangs_2 fl_X12_145 rfl (Or.inl rfl) (sk_124 hs) (sn hs (by decide)) (Or.inl (by decide)) rfl rfl ?_
  refine E_iload_n 1 dX12_gangs_5 rfl rfl ?_
  obtain ⟨d1, v6, σ2, hD3, hC4, h⟩ := h
  have hs5 := hC4.1.2.2.2.1 hs
  refine E_callS (As := [.int x1]) (rest := []) (r1 := (some (.int v6))) dX12_gangs_6 ok_X12_isCouncil is_X12_isCouncil ml_X12_466 hD3 rfl rfl (Nat.le_of_ble_eq_true rfl) (by decide +kernel) hC4 ?_
  refine E_if_eq 39 dX12_gangs_9 (by decide) (fun c => ?_) (fun c => ?_)
  · rw [if_pos c] at h
    exact E_lv [0] rfl (w_X12_gangs_39 hs5 h)
  · rw [if_neg c] at h
    refine E_iload_n 2 dX12_gangs_12 rfl rfl ?_
    refine E_i2l dX12_gangs_13 ?_
    refine E_lconst (0 : Int64) dX12_gangs_14 (by decide) ?_
    refine E_ldc2 (50 : Int64) dX12_gangs_15 cl_X12_469 ?_
    obtain ⟨d7, v12, σ8, hD9, hC10, h⟩ := h
    have hs11 := hC10.1.2.2.2.1 hs5
    refine E_callS (As := [.long (x2).toInt64, .long (0 : Int64), .long (50 : Int64)]) (rest := []) (r1 := (some (.int v12))) dX12_gangs_18 ok_X12_in is_X12_in ml_X12_153 hD9 rfl rfl (Nat.le_of_ble_eq_true rfl) (by decide +kernel) hC10 ?_
    refine E_if_eq 39 dX12_gangs_21 (by decide) (fun c => ?_) (fun c => ?_)
    · rw [if_pos c] at h
      exact E_lv [0] rfl (w_X12_gangs_39 hs11 h)
    · rw [if_neg c] at h
      refine E_iload_n 3 dX12_gangs_24 rfl rfl ?_
      obtain ⟨d13, v18, σ14, hD15, hC16, h⟩ := h
      have hs17 := hC16.1.2.2.2.1 hs11
      refine E_callS (As := [.int x3]) (rest := []) (r1 := (some (.int v18))) dX12_gangs_25 ok_X12_isWeek is_X12_isWeek ml_X12_387 hD15 rfl rfl (Nat.le_of_ble_eq_true rfl) (by decide +kernel) hC16 ?_
      refine E_if_eq 39 dX12_gangs_28 (by decide) (fun c => ?_) (fun c => ?_)
      · rw [if_pos c] at h
        exact E_lv [0] rfl (w_X12_gangs_39 hs17 h)
      · rw [if_neg c] at h
        refine E_iload 4 dX12_gangs_31 rfl ?_
        obtain ⟨d19, v24, σ20, hD21, hC22, h⟩ := h
        have hs23 := hC22.1.2.2.2.1 hs17
        refine E_callS (As := [.int x4]) (rest := []) (r1 := (some (.int v24))) dX12_gangs_33 ok_X12_isWeek is_X12_isWeek ml_X12_387 hD21 rfl rfl (Nat.le_of_ble_eq_true rfl) (by decide +kernel) hC22 ?_
        refine E_if_ne 45 dX12_gangs_36 (by decide) (fun c => ?_) (fun c => ?_)
        · rw [if_neg c] at h
          refine E_aload_n 0 dX12_gangs_45 rfl rfl ?_
          refine E_getR 125 dX12_gangs_46 fl_X12_8 rfl (sk_124 hs23) (sn hs23 (by decide)) (sr_124_2 hs23) ?_
          refine E_iconst (3 : Int32) dX12_gangs_49 (by decide) ?_
          refine E_iald2 3 dX12_gangs_50 (sk_125 hs23) (sn hs23 (by decide)) (vp_lit (by decide)) (by decide) ?_
          refine E_bipush (60 : Int32) dX12_gangs_51 (by decide) ?_
          refine E_icmp_ne 63 dX12_gangs_53 (by decide) (fun c => ?_) (fun c => ?_)
          · rw [if_neg c] at h
            refine E_aload_n 0 dX12_gangs_63 rfl rfl ?_
            refine E_sipush (23292 : Int32) dX12_gangs_64 (by decide) ?_
            refine E_iconst (4 : Int32) dX12_gangs_67 (by decide) ?_
            refine E_aload_n 0 dX12_gangs_68 rfl rfl ?_
            refine E_getR 125 dX12_gangs_69 fl_X12_8 rfl (sk_124 hs23) (sn hs23 (by decide)) (sr_124_2 hs23) ?_
            refine E_iconst (3 : Int32) dX12_gangs_72 (by decide) ?_
            refine E_iald2 3 dX12_gangs_73 (sk_125 hs23) (sn hs23 (by decide)) (vp_lit (by decide)) (by decide) ?_
            refine E_imul dX12_gangs_74 ?_
            refine E_iadd dX12_gangs_75 ?_
            refine E_iload_n 1 dX12_gangs_76 rfl rfl ?_
            refine E_iload_n 2 dX12_gangs_77 rfl rfl ?_
            refine E_iload_n 3 dX12_gangs_78 rfl rfl ?_
            refine E_iload 4 dX12_gangs_79 rfl ?_
            obtain ⟨d25, σ26, hD27, hC28, h⟩ := h
            have hs29 := hC28.1.2.2.2.1 hs23
            refine E_callV (As := [.int ((23292 : Int32) + ((4 : Int32) * (gI σ20 125 3))), .int x1, .int x2, .int x3, .int x4]) (rest := []) (r1 := none) (b := 124) dX12_gangs_81 ok_X12_addFour in_X12_addFour se_X12_addFour ml_X12_458 hD27 rfl rfl (Nat.le_of_ble_eq_true rfl) (sk_124 hs23) (sn hs23 (by decide)) (by decide) rfl (by decide +kernel) hC28 ?_
            refine E_aload_n 0 dX12_gangs_84 rfl rfl ?_
            refine E_getR 125 dX12_gangs_85 fl_X12_8 rfl (sk_124 hs29) (sn hs29 (by decide)) (sr_124_2 hs29) ?_
            refine E_iconst (3 : Int32) dX12_gangs_88 (by decide) ?_
            refine E_dup2 dX12_gangs_89 rfl rfl ?_
            refine E_iald2 3 dX12_gangs_90 (sk_125 hs29) (sn hs29 (by decide)) (vp_lit (by decide)) (by decide) ?_
            refine E_iconst (1 : Int32) dX12_gangs_91 (by decide) ?_
            refine E_iadd dX12_gangs_92 ?_
            refine E_iast2 3 dX12_gangs_93 (sk_125 hs29) (sn hs29 (by decide)) (Or.inl (by decide)) (vp_lit (by decide)) (by decide) ?_
            refine E_aload_n 0 dX12_gangs_94 rfl rfl ?_
            refine E_aload_n 0 dX12_gangs_95 rfl rfl ?_
            refine E_getR 125 dX12_gangs_96 fl_X12_8 rfl (sk_124 hs29) (sn hs29 (by decide)) (sr_124_2 hs29) ?_
            refine E_iconst (3 : Int32) dX12_gangs_99 (by decide) ?_
            refine E_iald2 3 dX12_gangs_100 (sk_125 hs29) (sn hs29 (by decide)) (vp_lit (by decide)) (by decide) ?_
            obtain ⟨d30, v35, σ31, hD32, hC33, h⟩ := h
            have hs34 := hC33.1.2.2.2.1 hs29
            refine E_callV (As := [.int (gI (sI σ26 125 3 ((gI σ26 125 3) + (1 : Int32))) 125 3)]) (rest := []) (r1 := (some (.int v35))) (b := 124) dX12_gangs_101 ok_X12_told in_X12_told se_X12_told ml_X12_163 hD32 rfl rfl (Nat.le_of_ble_eq_true rfl) (sk_124 hs29) (sn hs29 (by decide)) (by decide) rfl (by decide +kernel) hC33 ?_
            obtain ⟨rfl, rfl⟩ := h
            exact E_iret dX12_gangs_104 rfl
          · rw [if_pos c] at h
            refine E_aload_n 0 dX12_gangs_56 rfl rfl ?_
            refine E_bipush (-5 : Int32) dX12_gangs_57 (by decide) ?_
            obtain ⟨d36, v41, σ37, hD38, hC39, h⟩ := h
            have hs40 := hC39.1.2.2.2.1 hs23
            refine E_callV (As := [.int (-5 : Int32)]) (rest := []) (r1 := (some (.int v41))) (b := 124) dX12_gangs_59 ok_X12_told in_X12_told se_X12_told ml_X12_163 hD38 rfl rfl (Nat.le_of_ble_eq_true rfl) (sk_124 hs23) (sn hs23 (by decide)) (by decide) rfl (by decide +kernel) hC39 ?_
            obtain ⟨rfl, rfl⟩ := h
            exact E_iret dX12_gangs_62 rfl
        · rw [if_pos c] at h
          exact E_lv [0] rfl (w_X12_gangs_39 hs23 h)
def W_X12_plot_44 (X : Sx) (l : Launch) (D : Nat) (σ : AH) (r : Option Value) (σ' : AH) : Prop := ∃ d42 : Nat, ∃ v47 : Int32, ∃ σ43 : AH, d42 + 1 ≤ D ∧ Call X l m_X12_told d42 [.ref 124, .int (-1 : Int32)] σ (some (.int v47)) σ43 ∧ (r = some (.int v47) ∧ σ' = σ43)
set_option maxRecDepth 100000 in
theorem w_X12_plot_44 {X : Sx} {l : Launch} {D : Nat} {σ : AH} {r : Option Value} {σ' : AH} (hs : Sh σ) (h : W_X12_plot_44 X l D σ r σ') : E X l m_X12_plot D 44 [(0, .ref 124)] [] σ r σ' := by
  unfold W_X12_plot_44 at h
  refine E_aload_n 0 dX12_plot_44 rfl rfl ?_
  refine E_iconst (-1 : Int32) dX12_plot_45 (by decide) ?_
  obtain ⟨d42, v47, σ43, hD44, hC45, h⟩ := h
  have hs46 := hC45.1.2.2.2.1 hs
  refine E_callV (As := [.int (-1 : Int32)]) (rest := []) (r1 := (some (.int v47))) (b := 124) dX12_plot_46 ok_X12_told in_X12_told se_X12_told ml_X12_163 hD44 rfl rfl (Nat.le_of_ble_eq_true rfl) (sk_124 hs) (sn hs (by decide)) (by decide) rfl (by decide +kernel) hC45 ?_
  obtain ⟨rfl, rfl⟩ := h
  exact E_iret dX12_plot_49 rfl
def W_X12_plot_0 (X : Sx) (l : Launch) (D : Nat) (x1 : Int32) (x2 : Int32) (x3 : Int32) (x4 : Int32) (σ : AH) (r : Option Value) (σ' : AH) : Prop := ∃ d1 : Nat, ∃ v6 : Int32, ∃ σ2 : AH, d1 + 1 ≤ D ∧ Call X l m_X12_isCouncil d1 [.int x1] (sI σ 124 0 (0 : Int32)) (some (.int v6)) σ2 ∧ (if v6 = 0 then W_X12_plot_44 X l D σ2 r σ' else ∃ d7 : Nat, ∃ v12 : Int32, ∃ σ8 : AH, d7 + 1 ≤ D ∧ Call X l m_X12_in d7 [.long (x2).toInt64, .long (0 : Int64), .long (2 : Int64)] σ2 (some (.int v12)) σ8 ∧ (if v12 = 0 then W_X12_plot_44 X l D σ8 r σ' else ∃ d13 : Nat, ∃ v18 : Int32, ∃ σ14 : AH, d13 + 1 ≤ D ∧ Call X l m_X12_in d13 [.long (x3).toInt64, .long (1 : Int64), .long (6 : Int64)] σ8 (some (.int v18)) σ14 ∧ (if v18 = 0 then W_X12_plot_44 X l D σ14 r σ' else ∃ d19 : Nat, ∃ v24 : Int32, ∃ σ20 : AH, d19 + 1 ≤ D ∧ Call X l m_X12_isWeek d19 [.int x4] σ14 (some (.int v24)) σ20 ∧ (if v24 = 0 then W_X12_plot_44 X l D σ20 r σ' else (if (gI σ20 125 4) = (30 : Int32) then ∃ d36 : Nat, ∃ v41 : Int32, ∃ σ37 : AH, d36 + 1 ≤ D ∧ Call X l m_X12_told d36 [.ref 124, .int (-5 : Int32)] σ20 (some (.int v41)) σ37 ∧ (r = some (.int v41) ∧ σ' = σ37) else ∃ d25 : Nat, ∃ σ26 : AH, d25 + 1 ≤ D ∧ Call X l m_X12_addFour d25 [.ref 124, .int ((23532 : Int32) + ((4 : Int32) * (gI σ20 125 4))), .int x1, .int x2, .int x3, .int x4] σ20 none σ26 ∧ ∃ d30 : Nat, ∃ v35 : Int32, ∃ σ31 : AH, d30 + 1 ≤ D ∧ Call X l m_X12_told d30 [.ref 124, .int ((gI (sI σ26 125 4 ((gI σ26 125 4) + (1 : Int32))) 125 4) - (1 : Int32))] (sI σ26 125 4 ((gI σ26 125 4) + (1 : Int32))) (some (.int v35)) σ31 ∧ (r = some (.int v35) ∧ σ' = σ31))))))
set_option maxRecDepth 100000 in
theorem w_X12_plot_0 {X : Sx} {l : Launch} {D : Nat} {x1 : Int32} {x2 : Int32} {x3 : Int32} {x4 : Int32} {σ : AH} {r : Option Value} {σ' : AH} (hs : Sh σ) (h : W_X12_plot_0 X l D x1 x2 x3 x4 σ r σ') : E X l m_X12_plot D 0 [(0, .ref 124), (1, .int x1), (2, .int x2), (3, .int x3), (4, .int x4)] [] σ r σ' := by
  unfold W_X12_plot_0 at h
  refine E_aload_n 0 dX12_plot_0 rfl rfl ?_
  refine E_iconst (0 : Int32) dX12_plot_1 (by decide) ?_
  refine E_putI dX12_plot_2 fl_X12_145 rfl (Or.inl rfl) (sk_124 hs) (sn hs (by decide)) (Or.inl (by decide)) rfl rfl ?_
  refine E_iload_n 1 dX12_plot_5 rfl rfl ?_
  obtain ⟨d1, v6, σ2, hD3, hC4, h⟩ := h
  have hs5 := hC4.1.2.2.2.1 hs
  refine E_callS (As := [.int x1]) (rest := []) (r1 := (some (.int v6))) dX12_plot_6 ok_X12_isCouncil is_X12_isCouncil ml_X12_466 hD3 rfl rfl (Nat.le_of_ble_eq_true rfl) (by decide +kernel) hC4 ?_
  refine E_if_eq 44 dX12_plot_9 (by decide) (fun c => ?_) (fun c => ?_)
  · rw [if_pos c] at h
    exact E_lv [0] rfl (w_X12_plot_44 hs5 h)
  · rw [if_neg c] at h
    refine E_iload_n 2 dX12_plot_12 rfl rfl ?_
    refine E_i2l dX12_plot_13 ?_
    refine E_lconst (0 : Int64) dX12_plot_14 (by decide) ?_
    refine E_ldc2 (2 : Int64) dX12_plot_15 cl_X12_161 ?_
    obtain ⟨d7, v12, σ8, hD9, hC10, h⟩ := h
    have hs11 := hC10.1.2.2.2.1 hs5
    refine E_callS (As := [.long (x2).toInt64, .long (0 : Int64), .long (2 : Int64)]) (rest := []) (r1 := (some (.int v12))) dX12_plot_18 ok_X12_in is_X12_in ml_X12_153 hD9 rfl rfl (Nat.le_of_ble_eq_true rfl) (by decide +kernel) hC10 ?_
    refine E_if_eq 44 dX12_plot_21 (by decide) (fun c => ?_) (fun c => ?_)
    · rw [if_pos c] at h
      exact E_lv [0] rfl (w_X12_plot_44 hs11 h)
    · rw [if_neg c] at h
      refine E_iload_n 3 dX12_plot_24 rfl rfl ?_
      refine E_i2l dX12_plot_25 ?_
      refine E_lconst (1 : Int64) dX12_plot_26 (by decide) ?_
      refine E_ldc2 (6 : Int64) dX12_plot_27 cl_X12_450 ?_
      obtain ⟨d13, v18, σ14, hD15, hC16, h⟩ := h
      have hs17 := hC16.1.2.2.2.1 hs11
      refine E_callS (As := [.long (x3).toInt64, .long (1 : Int64), .long (6 : Int64)]) (rest := []) (r1 := (some (.int v18))) dX12_plot_30 ok_X12_in is_X12_in ml_X12_153 hD15 rfl rfl (Nat.le_of_ble_eq_true rfl) (by decide +kernel) hC16 ?_
      refine E_if_eq 44 dX12_plot_33 (by decide) (fun c => ?_) (fun c => ?_)
      · rw [if_pos c] at h
        exact E_lv [0] rfl (w_X12_plot_44 hs17 h)
      · rw [if_neg c] at h
        refine E_iload 4 dX12_plot_36 rfl ?_
        obtain ⟨d19, v24, σ20, hD21, hC22, h⟩ := h
        have hs23 := hC22.1.2.2.2.1 hs17
        refine E_callS (As := [.int x4]) (rest := []) (r1 := (some (.int v24))) dX12_plot_38 ok_X12_isWeek is_X12_isWeek ml_X12_387 hD21 rfl rfl (Nat.le_of_ble_eq_true rfl) (by decide +kernel) hC22 ?_
        refine E_if_ne 50 dX12_plot_41 (by decide) (fun c => ?_) (fun c => ?_)
        · rw [if_neg c] at h
          refine E_aload_n 0 dX12_plot_50 rfl rfl ?_
          refine E_getR 125 dX12_plot_51 fl_X12_8 rfl (sk_124 hs23) (sn hs23 (by decide)) (sr_124_2 hs23) ?_
          refine E_iconst (4 : Int32) dX12_plot_54 (by decide) ?_
          refine E_iald2 4 dX12_plot_55 (sk_125 hs23) (sn hs23 (by decide)) (vp_lit (by decide)) (by decide) ?_
          refine E_bipush (30 : Int32) dX12_plot_56 (by decide) ?_
          refine E_icmp_ne 68 dX12_plot_58 (by decide) (fun c => ?_) (fun c => ?_)
          · rw [if_neg c] at h
            refine E_aload_n 0 dX12_plot_68 rfl rfl ?_
            refine E_sipush (23532 : Int32) dX12_plot_69 (by decide) ?_
            refine E_iconst (4 : Int32) dX12_plot_72 (by decide) ?_
            refine E_aload_n 0 dX12_plot_73 rfl rfl ?_
            refine E_getR 125 dX12_plot_74 fl_X12_8 rfl (sk_124 hs23) (sn hs23 (by decide)) (sr_124_2 hs23) ?_
            refine E_iconst (4 : Int32) dX12_plot_77 (by decide) ?_
            refine E_iald2 4 dX12_plot_78 (sk_125 hs23) (sn hs23 (by decide)) (vp_lit (by decide)) (by decide) ?_
            refine E_imul dX12_plot_79 ?_
            refine E_iadd dX12_plot_80 ?_
            refine E_iload_n 1 dX12_plot_81 rfl rfl ?_
            refine E_iload_n 2 dX12_plot_82 rfl rfl ?_
            refine E_iload_n 3 dX12_plot_83 rfl rfl ?_
            refine E_iload 4 dX12_plot_84 rfl ?_
            obtain ⟨d25, σ26, hD27, hC28, h⟩ := h
            have hs29 := hC28.1.2.2.2.1 hs23
            refine E_callV (As := [.int ((23532 : Int32) + ((4 : Int32) * (gI σ20 125 4))), .int x1, .int x2, .int x3, .int x4]) (rest := []) (r1 := none) (b := 124) dX12_plot_86 ok_X12_addFour in_X12_addFour se_X12_addFour ml_X12_458 hD27 rfl rfl (Nat.le_of_ble_eq_true rfl) (sk_124 hs23) (sn hs23 (by decide)) (by decide) rfl (by decide +kernel) hC28 ?_
            refine E_aload_n 0 dX12_plot_89 rfl rfl ?_
            refine E_getR 125 dX12_plot_90 fl_X12_8 rfl (sk_124 hs29) (sn hs29 (by decide)) (sr_124_2 hs29) ?_
            refine E_iconst (4 : Int32) dX12_plot_93 (by decide) ?_
            refine E_dup2 dX12_plot_94 rfl rfl ?_
            refine E_iald2 4 dX12_plot_95 (sk_125 hs29) (sn hs29 (by decide)) (vp_lit (by decide)) (by decide) ?_
            refine E_iconst (1 : Int32) dX12_plot_96 (by decide) ?_
            refine E_iadd dX12_plot_97 ?_
            refine E_iast2 4 dX12_plot_98 (sk_125 hs29) (sn hs29 (by decide)) (Or.inl (by decide)) (vp_lit (by decide)) (by decide) ?_
            refine E_aload_n 0 dX12_plot_99 rfl rfl ?_
            refine E_aload_n 0 dX12_plot_100 rfl rfl ?_
            refine E_getR 125 dX12_plot_101 fl_X12_8 rfl (sk_124 hs29) (sn hs29 (by decide)) (sr_124_2 hs29) ?_
            refine E_iconst (4 : Int32) dX12_plot_104 (by decide) ?_
            refine E_iald2 4 dX12_plot_105 (sk_125 hs29) (sn hs29 (by decide)) (vp_lit (by decide)) (by decide) ?_
            refine E_iconst (1 : Int32) dX12_plot_106 (by decide) ?_
            refine E_isub dX12_plot_107 ?_
            obtain ⟨d30, v35, σ31, hD32, hC33, h⟩ := h
            have hs34 := hC33.1.2.2.2.1 hs29
            refine E_callV (As := [.int ((gI (sI σ26 125 4 ((gI σ26 125 4) + (1 : Int32))) 125 4) - (1 : Int32))]) (rest := []) (r1 := (some (.int v35))) (b := 124) dX12_plot_108 ok_X12_told in_X12_told se_X12_told ml_X12_163 hD32 rfl rfl (Nat.le_of_ble_eq_true rfl) (sk_124 hs29) (sn hs29 (by decide)) (by decide) rfl (by decide +kernel) hC33 ?_
            obtain ⟨rfl, rfl⟩ := h
            exact E_iret dX12_plot_111 rfl
          · rw [if_pos c] at h
            refine E_aload_n 0 dX12_plot_61 rfl rfl ?_
            refine E_bipush (-5 : Int32) dX12_plot_62 (by decide) ?_
            obtain ⟨d36, v41, σ37, hD38, hC39, h⟩ := h
            have hs40 := hC39.1.2.2.2.1 hs23
            refine E_callV (As := [.int (-5 : Int32)]) (rest := []) (r1 := (some (.int v41))) (b := 124) dX12_plot_64 ok_X12_told in_X12_told se_X12_told ml_X12_163 hD38 rfl rfl (Nat.le_of_ble_eq_true rfl) (sk_124 hs23) (sn hs23 (by decide)) (by decide) rfl (by decide +kernel) hC39 ?_
            obtain ⟨rfl, rfl⟩ := h
            exact E_iret dX12_plot_67 rfl
        · rw [if_pos c] at h
          exact E_lv [0] rfl (w_X12_plot_44 hs23 h)
def W_X12_isPlot_0 (X : Sx) (l : Launch) (D : Nat) (x1 : Int32) (σ : AH) (r : Option Value) (σ' : AH) : Prop := ∃ d1 : Nat, ∃ v6 : Int32, ∃ σ2 : AH, d1 + 1 ≤ D ∧ Call X l m_X12_in d1 [.long (x1).toInt64, .long (0 : Int64), .long (((gI σ 125 4)).toInt64 - (1 : Int64))] σ (some (.int v6)) σ2 ∧ ((v6 = 0 ∨ v6 = 1) ∧ r = some (.int v6) ∧ σ' = σ2)
set_option maxRecDepth 100000 in
theorem w_X12_isPlot_0 {X : Sx} {l : Launch} {D : Nat} {x1 : Int32} {σ : AH} {r : Option Value} {σ' : AH} (hs : Sh σ) (h : W_X12_isPlot_0 X l D x1 σ r σ') : E X l m_X12_isPlot D 0 [(0, .ref 124), (1, .int x1)] [] σ r σ' := by
  unfold W_X12_isPlot_0 at h
  refine E_iload_n 1 dX12_isPlot_0 rfl rfl ?_
  refine E_i2l dX12_isPlot_1 ?_
  refine E_lconst (0 : Int64) dX12_isPlot_2 (by decide) ?_
  refine E_aload_n 0 dX12_isPlot_3 rfl rfl ?_
  refine E_getR 125 dX12_isPlot_4 fl_X12_8 rfl (sk_124 hs) (sn hs (by decide)) (sr_124_2 hs) ?_
  refine E_iconst (4 : Int32) dX12_isPlot_7 (by decide) ?_
  refine E_iald2 4 dX12_isPlot_8 (sk_125 hs) (sn hs (by decide)) (vp_lit (by decide)) (by decide) ?_
  refine E_i2l dX12_isPlot_9 ?_
  refine E_lconst (1 : Int64) dX12_isPlot_10 (by decide) ?_
  refine E_lsub dX12_isPlot_11 ?_
  obtain ⟨d1, v6, σ2, hD3, hC4, h⟩ := h
  have hs5 := hC4.1.2.2.2.1 hs
  refine E_callS (As := [.long (x1).toInt64, .long (0 : Int64), .long (((gI σ 125 4)).toInt64 - (1 : Int64))]) (rest := []) (r1 := (some (.int v6))) dX12_isPlot_12 ok_X12_in is_X12_in ml_X12_153 hD3 rfl rfl (Nat.le_of_ble_eq_true rfl) (by decide +kernel) hC4 ?_
  obtain ⟨hz, rfl, rfl⟩ := h
  exact E_zret dX12_isPlot_15 rfl hz
def W_X12_councilOf_0 (X : Sx) (l : Launch) (D : Nat) (x1 : Int32) (σ : AH) (r : Option Value) (σ' : AH) : Prop := vp_in ((23532 : Int32) + ((4 : Int32) * x1)) 269832 ∧ (r = some (.int (gI σ 125 ((23532 : Int32) + ((4 : Int32) * x1)).toNatClampNeg)) ∧ σ' = σ)
set_option maxRecDepth 100000 in
theorem w_X12_councilOf_0 {X : Sx} {l : Launch} {D : Nat} {x1 : Int32} {σ : AH} {r : Option Value} {σ' : AH} (hs : Sh σ) (h : W_X12_councilOf_0 X l D x1 σ r σ') : E X l m_X12_councilOf D 0 [(0, .ref 124), (1, .int x1)] [] σ r σ' := by
  unfold W_X12_councilOf_0 at h
  refine E_aload_n 0 dX12_councilOf_0 rfl rfl ?_
  refine E_getR 125 dX12_councilOf_1 fl_X12_8 rfl (sk_124 hs) (sn hs (by decide)) (sr_124_2 hs) ?_
  refine E_sipush (23532 : Int32) dX12_councilOf_4 (by decide) ?_
  refine E_iconst (4 : Int32) dX12_councilOf_7 (by decide) ?_
  refine E_iload_n 1 dX12_councilOf_8 rfl rfl ?_
  refine E_imul dX12_councilOf_9 ?_
  refine E_iadd dX12_councilOf_10 ?_
  obtain ⟨g1, h⟩ := h
  refine E_iald2 (((23532 : Int32) + ((4 : Int32) * x1)).toNatClampNeg) dX12_councilOf_11 (sk_125 hs) (sn hs (by decide)) g1 rfl ?_
  obtain ⟨rfl, rfl⟩ := h
  exact E_iret dX12_councilOf_12 rfl
def W_X12_kindOf_0 (X : Sx) (l : Launch) (D : Nat) (x1 : Int32) (σ : AH) (r : Option Value) (σ' : AH) : Prop := vp_in (((23532 : Int32) + ((4 : Int32) * x1)) + (1 : Int32)) 269832 ∧ (r = some (.int (gI σ 125 (((23532 : Int32) + ((4 : Int32) * x1)) + (1 : Int32)).toNatClampNeg)) ∧ σ' = σ)
set_option maxRecDepth 100000 in
theorem w_X12_kindOf_0 {X : Sx} {l : Launch} {D : Nat} {x1 : Int32} {σ : AH} {r : Option Value} {σ' : AH} (hs : Sh σ) (h : W_X12_kindOf_0 X l D x1 σ r σ') : E X l m_X12_kindOf D 0 [(0, .ref 124), (1, .int x1)] [] σ r σ' := by
  unfold W_X12_kindOf_0 at h
  refine E_aload_n 0 dX12_kindOf_0 rfl rfl ?_
  refine E_getR 125 dX12_kindOf_1 fl_X12_8 rfl (sk_124 hs) (sn hs (by decide)) (sr_124_2 hs) ?_
  refine E_sipush (23532 : Int32) dX12_kindOf_4 (by decide) ?_
  refine E_iconst (4 : Int32) dX12_kindOf_7 (by decide) ?_
  refine E_iload_n 1 dX12_kindOf_8 rfl rfl ?_
  refine E_imul dX12_kindOf_9 ?_
  refine E_iadd dX12_kindOf_10 ?_
  refine E_iconst (1 : Int32) dX12_kindOf_11 (by decide) ?_
  refine E_iadd dX12_kindOf_12 ?_
  obtain ⟨g1, h⟩ := h
  refine E_iald2 ((((23532 : Int32) + ((4 : Int32) * x1)) + (1 : Int32)).toNatClampNeg) dX12_kindOf_13 (sk_125 hs) (sn hs (by decide)) g1 rfl ?_
  obtain ⟨rfl, rfl⟩ := h
  exact E_iret dX12_kindOf_14 rfl
def W_X12_roomsOf_0 (X : Sx) (l : Launch) (D : Nat) (x1 : Int32) (σ : AH) (r : Option Value) (σ' : AH) : Prop := vp_in (((23532 : Int32) + ((4 : Int32) * x1)) + (2 : Int32)) 269832 ∧ (r = some (.int (gI σ 125 (((23532 : Int32) + ((4 : Int32) * x1)) + (2 : Int32)).toNatClampNeg)) ∧ σ' = σ)
set_option maxRecDepth 100000 in
theorem w_X12_roomsOf_0 {X : Sx} {l : Launch} {D : Nat} {x1 : Int32} {σ : AH} {r : Option Value} {σ' : AH} (hs : Sh σ) (h : W_X12_roomsOf_0 X l D x1 σ r σ') : E X l m_X12_roomsOf D 0 [(0, .ref 124), (1, .int x1)] [] σ r σ' := by
  unfold W_X12_roomsOf_0 at h
  refine E_aload_n 0 dX12_roomsOf_0 rfl rfl ?_
  refine E_getR 125 dX12_roomsOf_1 fl_X12_8 rfl (sk_124 hs) (sn hs (by decide)) (sr_124_2 hs) ?_
  refine E_sipush (23532 : Int32) dX12_roomsOf_4 (by decide) ?_
  refine E_iconst (4 : Int32) dX12_roomsOf_7 (by decide) ?_
  refine E_iload_n 1 dX12_roomsOf_8 rfl rfl ?_
  refine E_imul dX12_roomsOf_9 ?_
  refine E_iadd dX12_roomsOf_10 ?_
  refine E_iconst (2 : Int32) dX12_roomsOf_11 (by decide) ?_
  refine E_iadd dX12_roomsOf_12 ?_
  obtain ⟨g1, h⟩ := h
  refine E_iald2 ((((23532 : Int32) + ((4 : Int32) * x1)) + (2 : Int32)).toNatClampNeg) dX12_roomsOf_13 (sk_125 hs) (sn hs (by decide)) g1 rfl ?_
  obtain ⟨rfl, rfl⟩ := h
  exact E_iret dX12_roomsOf_14 rfl
def W_X12_start_19 (X : Sx) (l : Launch) (D : Nat) (σ : AH) (r : Option Value) (σ' : AH) : Prop := ∃ d25 : Nat, ∃ v30 : Int32, ∃ σ26 : AH, d25 + 1 ≤ D ∧ Call X l m_X12_told d25 [.ref 124, .int (-1 : Int32)] σ (some (.int v30)) σ26 ∧ (r = some (.int v30) ∧ σ' = σ26)
set_option maxRecDepth 100000 in
theorem w_X12_start_19 {X : Sx} {l : Launch} {D : Nat} {σ : AH} {r : Option Value} {σ' : AH} (hs : Sh σ) (h : W_X12_start_19 X l D σ r σ') : E X l m_X12_start D 19 [(0, .ref 124)] [] σ r σ' := by
  unfold W_X12_start_19 at h
  refine E_aload_n 0 dX12_start_19 rfl rfl ?_
  refine E_iconst (-1 : Int32) dX12_start_20 (by decide) ?_
  obtain ⟨d25, v30, σ26, hD27, hC28, h⟩ := h
  have hs29 := hC28.1.2.2.2.1 hs
  refine E_callV (As := [.int (-1 : Int32)]) (rest := []) (r1 := (some (.int v30))) (b := 124) dX12_start_21 ok_X12_told in_X12_told se_X12_told ml_X12_163 hD27 rfl rfl (Nat.le_of_ble_eq_true rfl) (sk_124 hs) (sn hs (by decide)) (by decide) rfl (by decide +kernel) hC28 ?_
  obtain ⟨rfl, rfl⟩ := h
  exact E_iret dX12_start_24 rfl
def W_X12_start_0 (X : Sx) (l : Launch) (D : Nat) (x1 : Int32) (x2 : Int32) (x3 : Int32) (σ : AH) (r : Option Value) (σ' : AH) : Prop := ∃ d1 : Nat, ∃ v6 : Int32, ∃ σ2 : AH, d1 + 1 ≤ D ∧ Call X l m_X12_isWeek d1 [.int x2] (sI σ 124 0 (0 : Int32)) (some (.int v6)) σ2 ∧ (if v6 = 0 then W_X12_start_19 X l D σ2 r σ' else ∃ d7 : Nat, ∃ v12 : Int32, ∃ σ8 : AH, d7 + 1 ≤ D ∧ Call X l m_X12_isWeek d7 [.int x3] σ2 (some (.int v12)) σ8 ∧ (if v12 = 0 then W_X12_start_19 X l D σ8 r σ' else ∃ d13 : Nat, ∃ v18 : Int32, ∃ σ14 : AH, d13 + 1 ≤ D ∧ Call X l m_X12_isPlot d13 [.ref 124, .int x1] σ8 (some (.int v18)) σ14 ∧ (if v18 = 0 then ∃ d19 : Nat, ∃ v24 : Int32, ∃ σ20 : AH, d19 + 1 ≤ D ∧ Call X l m_X12_told d19 [.ref 124, .int (-2 : Int32)] σ14 (some (.int v24)) σ20 ∧ (r = some (.int v24) ∧ σ' = σ20) else E X l m_X12_start D 43 [(0, .ref 124), (1, .int x1), (2, .int x2), (3, .int x3), (4, .int (0 : Int32))] [] σ14 r σ')))
set_option maxRecDepth 100000 in
theorem w_X12_start_0 {X : Sx} {l : Launch} {D : Nat} {x1 : Int32} {x2 : Int32} {x3 : Int32} {σ : AH} {r : Option Value} {σ' : AH} (hs : Sh σ) (h : W_X12_start_0 X l D x1 x2 x3 σ r σ') : E X l m_X12_start D 0 [(0, .ref 124), (1, .int x1), (2, .int x2), (3, .int x3)] [] σ r σ' := by
  unfold W_X12_start_0 at h
  refine E_aload_n 0 dX12_start_0 rfl rfl ?_
  refine E_iconst (0 : Int32) dX12_start_1 (by decide) ?_
  refine E_putI dX12_start_2 fl_X12_145 rfl (Or.inl rfl) (sk_124 hs) (sn hs (by decide)) (Or.inl (by decide)) rfl rfl ?_
  refine E_iload_n 2 dX12_start_5 rfl rfl ?_
  obtain ⟨d1, v6, σ2, hD3, hC4, h⟩ := h
  have hs5 := hC4.1.2.2.2.1 hs
  refine E_callS (As := [.int x2]) (rest := []) (r1 := (some (.int v6))) dX12_start_6 ok_X12_isWeek is_X12_isWeek ml_X12_387 hD3 rfl rfl (Nat.le_of_ble_eq_true rfl) (by decide +kernel) hC4 ?_
  refine E_if_eq 19 dX12_start_9 (by decide) (fun c => ?_) (fun c => ?_)
  · rw [if_pos c] at h
    exact E_lv [0] rfl (w_X12_start_19 hs5 h)
  · rw [if_neg c] at h
    refine E_iload_n 3 dX12_start_12 rfl rfl ?_
    obtain ⟨d7, v12, σ8, hD9, hC10, h⟩ := h
    have hs11 := hC10.1.2.2.2.1 hs5
    refine E_callS (As := [.int x3]) (rest := []) (r1 := (some (.int v12))) dX12_start_13 ok_X12_isWeek is_X12_isWeek ml_X12_387 hD9 rfl rfl (Nat.le_of_ble_eq_true rfl) (by decide +kernel) hC10 ?_
    refine E_if_ne 25 dX12_start_16 (by decide) (fun c => ?_) (fun c => ?_)
    · rw [if_neg c] at h
      refine E_aload_n 0 dX12_start_25 rfl rfl ?_
      refine E_iload_n 1 dX12_start_26 rfl rfl ?_
      obtain ⟨d13, v18, σ14, hD15, hC16, h⟩ := h
      have hs17 := hC16.1.2.2.2.1 hs11
      refine E_callV (As := [.int x1]) (rest := []) (r1 := (some (.int v18))) (b := 124) dX12_start_27 ok_X12_isPlot in_X12_isPlot se_X12_isPlot ml_X12_471 hD15 rfl rfl (Nat.le_of_ble_eq_true rfl) (sk_124 hs11) (sn hs11 (by decide)) (by decide) rfl (by decide +kernel) hC16 ?_
      refine E_if_ne 40 dX12_start_30 (by decide) (fun c => ?_) (fun c => ?_)
      · rw [if_neg c] at h
        refine E_iconst (0 : Int32) dX12_start_40 (by decide) ?_
        refine E_istore [(4, .int (0 : Int32)), (0, .ref 124), (1, .int x1), (2, .int x2), (3, .int x3)] dX12_start_41 (by decide) rfl ?_
        exact E_lv [1, 2, 3, 4, 0] rfl h
      · rw [if_pos c] at h
        refine E_aload_n 0 dX12_start_33 rfl rfl ?_
        refine E_bipush (-2 : Int32) dX12_start_34 (by decide) ?_
        obtain ⟨d19, v24, σ20, hD21, hC22, h⟩ := h
        have hs23 := hC22.1.2.2.2.1 hs17
        refine E_callV (As := [.int (-2 : Int32)]) (rest := []) (r1 := (some (.int v24))) (b := 124) dX12_start_36 ok_X12_told in_X12_told se_X12_told ml_X12_163 hD21 rfl rfl (Nat.le_of_ble_eq_true rfl) (sk_124 hs17) (sn hs17 (by decide)) (by decide) rfl (by decide +kernel) hC22 ?_
        obtain ⟨rfl, rfl⟩ := h
        exact E_iret dX12_start_39 rfl
    · rw [if_pos c] at h
      exact E_lv [0] rfl (w_X12_start_19 hs11 h)
def W_X12_start_43 (X : Sx) (l : Launch) (D : Nat) (x1 : Int32) (x2 : Int32) (x3 : Int32) (x4 : Int32) (σ : AH) (r : Option Value) (σ' : AH) : Prop := (if (gI σ 124 48) ≤ x4 then (if (gI σ 125 5) = (60 : Int32) then ∃ d46 : Nat, ∃ v51 : Int32, ∃ σ47 : AH, d46 + 1 ≤ D ∧ Call X l m_X12_told d46 [.ref 124, .int (-5 : Int32)] σ (some (.int v51)) σ47 ∧ (r = some (.int v51) ∧ σ' = σ47) else vp_in ((23652 : Int32) + ((3 : Int32) * (gI σ 125 5))) 269832 ∧ vp_in (((23652 : Int32) + ((3 : Int32) * (gI σ 125 5))) + (1 : Int32)) 269832 ∧ (∀ τ33 : AH, τ33 = (sI (sI σ 125 (((23652 : Int32) + ((3 : Int32) * (gI σ 125 5))).toNatClampNeg) x1) 125 ((((23652 : Int32) + ((3 : Int32) * (gI σ 125 5))) + (1 : Int32)).toNatClampNeg) x2) → vp_in (((23652 : Int32) + ((3 : Int32) * (gI σ 125 5))) + (2 : Int32)) 269832 ∧ (∀ τ37 : AH, τ37 = (sI (sI τ33 125 ((((23652 : Int32) + ((3 : Int32) * (gI σ 125 5))) + (2 : Int32)).toNatClampNeg) x3) 125 5 ((gI (sI τ33 125 ((((23652 : Int32) + ((3 : Int32) * (gI σ 125 5))) + (2 : Int32)).toNatClampNeg) x3) 125 5) + (1 : Int32))) → ∃ d40 : Nat, ∃ v45 : Int32, ∃ σ41 : AH, d40 + 1 ≤ D ∧ Call X l m_X12_told d40 [.ref 124, .int (gI τ37 125 5)] τ37 (some (.int v45)) σ41 ∧ (r = some (.int v45) ∧ σ' = σ41)))) else vp_in x4 6 ∧ (if (gI σ 152 x4.toNatClampNeg) = x1 then ∃ d53 : Nat, ∃ v58 : Int32, ∃ σ54 : AH, d53 + 1 ≤ D ∧ Call X l m_X12_told d53 [.ref 124, .int (-3 : Int32)] σ (some (.int v58)) σ54 ∧ (r = some (.int v58) ∧ σ' = σ54) else E X l m_X12_start D 43 [(0, .ref 124), (1, .int x1), (2, .int x2), (3, .int x3), (4, .int (x4 + 1))] [] σ r σ'))
set_option maxRecDepth 100000 in
theorem w_X12_start_43 {X : Sx} {l : Launch} {D : Nat} {x1 : Int32} {x2 : Int32} {x3 : Int32} {x4 : Int32} {σ : AH} {r : Option Value} {σ' : AH} (hs : Sh σ) (h : W_X12_start_43 X l D x1 x2 x3 x4 σ r σ') : E X l m_X12_start D 43 [(0, .ref 124), (1, .int x1), (2, .int x2), (3, .int x3), (4, .int x4)] [] σ r σ' := by
  unfold W_X12_start_43 at h
  refine E_iload 4 dX12_start_43 rfl ?_
  refine E_aload_n 0 dX12_start_45 rfl rfl ?_
  refine E_getI dX12_start_46 fl_X12_170 rfl (sk_124 hs) (sn hs (by decide)) ?_
  refine E_icmp_ge 76 dX12_start_49 (by decide) (fun c => ?_) (fun c => ?_)
  · rw [if_pos c] at h
    refine E_aload_n 0 dX12_start_76 rfl rfl ?_
    refine E_getR 125 dX12_start_77 fl_X12_8 rfl (sk_124 hs) (sn hs (by decide)) (sr_124_2 hs) ?_
    refine E_iconst (5 : Int32) dX12_start_80 (by decide) ?_
    refine E_iald2 5 dX12_start_81 (sk_125 hs) (sn hs (by decide)) (vp_lit (by decide)) (by decide) ?_
    refine E_bipush (60 : Int32) dX12_start_82 (by decide) ?_
    refine E_icmp_ne 94 dX12_start_84 (by decide) (fun c => ?_) (fun c => ?_)
    · rw [if_neg c] at h
      refine E_sipush (23652 : Int32) dX12_start_94 (by decide) ?_
      refine E_iconst (3 : Int32) dX12_start_97 (by decide) ?_
      refine E_aload_n 0 dX12_start_98 rfl rfl ?_
      refine E_getR 125 dX12_start_99 fl_X12_8 rfl (sk_124 hs) (sn hs (by decide)) (sr_124_2 hs) ?_
      refine E_iconst (5 : Int32) dX12_start_102 (by decide) ?_
      refine E_iald2 5 dX12_start_103 (sk_125 hs) (sn hs (by decide)) (vp_lit (by decide)) (by decide) ?_
      refine E_imul dX12_start_104 ?_
      refine E_iadd dX12_start_105 ?_
      refine E_istore [(4, .int ((23652 : Int32) + ((3 : Int32) * (gI σ 125 5)))), (0, .ref 124), (1, .int x1), (2, .int x2), (3, .int x3)] dX12_start_106 (by decide) rfl ?_
      refine E_aload_n 1 dX12_start_108 rfl rfl ?_
      refine E_getR 125 dX12_start_109 fl_X12_8 rfl (sk_124 hs) (sn hs (by decide)) (sr_124_2 hs) ?_
      refine E_iload 0 dX12_start_112 rfl ?_
      refine E_iload_n 2 dX12_start_114 rfl rfl ?_
      obtain ⟨g31, h⟩ := h
      refine E_iast2 (((23652 : Int32) + ((3 : Int32) * (gI σ 125 5))).toNatClampNeg) dX12_start_115 (sk_125 hs) (sn hs (by decide)) (Or.inl (by decide)) g31 rfl ?_
      refine E_aload_n 1 dX12_start_116 rfl rfl ?_
      refine E_getR 125 dX12_start_117 fl_X12_8 rfl (sk_124 hs) (sn hs (by decide)) (sr_124_2 hs) ?_
      refine E_iload 0 dX12_start_120 rfl ?_
      refine E_iconst (1 : Int32) dX12_start_122 (by decide) ?_
      refine E_iadd dX12_start_123 ?_
      refine E_iload_n 3 dX12_start_124 rfl rfl ?_
      obtain ⟨g32, h⟩ := h
      refine E_iast2 ((((23652 : Int32) + ((3 : Int32) * (gI σ 125 5))) + (1 : Int32)).toNatClampNeg) dX12_start_125 (sk_125 hs) (sn hs (by decide)) (Or.inl (by decide)) g32 rfl ?_
      obtain ⟨τ33, e34⟩ : ∃ τ : AH, τ = (sI (sI σ 125 (((23652 : Int32) + ((3 : Int32) * (gI σ 125 5))).toNatClampNeg) x1) 125 ((((23652 : Int32) + ((3 : Int32) * (gI σ 125 5))) + (1 : Int32)).toNatClampNeg) x2) := ⟨_, rfl⟩
      replace h := h τ33 e34
      rw [← e34]
      have hs35 : Sh τ33 := by rw [e34]; exact hs
      refine E_aload_n 1 dX12_start_126 rfl rfl ?_
      refine E_getR 125 dX12_start_127 fl_X12_8 rfl (sk_124 hs35) (sn hs35 (by decide)) (sr_124_2 hs35) ?_
      refine E_iload 0 dX12_start_130 rfl ?_
      refine E_iconst (2 : Int32) dX12_start_132 (by decide) ?_
      refine E_iadd dX12_start_133 ?_
      refine E_iload_n 4 dX12_start_134 rfl rfl ?_
      obtain ⟨g36, h⟩ := h
      refine E_iast2 ((((23652 : Int32) + ((3 : Int32) * (gI σ 125 5))) + (2 : Int32)).toNatClampNeg) dX12_start_135 (sk_125 hs35) (sn hs35 (by decide)) (Or.inl (by decide)) g36 rfl ?_
      refine E_aload_n 1 dX12_start_136 rfl rfl ?_
      refine E_getR 125 dX12_start_137 fl_X12_8 rfl (sk_124 hs35) (sn hs35 (by decide)) (sr_124_2 hs35) ?_
      refine E_iconst (5 : Int32) dX12_start_140 (by decide) ?_
      refine E_dup2 dX12_start_141 rfl rfl ?_
      refine E_iald2 5 dX12_start_142 (sk_125 hs35) (sn hs35 (by decide)) (vp_lit (by decide)) (by decide) ?_
      refine E_iconst (1 : Int32) dX12_start_143 (by decide) ?_
      refine E_iadd dX12_start_144 ?_
      refine E_iast2 5 dX12_start_145 (sk_125 hs35) (sn hs35 (by decide)) (Or.inl (by decide)) (vp_lit (by decide)) (by decide) ?_
      obtain ⟨τ37, e38⟩ : ∃ τ : AH, τ = (sI (sI τ33 125 ((((23652 : Int32) + ((3 : Int32) * (gI σ 125 5))) + (2 : Int32)).toNatClampNeg) x3) 125 5 ((gI (sI τ33 125 ((((23652 : Int32) + ((3 : Int32) * (gI σ 125 5))) + (2 : Int32)).toNatClampNeg) x3) 125 5) + (1 : Int32))) := ⟨_, rfl⟩
      replace h := h τ37 e38
      rw [← e38]
      have hs39 : Sh τ37 := by rw [e38]; exact hs35
      refine E_aload_n 1 dX12_start_146 rfl rfl ?_
      refine E_aload_n 1 dX12_start_147 rfl rfl ?_
      refine E_getR 125 dX12_start_148 fl_X12_8 rfl (sk_124 hs39) (sn hs39 (by decide)) (sr_124_2 hs39) ?_
      refine E_iconst (5 : Int32) dX12_start_151 (by decide) ?_
      refine E_iald2 5 dX12_start_152 (sk_125 hs39) (sn hs39 (by decide)) (vp_lit (by decide)) (by decide) ?_
      obtain ⟨d40, v45, σ41, hD42, hC43, h⟩ := h
      have hs44 := hC43.1.2.2.2.1 hs39
      refine E_callV (As := [.int (gI τ37 125 5)]) (rest := []) (r1 := (some (.int v45))) (b := 124) dX12_start_153 ok_X12_told in_X12_told se_X12_told ml_X12_163 hD42 rfl rfl (Nat.le_of_ble_eq_true rfl) (sk_124 hs39) (sn hs39 (by decide)) (by decide) rfl (by decide +kernel) hC43 ?_
      obtain ⟨rfl, rfl⟩ := h
      exact E_iret dX12_start_156 rfl
    · rw [if_pos c] at h
      refine E_aload_n 0 dX12_start_87 rfl rfl ?_
      refine E_bipush (-5 : Int32) dX12_start_88 (by decide) ?_
      obtain ⟨d46, v51, σ47, hD48, hC49, h⟩ := h
      have hs50 := hC49.1.2.2.2.1 hs
      refine E_callV (As := [.int (-5 : Int32)]) (rest := []) (r1 := (some (.int v51))) (b := 124) dX12_start_90 ok_X12_told in_X12_told se_X12_told ml_X12_163 hD48 rfl rfl (Nat.le_of_ble_eq_true rfl) (sk_124 hs) (sn hs (by decide)) (by decide) rfl (by decide +kernel) hC49 ?_
      obtain ⟨rfl, rfl⟩ := h
      exact E_iret dX12_start_93 rfl
  · rw [if_neg c] at h
    refine E_aload_n 0 dX12_start_52 rfl rfl ?_
    refine E_getR 152 dX12_start_53 fl_X12_103 rfl (sk_124 hs) (sn hs (by decide)) (sr_124_49 hs) ?_
    refine E_iload 4 dX12_start_56 rfl ?_
    obtain ⟨g52, h⟩ := h
    refine E_iald2 (x4.toNatClampNeg) dX12_start_58 (sk_152 hs) (sn hs (by decide)) g52 rfl ?_
    refine E_iload_n 1 dX12_start_59 rfl rfl ?_
    refine E_icmp_ne 70 dX12_start_60 (by decide) (fun c => ?_) (fun c => ?_)
    · rw [if_neg c] at h
      refine E_iinc 4 (x4 + 1) [(4, .int (x4 + 1)), (0, .ref 124), (1, .int x1), (2, .int x2), (3, .int x3)] dX12_start_70 rfl (congrArg (x4 + ·) (by decide : Int32.ofInt 1 = 1)) (by decide) rfl ?_
      refine E_goto 43 dX12_start_73 (by decide) ?_
      exact E_lv [1, 2, 3, 4, 0] rfl h
    · rw [if_pos c] at h
      refine E_aload_n 0 dX12_start_63 rfl rfl ?_
      refine E_bipush (-3 : Int32) dX12_start_64 (by decide) ?_
      obtain ⟨d53, v58, σ54, hD55, hC56, h⟩ := h
      have hs57 := hC56.1.2.2.2.1 hs
      refine E_callV (As := [.int (-3 : Int32)]) (rest := []) (r1 := (some (.int v58))) (b := 124) dX12_start_66 ok_X12_told in_X12_told se_X12_told ml_X12_163 hD55 rfl rfl (Nat.le_of_ble_eq_true rfl) (sk_124 hs) (sn hs (by decide)) (by decide) rfl (by decide +kernel) hC56 ?_
      obtain ⟨rfl, rfl⟩ := h
      exact E_iret dX12_start_69 rfl
def W_X12_findStarts_0 (X : Sx) (l : Launch) (D : Nat) (σ : AH) (r : Option Value) (σ' : AH) : Prop := E X l m_X12_findStarts D 2 [(0, .ref 124), (1, .int (0 : Int32))] [] σ r σ'
set_option maxRecDepth 100000 in
theorem w_X12_findStarts_0 {X : Sx} {l : Launch} {D : Nat} {σ : AH} {r : Option Value} {σ' : AH} (hs : Sh σ) (h : W_X12_findStarts_0 X l D σ r σ') : E X l m_X12_findStarts D 0 [(0, .ref 124)] [] σ r σ' := by
  unfold W_X12_findStarts_0 at h
  refine E_iconst (0 : Int32) dX12_findStarts_0 (by decide) ?_
  refine E_istore_n [(1, .int (0 : Int32)), (0, .ref 124)] dX12_findStarts_1 rfl (by decide) rfl ?_
  exact E_lv [1, 0] rfl h
def W_X12_findStarts_2 (X : Sx) (l : Launch) (D : Nat) (x1 : Int32) (σ : AH) (r : Option Value) (σ' : AH) : Prop := (if (30 : Int32) ≤ x1 then E X l m_X12_findStarts D 30 [(0, .ref 124), (1, .int ((gI σ 125 5) - (1 : Int32)))] [] σ r σ' else vp_in x1 30 ∧ E X l m_X12_findStarts D 2 [(0, .ref 124), (1, .int (x1 + 1))] [] (sI σ 140 x1.toNatClampNeg (-1 : Int32)) r σ')
set_option maxRecDepth 100000 in
theorem w_X12_findStarts_2 {X : Sx} {l : Launch} {D : Nat} {x1 : Int32} {σ : AH} {r : Option Value} {σ' : AH} (hs : Sh σ) (h : W_X12_findStarts_2 X l D x1 σ r σ') : E X l m_X12_findStarts D 2 [(0, .ref 124), (1, .int x1)] [] σ r σ' := by
  unfold W_X12_findStarts_2 at h
  refine E_iload_n 1 dX12_findStarts_2 rfl rfl ?_
  refine E_bipush (30 : Int32) dX12_findStarts_3 (by decide) ?_
  refine E_icmp_ge 21 dX12_findStarts_5 (by decide) (fun c => ?_) (fun c => ?_)
  · rw [if_pos c] at h
    refine E_aload_n 0 dX12_findStarts_21 rfl rfl ?_
    refine E_getR 125 dX12_findStarts_22 fl_X12_8 rfl (sk_124 hs) (sn hs (by decide)) (sr_124_2 hs) ?_
    refine E_iconst (5 : Int32) dX12_findStarts_25 (by decide) ?_
    refine E_iald2 5 dX12_findStarts_26 (sk_125 hs) (sn hs (by decide)) (vp_lit (by decide)) (by decide) ?_
    refine E_iconst (1 : Int32) dX12_findStarts_27 (by decide) ?_
    refine E_isub dX12_findStarts_28 ?_
    refine E_istore_n [(1, .int ((gI σ 125 5) - (1 : Int32))), (0, .ref 124)] dX12_findStarts_29 rfl (by decide) rfl ?_
    exact E_lv [1, 0] rfl h
  · rw [if_neg c] at h
    refine E_aload_n 0 dX12_findStarts_8 rfl rfl ?_
    refine E_getR 140 dX12_findStarts_9 fl_X12_67 rfl (sk_124 hs) (sn hs (by decide)) (sr_124_35 hs) ?_
    refine E_iload_n 1 dX12_findStarts_12 rfl rfl ?_
    refine E_iconst (-1 : Int32) dX12_findStarts_13 (by decide) ?_
    obtain ⟨g1, h⟩ := h
    refine E_iast2 (x1.toNatClampNeg) dX12_findStarts_14 (sk_140 hs) (sn hs (by decide)) (Or.inl (by decide)) g1 rfl ?_
    refine E_iinc 1 (x1 + 1) [(1, .int (x1 + 1)), (0, .ref 124)] dX12_findStarts_15 rfl (congrArg (x1 + ·) (by decide : Int32.ofInt 1 = 1)) (by decide) rfl ?_
    refine E_goto 2 dX12_findStarts_18 (by decide) ?_
    exact E_lv [1, 0] rfl h
def W_X12_findStarts_89 (X : Sx) (l : Launch) (D : Nat) (x1 : Int32) (y0 : Int32) (y1 : Int32) (σ : AH) (r : Option Value) (σ' : AH) : Prop := vp_in y1 30 ∧ E X l m_X12_findStarts D 30 [(0, .ref 124), (1, .int (x1 + (-1)))] [] (sI σ 140 y1.toNatClampNeg y0) r σ'
set_option maxRecDepth 100000 in
theorem w_X12_findStarts_89 {X : Sx} {l : Launch} {D : Nat} {x1 : Int32} {y0 : Int32} {y1 : Int32} {σ : AH} {r : Option Value} {σ' : AH} (hs : Sh σ) (h : W_X12_findStarts_89 X l D x1 y0 y1 σ r σ') : E X l m_X12_findStarts D 89 [(0, .ref 124), (1, .int x1)] [.int y0, .int y1, .ref 140] σ r σ' := by
  unfold W_X12_findStarts_89 at h
  obtain ⟨g7, h⟩ := h
  refine E_iast2 (y1.toNatClampNeg) dX12_findStarts_89 (sk_140 hs) (sn hs (by decide)) (Or.inl (by decide)) g7 rfl ?_
  refine E_iinc 1 (x1 + (-1)) [(1, .int (x1 + (-1))), (0, .ref 124)] dX12_findStarts_90 rfl (congrArg (x1 + ·) (by decide : Int32.ofInt (-1) = -1)) (by decide) rfl ?_
  refine E_goto 30 dX12_findStarts_93 (by decide) ?_
  exact E_lv [1, 0] rfl h
def W_X12_findStarts_30 (X : Sx) (l : Launch) (D : Nat) (x1 : Int32) (σ : AH) (r : Option Value) (σ' : AH) : Prop := (if x1 < 0 then (r = none ∧ σ' = σ) else vp_in ((23652 : Int32) + ((3 : Int32) * x1)) 269832 ∧ vp_in (((23652 : Int32) + ((3 : Int32) * x1)) + (2 : Int32)) 269832 ∧ (if (gI σ 124 23) < (gI σ 125 (((23652 : Int32) + ((3 : Int32) * x1)) + (2 : Int32)).toNatClampNeg) then vp_in ((23652 : Int32) + ((3 : Int32) * x1)) 269832 ∧ vp_in (gI σ 125 ((23652 : Int32) + ((3 : Int32) * x1)).toNatClampNeg) 30 ∧ W_X12_findStarts_89 X l D x1 (gI σ 140 (gI σ 125 ((23652 : Int32) + ((3 : Int32) * x1)).toNatClampNeg).toNatClampNeg) (gI σ 125 ((23652 : Int32) + ((3 : Int32) * x1)).toNatClampNeg) σ r σ' else vp_in (((23652 : Int32) + ((3 : Int32) * x1)) + (1 : Int32)) 269832 ∧ W_X12_findStarts_89 X l D x1 (gI σ 125 (((23652 : Int32) + ((3 : Int32) * x1)) + (1 : Int32)).toNatClampNeg) (gI σ 125 ((23652 : Int32) + ((3 : Int32) * x1)).toNatClampNeg) σ r σ'))
set_option maxRecDepth 100000 in
theorem w_X12_findStarts_30 {X : Sx} {l : Launch} {D : Nat} {x1 : Int32} {σ : AH} {r : Option Value} {σ' : AH} (hs : Sh σ) (h : W_X12_findStarts_30 X l D x1 σ r σ') : E X l m_X12_findStarts D 30 [(0, .ref 124), (1, .int x1)] [] σ r σ' := by
  unfold W_X12_findStarts_30 at h
  refine E_iload_n 1 dX12_findStarts_30 rfl rfl ?_
  refine E_if_lt 96 dX12_findStarts_31 (by decide) (fun c => ?_) (fun c => ?_)
  · rw [if_pos c] at h
    obtain ⟨rfl, rfl⟩ := h
    exact E_vret dX12_findStarts_96 rfl
  · rw [if_neg c] at h
    refine E_sipush (23652 : Int32) dX12_findStarts_34 (by decide) ?_
    refine E_iconst (3 : Int32) dX12_findStarts_37 (by decide) ?_
    refine E_iload_n 1 dX12_findStarts_38 rfl rfl ?_
    refine E_imul dX12_findStarts_39 ?_
    refine E_iadd dX12_findStarts_40 ?_
    refine E_istore_n [(2, .int ((23652 : Int32) + ((3 : Int32) * x1))), (0, .ref 124), (1, .int x1)] dX12_findStarts_41 rfl (by decide) rfl ?_
    refine E_aload_n 1 dX12_findStarts_42 rfl rfl ?_
    refine E_getR 140 dX12_findStarts_43 fl_X12_67 rfl (sk_124 hs) (sn hs (by decide)) (sr_124_35 hs) ?_
    refine E_aload_n 1 dX12_findStarts_46 rfl rfl ?_
    refine E_getR 125 dX12_findStarts_47 fl_X12_8 rfl (sk_124 hs) (sn hs (by decide)) (sr_124_2 hs) ?_
    refine E_iload_n 0 dX12_findStarts_50 rfl rfl ?_
    obtain ⟨g2, h⟩ := h
    refine E_iald2 (((23652 : Int32) + ((3 : Int32) * x1)).toNatClampNeg) dX12_findStarts_51 (sk_125 hs) (sn hs (by decide)) g2 rfl ?_
    refine E_aload_n 1 dX12_findStarts_52 rfl rfl ?_
    refine E_getR 125 dX12_findStarts_53 fl_X12_8 rfl (sk_124 hs) (sn hs (by decide)) (sr_124_2 hs) ?_
    refine E_iload_n 0 dX12_findStarts_56 rfl rfl ?_
    refine E_iconst (2 : Int32) dX12_findStarts_57 (by decide) ?_
    refine E_iadd dX12_findStarts_58 ?_
    obtain ⟨g3, h⟩ := h
    refine E_iald2 ((((23652 : Int32) + ((3 : Int32) * x1)) + (2 : Int32)).toNatClampNeg) dX12_findStarts_59 (sk_125 hs) (sn hs (by decide)) g3 rfl ?_
    refine E_aload_n 1 dX12_findStarts_60 rfl rfl ?_
    refine E_getI dX12_findStarts_61 fl_X12_399 rfl (sk_124 hs) (sn hs (by decide)) ?_
    refine E_icmp_gt 78 dX12_findStarts_64 (by decide) (fun c => ?_) (fun c => ?_)
    · rw [if_pos c] at h
      refine E_aload_n 1 dX12_findStarts_78 rfl rfl ?_
      refine E_getR 140 dX12_findStarts_79 fl_X12_67 rfl (sk_124 hs) (sn hs (by decide)) (sr_124_35 hs) ?_
      refine E_aload_n 1 dX12_findStarts_82 rfl rfl ?_
      refine E_getR 125 dX12_findStarts_83 fl_X12_8 rfl (sk_124 hs) (sn hs (by decide)) (sr_124_2 hs) ?_
      refine E_iload_n 0 dX12_findStarts_86 rfl rfl ?_
      obtain ⟨g4, h⟩ := h
      refine E_iald2 (((23652 : Int32) + ((3 : Int32) * x1)).toNatClampNeg) dX12_findStarts_87 (sk_125 hs) (sn hs (by decide)) g4 rfl ?_
      obtain ⟨g5, h⟩ := h
      refine E_iald2 ((gI σ 125 ((23652 : Int32) + ((3 : Int32) * x1)).toNatClampNeg).toNatClampNeg) dX12_findStarts_88 (sk_140 hs) (sn hs (by decide)) g5 rfl ?_
      exact E_lv [1, 2] rfl (w_X12_findStarts_89 hs h)
    · rw [if_neg c] at h
      refine E_aload_n 1 dX12_findStarts_67 rfl rfl ?_
      refine E_getR 125 dX12_findStarts_68 fl_X12_8 rfl (sk_124 hs) (sn hs (by decide)) (sr_124_2 hs) ?_
      refine E_iload_n 0 dX12_findStarts_71 rfl rfl ?_
      refine E_iconst (1 : Int32) dX12_findStarts_72 (by decide) ?_
      refine E_iadd dX12_findStarts_73 ?_
      obtain ⟨g6, h⟩ := h
      refine E_iald2 ((((23652 : Int32) + ((3 : Int32) * x1)) + (1 : Int32)).toNatClampNeg) dX12_findStarts_74 (sk_125 hs) (sn hs (by decide)) g6 rfl ?_
      refine E_goto 89 dX12_findStarts_75 (by decide) ?_
      exact E_lv [1, 2] rfl (w_X12_findStarts_89 hs h)
def W_X12_license_0 (X : Sx) (l : Launch) (D : Nat) (σ : AH) (r : Option Value) (σ' : AH) : Prop := E X l m_X12_license D 2 [(0, .ref 124), (1, .int (0 : Int32))] [] σ r σ'
set_option maxRecDepth 100000 in
theorem w_X12_license_0 {X : Sx} {l : Launch} {D : Nat} {σ : AH} {r : Option Value} {σ' : AH} (hs : Sh σ) (h : W_X12_license_0 X l D σ r σ') : E X l m_X12_license D 0 [(0, .ref 124)] [] σ r σ' := by
  unfold W_X12_license_0 at h
  refine E_iconst (0 : Int32) dX12_license_0 (by decide) ?_
  refine E_istore_n [(1, .int (0 : Int32)), (0, .ref 124)] dX12_license_1 rfl (by decide) rfl ?_
  exact E_lv [1, 0] rfl h
def W_X12_license_215 (X : Sx) (l : Launch) (D : Nat) (x1 : Int32) (σ : AH) (r : Option Value) (σ' : AH) : Prop := E X l m_X12_license D 2 [(0, .ref 124), (1, .int (x1 + 1))] [] σ r σ'
set_option maxRecDepth 100000 in
theorem w_X12_license_215 {X : Sx} {l : Launch} {D : Nat} {x1 : Int32} {σ : AH} {r : Option Value} {σ' : AH} (hs : Sh σ) (h : W_X12_license_215 X l D x1 σ r σ') : E X l m_X12_license D 215 [(0, .ref 124), (1, .int x1)] [] σ r σ' := by
  unfold W_X12_license_215 at h
  refine E_iinc 1 (x1 + 1) [(1, .int (x1 + 1)), (0, .ref 124)] dX12_license_215 rfl (congrArg (x1 + ·) (by decide : Int32.ofInt 1 = 1)) (by decide) rfl ?_
  refine E_goto 2 dX12_license_218 (by decide) ?_
  exact E_lv [1, 0] rfl h
def W_X12_license_2 (X : Sx) (l : Launch) (D : Nat) (x1 : Int32) (σ : AH) (r : Option Value) (σ' : AH) : Prop := (if (gI σ 125 4) ≤ x1 then (r = none ∧ σ' = σ) else vp_in x1 30 ∧ vp_in x1 30 ∧ (if (gI (sI σ 141 x1.toNatClampNeg (0 : Int32)) 140 x1.toNatClampNeg) = (-1 : Int32) then W_X12_license_215 X l D x1 (sI σ 141 x1.toNatClampNeg (0 : Int32)) r σ' else E X l m_X12_license D 33 [(0, .ref 124), (1, .int x1), (2, .int (0 : Int32)), (3, .int (0 : Int32))] [] (sI σ 141 x1.toNatClampNeg (0 : Int32)) r σ'))
set_option maxRecDepth 100000 in
theorem w_X12_license_2 {X : Sx} {l : Launch} {D : Nat} {x1 : Int32} {σ : AH} {r : Option Value} {σ' : AH} (hs : Sh σ) (h : W_X12_license_2 X l D x1 σ r σ') : E X l m_X12_license D 2 [(0, .ref 124), (1, .int x1)] [] σ r σ' := by
  unfold W_X12_license_2 at h
  refine E_iload_n 1 dX12_license_2 rfl rfl ?_
  refine E_aload_n 0 dX12_license_3 rfl rfl ?_
  refine E_getR 125 dX12_license_4 fl_X12_8 rfl (sk_124 hs) (sn hs (by decide)) (sr_124_2 hs) ?_
  refine E_iconst (4 : Int32) dX12_license_7 (by decide) ?_
  refine E_iald2 4 dX12_license_8 (sk_125 hs) (sn hs (by decide)) (vp_lit (by decide)) (by decide) ?_
  refine E_icmp_ge 221 dX12_license_9 (by decide) (fun c => ?_) (fun c => ?_)
  · rw [if_pos c] at h
    obtain ⟨rfl, rfl⟩ := h
    exact E_vret dX12_license_221 rfl
  · rw [if_neg c] at h
    refine E_aload_n 0 dX12_license_12 rfl rfl ?_
    refine E_getR 141 dX12_license_13 fl_X12_70 rfl (sk_124 hs) (sn hs (by decide)) (sr_124_36 hs) ?_
    refine E_iload_n 1 dX12_license_16 rfl rfl ?_
    refine E_iconst (0 : Int32) dX12_license_17 (by decide) ?_
    obtain ⟨g1, h⟩ := h
    refine E_zast2 (x1.toNatClampNeg) (0 : Int32) (by decide) dX12_license_18 (sk_141 hs) (sn hs (by decide)) (Or.inl (by decide)) g1 rfl ?_
    refine E_aload_n 0 dX12_license_19 rfl rfl ?_
    refine E_getR 140 dX12_license_20 fl_X12_67 rfl (sk_124 hs) (sn hs (by decide)) (sr_124_35 hs) ?_
    refine E_iload_n 1 dX12_license_23 rfl rfl ?_
    obtain ⟨g2, h⟩ := h
    refine E_iald2 (x1.toNatClampNeg) dX12_license_24 (sk_140 hs) (sn hs (by decide)) g2 rfl ?_
    refine E_iconst (-1 : Int32) dX12_license_25 (by decide) ?_
    refine E_icmp_eq 215 dX12_license_26 (by decide) (fun c => ?_) (fun c => ?_)
    · rw [if_pos c] at h
      exact E_lv [0, 1] rfl (w_X12_license_215 hs h)
    · rw [if_neg c] at h
      refine E_iconst (0 : Int32) dX12_license_29 (by decide) ?_
      refine E_istore_n [(2, .int (0 : Int32)), (0, .ref 124), (1, .int x1)] dX12_license_30 rfl (by decide) rfl ?_
      refine E_iconst (0 : Int32) dX12_license_31 (by decide) ?_
      refine E_istore_n [(3, .int (0 : Int32)), (2, .int (0 : Int32)), (0, .ref 124), (1, .int x1)] dX12_license_32 rfl (by decide) rfl ?_
      exact E_lv [2, 3, 1, 0] rfl h
def W_X12_license_153 (X : Sx) (l : Launch) (D : Nat) (x1 : Int32) (x3 : Int32) (y0 : Int32) (y1 : Int32) (σ : AH) (r : Option Value) (σ' : AH) : Prop := E X l m_X12_license D 33 [(0, .ref 124), (1, .int x1), (2, .int (y1 + y0)), (3, .int (x3 + 1))] [] σ r σ'
set_option maxRecDepth 100000 in
theorem w_X12_license_153 {X : Sx} {l : Launch} {D : Nat} {x1 : Int32} {x3 : Int32} {y0 : Int32} {y1 : Int32} {σ : AH} {r : Option Value} {σ' : AH} (hs : Sh σ) (h : W_X12_license_153 X l D x1 x3 y0 y1 σ r σ') : E X l m_X12_license D 153 [(0, .ref 124), (1, .int x1), (3, .int x3)] [.int y0, .int y1] σ r σ' := by
  unfold W_X12_license_153 at h
  refine E_iadd dX12_license_153 ?_
  refine E_istore_n [(2, .int (y1 + y0)), (0, .ref 124), (1, .int x1), (3, .int x3)] dX12_license_154 rfl (by decide) rfl ?_
  refine E_iinc 3 (x3 + 1) [(3, .int (x3 + 1)), (2, .int (y1 + y0)), (0, .ref 124), (1, .int x1)] dX12_license_155 rfl (congrArg (x3 + ·) (by decide : Int32.ofInt 1 = 1)) (by decide) rfl ?_
  refine E_goto 33 dX12_license_158 (by decide) ?_
  exact E_lv [2, 3, 1, 0] rfl h
def W_X12_license_148 (X : Sx) (l : Launch) (D : Nat) (x1 : Int32) (x3 : Int32) (y0 : Int32) (σ : AH) (r : Option Value) (σ' : AH) : Prop := W_X12_license_153 X l D x1 x3 (1 : Int32) y0 σ r σ'
set_option maxRecDepth 100000 in
theorem w_X12_license_148 {X : Sx} {l : Launch} {D : Nat} {x1 : Int32} {x3 : Int32} {y0 : Int32} {σ : AH} {r : Option Value} {σ' : AH} (hs : Sh σ) (h : W_X12_license_148 X l D x1 x3 y0 σ r σ') : E X l m_X12_license D 148 [(0, .ref 124), (1, .int x1), (3, .int x3)] [.int y0] σ r σ' := by
  unfold W_X12_license_148 at h
  refine E_iconst (1 : Int32) dX12_license_148 (by decide) ?_
  refine E_goto 153 dX12_license_149 (by decide) ?_
  exact E_lv [0, 1, 2] rfl (w_X12_license_153 hs h)
def W_X12_license_152 (X : Sx) (l : Launch) (D : Nat) (x1 : Int32) (x3 : Int32) (y0 : Int32) (σ : AH) (r : Option Value) (σ' : AH) : Prop := W_X12_license_153 X l D x1 x3 (0 : Int32) y0 σ r σ'
set_option maxRecDepth 100000 in
theorem w_X12_license_152 {X : Sx} {l : Launch} {D : Nat} {x1 : Int32} {x3 : Int32} {y0 : Int32} {σ : AH} {r : Option Value} {σ' : AH} (hs : Sh σ) (h : W_X12_license_152 X l D x1 x3 y0 σ r σ') : E X l m_X12_license D 152 [(0, .ref 124), (1, .int x1), (3, .int x3)] [.int y0] σ r σ' := by
  unfold W_X12_license_152 at h
  refine E_iconst (0 : Int32) dX12_license_152 (by decide) ?_
  exact E_lv [0, 1, 2] rfl (w_X12_license_153 hs h)
def W_X12_license_105 (X : Sx) (l : Launch) (D : Nat) (x1 : Int32) (x2 : Int32) (x3 : Int32) (y0 : Int32) (σ : AH) (r : Option Value) (σ' : AH) : Prop := (if y0 = 0 then W_X12_license_152 X l D x1 x3 x2 σ r σ' else vp_in x3 30 ∧ vp_in x1 30 ∧ (if (gI σ 140 x3.toNatClampNeg) < (gI σ 140 x1.toNatClampNeg) then W_X12_license_148 X l D x1 x3 x2 σ r σ' else vp_in x3 30 ∧ vp_in x1 30 ∧ (if (gI σ 140 x3.toNatClampNeg) = (gI σ 140 x1.toNatClampNeg) then (if x1 ≤ x3 then W_X12_license_152 X l D x1 x3 x2 σ r σ' else W_X12_license_148 X l D x1 x3 x2 σ r σ') else W_X12_license_152 X l D x1 x3 x2 σ r σ')))
set_option maxRecDepth 100000 in
theorem w_X12_license_105 {X : Sx} {l : Launch} {D : Nat} {x1 : Int32} {x2 : Int32} {x3 : Int32} {y0 : Int32} {σ : AH} {r : Option Value} {σ' : AH} (hs : Sh σ) (h : W_X12_license_105 X l D x1 x2 x3 y0 σ r σ') : E X l m_X12_license D 105 [(0, .ref 124), (1, .int x1), (2, .int x2), (3, .int x3)] [.int y0] σ r σ' := by
  unfold W_X12_license_105 at h
  refine E_istore [(4, .int y0), (0, .ref 124), (1, .int x1), (2, .int x2), (3, .int x3)] dX12_license_105 (by decide) rfl ?_
  refine E_iload_n 3 dX12_license_107 rfl rfl ?_
  refine E_iload 0 dX12_license_108 rfl ?_
  refine E_if_eq 152 dX12_license_110 (by decide) (fun c => ?_) (fun c => ?_)
  · rw [if_pos c] at h
    exact E_lv [1, 2, 4] rfl (w_X12_license_152 hs h)
  · rw [if_neg c] at h
    refine E_aload_n 1 dX12_license_113 rfl rfl ?_
    refine E_getR 140 dX12_license_114 fl_X12_67 rfl (sk_124 hs) (sn hs (by decide)) (sr_124_35 hs) ?_
    refine E_iload_n 4 dX12_license_117 rfl rfl ?_
    obtain ⟨g55, h⟩ := h
    refine E_iald2 (x3.toNatClampNeg) dX12_license_118 (sk_140 hs) (sn hs (by decide)) g55 rfl ?_
    refine E_aload_n 1 dX12_license_119 rfl rfl ?_
    refine E_getR 140 dX12_license_120 fl_X12_67 rfl (sk_124 hs) (sn hs (by decide)) (sr_124_35 hs) ?_
    refine E_iload_n 2 dX12_license_123 rfl rfl ?_
    obtain ⟨g56, h⟩ := h
    refine E_iald2 (x1.toNatClampNeg) dX12_license_124 (sk_140 hs) (sn hs (by decide)) g56 rfl ?_
    refine E_icmp_lt 148 dX12_license_125 (by decide) (fun c => ?_) (fun c => ?_)
    · rw [if_pos c] at h
      exact E_lv [1, 2, 4] rfl (w_X12_license_148 hs h)
    · rw [if_neg c] at h
      refine E_aload_n 1 dX12_license_128 rfl rfl ?_
      refine E_getR 140 dX12_license_129 fl_X12_67 rfl (sk_124 hs) (sn hs (by decide)) (sr_124_35 hs) ?_
      refine E_iload_n 4 dX12_license_132 rfl rfl ?_
      obtain ⟨g57, h⟩ := h
      refine E_iald2 (x3.toNatClampNeg) dX12_license_133 (sk_140 hs) (sn hs (by decide)) g57 rfl ?_
      refine E_aload_n 1 dX12_license_134 rfl rfl ?_
      refine E_getR 140 dX12_license_135 fl_X12_67 rfl (sk_124 hs) (sn hs (by decide)) (sr_124_35 hs) ?_
      refine E_iload_n 2 dX12_license_138 rfl rfl ?_
      obtain ⟨g58, h⟩ := h
      refine E_iald2 (x1.toNatClampNeg) dX12_license_139 (sk_140 hs) (sn hs (by decide)) g58 rfl ?_
      refine E_icmp_ne 152 dX12_license_140 (by decide) (fun c => ?_) (fun c => ?_)
      · rw [if_neg c] at h
        exact E_lv [1, 2, 4] rfl (w_X12_license_152 hs h)
      · rw [if_pos c] at h
        refine E_iload_n 4 dX12_license_143 rfl rfl ?_
        refine E_iload_n 2 dX12_license_144 rfl rfl ?_
        refine E_icmp_ge 152 dX12_license_145 (by decide) (fun c => ?_) (fun c => ?_)
        · rw [if_pos c] at h
          exact E_lv [1, 2, 4] rfl (w_X12_license_152 hs h)
        · rw [if_neg c] at h
          exact E_lv [1, 2, 4] rfl (w_X12_license_148 hs h)
def W_X12_license_104 (X : Sx) (l : Launch) (D : Nat) (x1 : Int32) (x2 : Int32) (x3 : Int32) (σ : AH) (r : Option Value) (σ' : AH) : Prop := W_X12_license_105 X l D x1 x2 x3 (0 : Int32) σ r σ'
set_option maxRecDepth 100000 in
theorem w_X12_license_104 {X : Sx} {l : Launch} {D : Nat} {x1 : Int32} {x2 : Int32} {x3 : Int32} {σ : AH} {r : Option Value} {σ' : AH} (hs : Sh σ) (h : W_X12_license_104 X l D x1 x2 x3 σ r σ') : E X l m_X12_license D 104 [(0, .ref 124), (1, .int x1), (2, .int x2), (3, .int x3)] [] σ r σ' := by
  unfold W_X12_license_104 at h
  refine E_iconst (0 : Int32) dX12_license_104 (by decide) ?_
  exact E_lv [0, 1, 2, 3] rfl (w_X12_license_105 hs h)
def W_X12_license_214 (X : Sx) (l : Launch) (D : Nat) (x1 : Int32) (y0 : Int32) (y1 : Int32) (σ : AH) (r : Option Value) (σ' : AH) : Prop := vp_in y1 30 ∧ W_X12_license_215 X l D x1 (sI σ 141 y1.toNatClampNeg (vp_nar .boolean y0)) r σ'
set_option maxRecDepth 100000 in
theorem w_X12_license_214 {X : Sx} {l : Launch} {D : Nat} {x1 : Int32} {y0 : Int32} {y1 : Int32} {σ : AH} {r : Option Value} {σ' : AH} (hs : Sh σ) (h : W_X12_license_214 X l D x1 y0 y1 σ r σ') : E X l m_X12_license D 214 [(0, .ref 124), (1, .int x1)] [.int y0, .int y1, .ref 141] σ r σ' := by
  unfold W_X12_license_214 at h
  obtain ⟨g54, h⟩ := h
  refine E_zast2 (y1.toNatClampNeg) (vp_nar .boolean y0) rfl dX12_license_214 (sk_141 hs) (sn hs (by decide)) (Or.inl (by decide)) g54 rfl ?_
  exact E_lv [0, 1] rfl (w_X12_license_215 hs h)
def W_X12_license_209 (X : Sx) (l : Launch) (D : Nat) (x1 : Int32) (y0 : Int32) (σ : AH) (r : Option Value) (σ' : AH) : Prop := W_X12_license_214 X l D x1 (1 : Int32) y0 σ r σ'
set_option maxRecDepth 100000 in
theorem w_X12_license_209 {X : Sx} {l : Launch} {D : Nat} {x1 : Int32} {y0 : Int32} {σ : AH} {r : Option Value} {σ' : AH} (hs : Sh σ) (h : W_X12_license_209 X l D x1 y0 σ r σ') : E X l m_X12_license D 209 [(0, .ref 124), (1, .int x1)] [.int y0, .ref 141] σ r σ' := by
  unfold W_X12_license_209 at h
  refine E_iconst (1 : Int32) dX12_license_209 (by decide) ?_
  refine E_goto 214 dX12_license_210 (by decide) ?_
  exact E_lv [0, 1] rfl (w_X12_license_214 hs h)
def W_X12_license_33 (X : Sx) (l : Launch) (D : Nat) (x1 : Int32) (x2 : Int32) (x3 : Int32) (σ : AH) (r : Option Value) (σ' : AH) : Prop := (if (gI σ 125 4) ≤ x3 then vp_in x1 30 ∧ ∃ d4 : Nat, ∃ σ5 : AH, d4 + 1 ≤ D ∧ Call X l m_X12_setOnly d4 [.ref 124, .int (0 : Int32), .int (((gI σ 140 x1.toNatClampNeg) / (13 : Int32)) * (13 : Int32))] σ none σ5 ∧ ∃ d9 : Nat, ∃ v14 : Int32, ∃ σ10 : AH, d9 + 1 ≤ D ∧ Call X l m_X12_kindOf d9 [.ref 124, .int x1] σ5 (some (.int v14)) σ10 ∧ ∃ d15 : Nat, ∃ v20 : Int32, ∃ σ16 : AH, d15 + 1 ≤ D ∧ Call X l m_X12_find d15 [.ref 124, .int (4 : Int32), .int v14, .int (0 : Int32), .int (0 : Int32), .int (((gI σ 140 x1.toNatClampNeg) / (13 : Int32)) * (13 : Int32))] σ10 (some (.int v20)) σ16 ∧ (if v20 = 0 then W_X12_license_209 X l D x1 x1 σ16 r σ' else ∃ d21 : Nat, ∃ v26 : Int32, ∃ σ22 : AH, d21 + 1 ≤ D ∧ Call X l m_X12_atLeastNought d21 [.ref 124] σ16 (some (.int v26)) σ22 ∧ (if v26 ≤ x2 then W_X12_license_214 X l D x1 (0 : Int32) x1 σ22 r σ' else W_X12_license_209 X l D x1 x1 σ22 r σ')) else vp_in x3 30 ∧ (if (gI σ 140 x3.toNatClampNeg) = (-1 : Int32) then W_X12_license_104 X l D x1 x2 x3 σ r σ' else ∃ d28 : Nat, ∃ v33 : Int32, ∃ σ29 : AH, d28 + 1 ≤ D ∧ Call X l m_X12_councilOf d28 [.ref 124, .int x3] σ (some (.int v33)) σ29 ∧ ∃ d34 : Nat, ∃ v39 : Int32, ∃ σ35 : AH, d34 + 1 ≤ D ∧ Call X l m_X12_councilOf d34 [.ref 124, .int x1] σ29 (some (.int v39)) σ35 ∧ (if v33 = v39 then ∃ d40 : Nat, ∃ v45 : Int32, ∃ σ41 : AH, d40 + 1 ≤ D ∧ Call X l m_X12_kindOf d40 [.ref 124, .int x3] σ35 (some (.int v45)) σ41 ∧ ∃ d46 : Nat, ∃ v51 : Int32, ∃ σ47 : AH, d46 + 1 ≤ D ∧ Call X l m_X12_kindOf d46 [.ref 124, .int x1] σ41 (some (.int v51)) σ47 ∧ (if v45 = v51 then vp_in x3 30 ∧ vp_in x1 30 ∧ (if ((gI σ47 140 x3.toNatClampNeg) / (13 : Int32)) = ((gI σ47 140 x1.toNatClampNeg) / (13 : Int32)) then W_X12_license_105 X l D x1 x2 x3 (1 : Int32) σ47 r σ' else W_X12_license_104 X l D x1 x2 x3 σ47 r σ') else W_X12_license_104 X l D x1 x2 x3 σ47 r σ') else W_X12_license_104 X l D x1 x2 x3 σ35 r σ')))
set_option maxRecDepth 100000 in
theorem w_X12_license_33 {X : Sx} {l : Launch} {D : Nat} {x1 : Int32} {x2 : Int32} {x3 : Int32} {σ : AH} {r : Option Value} {σ' : AH} (hs : Sh σ) (h : W_X12_license_33 X l D x1 x2 x3 σ r σ') : E X l m_X12_license D 33 [(0, .ref 124), (1, .int x1), (2, .int x2), (3, .int x3)] [] σ r σ' := by
  unfold W_X12_license_33 at h
  refine E_iload_n 3 dX12_license_33 rfl rfl ?_
  refine E_aload_n 0 dX12_license_34 rfl rfl ?_
  refine E_getR 125 dX12_license_35 fl_X12_8 rfl (sk_124 hs) (sn hs (by decide)) (sr_124_2 hs) ?_
  refine E_iconst (4 : Int32) dX12_license_38 (by decide) ?_
  refine E_iald2 4 dX12_license_39 (sk_125 hs) (sn hs (by decide)) (vp_lit (by decide)) (by decide) ?_
  refine E_icmp_ge 161 dX12_license_40 (by decide) (fun c => ?_) (fun c => ?_)
  · rw [if_pos c] at h
    refine E_aload_n 0 dX12_license_161 rfl rfl ?_
    refine E_getR 140 dX12_license_162 fl_X12_67 rfl (sk_124 hs) (sn hs (by decide)) (sr_124_35 hs) ?_
    refine E_iload_n 1 dX12_license_165 rfl rfl ?_
    obtain ⟨g3, h⟩ := h
    refine E_iald2 (x1.toNatClampNeg) dX12_license_166 (sk_140 hs) (sn hs (by decide)) g3 rfl ?_
    refine E_bipush (13 : Int32) dX12_license_167 (by decide) ?_
    refine E_idiv dX12_license_169 (by decide) ?_
    refine E_bipush (13 : Int32) dX12_license_170 (by decide) ?_
    refine E_imul dX12_license_172 ?_
    refine E_istore_n [(3, .int (((gI σ 140 x1.toNatClampNeg) / (13 : Int32)) * (13 : Int32))), (0, .ref 124), (1, .int x1), (2, .int x2)] dX12_license_173 rfl (by decide) rfl ?_
    refine E_aload_n 1 dX12_license_174 rfl rfl ?_
    refine E_iconst (0 : Int32) dX12_license_175 (by decide) ?_
    refine E_iload_n 0 dX12_license_176 rfl rfl ?_
    obtain ⟨d4, σ5, hD6, hC7, h⟩ := h
    have hs8 := hC7.1.2.2.2.1 hs
    refine E_callV (As := [.int (0 : Int32), .int (((gI σ 140 x1.toNatClampNeg) / (13 : Int32)) * (13 : Int32))]) (rest := []) (r1 := none) (b := 124) dX12_license_177 ok_X12_setOnly in_X12_setOnly se_X12_setOnly ml_X12_440 hD6 rfl rfl (Nat.le_of_ble_eq_true rfl) (sk_124 hs) (sn hs (by decide)) (by decide) rfl (by decide +kernel) hC7 ?_
    refine E_aload_n 1 dX12_license_180 rfl rfl ?_
    refine E_getR 141 dX12_license_181 fl_X12_70 rfl (sk_124 hs8) (sn hs8 (by decide)) (sr_124_36 hs8) ?_
    refine E_iload_n 2 dX12_license_184 rfl rfl ?_
    refine E_aload_n 1 dX12_license_185 rfl rfl ?_
    refine E_iconst (4 : Int32) dX12_license_186 (by decide) ?_
    refine E_aload_n 1 dX12_license_187 rfl rfl ?_
    refine E_iload_n 2 dX12_license_188 rfl rfl ?_
    obtain ⟨d9, v14, σ10, hD11, hC12, h⟩ := h
    have hs13 := hC12.1.2.2.2.1 hs8
    refine E_callV (As := [.int x1]) (rest := [.int (4 : Int32), .ref 124, .int x1, .ref 141]) (r1 := (some (.int v14))) (b := 124) dX12_license_189 ok_X12_kindOf in_X12_kindOf se_X12_kindOf ml_X12_477 hD11 rfl rfl (Nat.le_of_ble_eq_true rfl) (sk_124 hs8) (sn hs8 (by decide)) (by decide) rfl (by decide +kernel) hC12 ?_
    refine E_iconst (0 : Int32) dX12_license_192 (by decide) ?_
    refine E_iconst (0 : Int32) dX12_license_193 (by decide) ?_
    refine E_iload_n 0 dX12_license_194 rfl rfl ?_
    obtain ⟨d15, v20, σ16, hD17, hC18, h⟩ := h
    have hs19 := hC18.1.2.2.2.1 hs13
    refine E_callV (As := [.int (4 : Int32), .int v14, .int (0 : Int32), .int (0 : Int32), .int (((gI σ 140 x1.toNatClampNeg) / (13 : Int32)) * (13 : Int32))]) (rest := [.int x1, .ref 141]) (r1 := (some (.int v20))) (b := 124) dX12_license_195 ok_X12_find in_X12_find se_X12_find ml_X12_443 hD17 rfl rfl (Nat.le_of_ble_eq_true rfl) (sk_124 hs13) (sn hs13 (by decide)) (by decide) rfl (by decide +kernel) hC18 ?_
    refine E_if_eq 209 dX12_license_198 (by decide) (fun c => ?_) (fun c => ?_)
    · rw [if_pos c] at h
      exact E_lv [1, 2] rfl (w_X12_license_209 hs19 h)
    · rw [if_neg c] at h
      refine E_iload_n 3 dX12_license_201 rfl rfl ?_
      refine E_aload_n 1 dX12_license_202 rfl rfl ?_
      obtain ⟨d21, v26, σ22, hD23, hC24, h⟩ := h
      have hs25 := hC24.1.2.2.2.1 hs19
      refine E_callV (As := []) (rest := [.int x2, .int x1, .ref 141]) (r1 := (some (.int v26))) (b := 124) dX12_license_203 ok_X12_atLeastNought in_X12_atLeastNought se_X12_atLeastNought ml_X12_447 hD23 rfl rfl (Nat.le_of_ble_eq_true rfl) (sk_124 hs19) (sn hs19 (by decide)) (by decide) rfl (by decide +kernel) hC24 ?_
      refine E_icmp_ge 213 dX12_license_206 (by decide) (fun c => ?_) (fun c => ?_)
      · rw [if_pos c] at h
        refine E_iconst (0 : Int32) dX12_license_213 (by decide) ?_
        exact E_lv [1, 2] rfl (w_X12_license_214 hs25 h)
      · rw [if_neg c] at h
        exact E_lv [1, 2] rfl (w_X12_license_209 hs25 h)
  · rw [if_neg c] at h
    refine E_aload_n 0 dX12_license_43 rfl rfl ?_
    refine E_getR 140 dX12_license_44 fl_X12_67 rfl (sk_124 hs) (sn hs (by decide)) (sr_124_35 hs) ?_
    refine E_iload_n 3 dX12_license_47 rfl rfl ?_
    obtain ⟨g27, h⟩ := h
    refine E_iald2 (x3.toNatClampNeg) dX12_license_48 (sk_140 hs) (sn hs (by decide)) g27 rfl ?_
    refine E_iconst (-1 : Int32) dX12_license_49 (by decide) ?_
    refine E_icmp_eq 104 dX12_license_50 (by decide) (fun c => ?_) (fun c => ?_)
    · rw [if_pos c] at h
      exact E_lv [0, 1, 2, 3] rfl (w_X12_license_104 hs h)
    · rw [if_neg c] at h
      refine E_aload_n 0 dX12_license_53 rfl rfl ?_
      refine E_iload_n 3 dX12_license_54 rfl rfl ?_
      obtain ⟨d28, v33, σ29, hD30, hC31, h⟩ := h
      have hs32 := hC31.1.2.2.2.1 hs
      refine E_callV (As := [.int x3]) (rest := []) (r1 := (some (.int v33))) (b := 124) dX12_license_55 ok_X12_councilOf in_X12_councilOf se_X12_councilOf ml_X12_474 hD30 rfl rfl (Nat.le_of_ble_eq_true rfl) (sk_124 hs) (sn hs (by decide)) (by decide) rfl (by decide +kernel) hC31 ?_
      refine E_aload_n 0 dX12_license_58 rfl rfl ?_
      refine E_iload_n 1 dX12_license_59 rfl rfl ?_
      obtain ⟨d34, v39, σ35, hD36, hC37, h⟩ := h
      have hs38 := hC37.1.2.2.2.1 hs32
      refine E_callV (As := [.int x1]) (rest := [.int v33]) (r1 := (some (.int v39))) (b := 124) dX12_license_60 ok_X12_councilOf in_X12_councilOf se_X12_councilOf ml_X12_474 hD36 rfl rfl (Nat.le_of_ble_eq_true rfl) (sk_124 hs32) (sn hs32 (by decide)) (by decide) rfl (by decide +kernel) hC37 ?_
      refine E_icmp_ne 104 dX12_license_63 (by decide) (fun c => ?_) (fun c => ?_)
      · rw [if_neg c] at h
        exact E_lv [0, 1, 2, 3] rfl (w_X12_license_104 hs38 h)
      · rw [if_pos c] at h
        refine E_aload_n 0 dX12_license_66 rfl rfl ?_
        refine E_iload_n 3 dX12_license_67 rfl rfl ?_
        obtain ⟨d40, v45, σ41, hD42, hC43, h⟩ := h
        have hs44 := hC43.1.2.2.2.1 hs38
        refine E_callV (As := [.int x3]) (rest := []) (r1 := (some (.int v45))) (b := 124) dX12_license_68 ok_X12_kindOf in_X12_kindOf se_X12_kindOf ml_X12_477 hD42 rfl rfl (Nat.le_of_ble_eq_true rfl) (sk_124 hs38) (sn hs38 (by decide)) (by decide) rfl (by decide +kernel) hC43 ?_
        refine E_aload_n 0 dX12_license_71 rfl rfl ?_
        refine E_iload_n 1 dX12_license_72 rfl rfl ?_
        obtain ⟨d46, v51, σ47, hD48, hC49, h⟩ := h
        have hs50 := hC49.1.2.2.2.1 hs44
        refine E_callV (As := [.int x1]) (rest := [.int v45]) (r1 := (some (.int v51))) (b := 124) dX12_license_73 ok_X12_kindOf in_X12_kindOf se_X12_kindOf ml_X12_477 hD48 rfl rfl (Nat.le_of_ble_eq_true rfl) (sk_124 hs44) (sn hs44 (by decide)) (by decide) rfl (by decide +kernel) hC49 ?_
        refine E_icmp_ne 104 dX12_license_76 (by decide) (fun c => ?_) (fun c => ?_)
        · rw [if_neg c] at h
          exact E_lv [0, 1, 2, 3] rfl (w_X12_license_104 hs50 h)
        · rw [if_pos c] at h
          refine E_aload_n 0 dX12_license_79 rfl rfl ?_
          refine E_getR 140 dX12_license_80 fl_X12_67 rfl (sk_124 hs50) (sn hs50 (by decide)) (sr_124_35 hs50) ?_
          refine E_iload_n 3 dX12_license_83 rfl rfl ?_
          obtain ⟨g52, h⟩ := h
          refine E_iald2 (x3.toNatClampNeg) dX12_license_84 (sk_140 hs50) (sn hs50 (by decide)) g52 rfl ?_
          refine E_bipush (13 : Int32) dX12_license_85 (by decide) ?_
          refine E_idiv dX12_license_87 (by decide) ?_
          refine E_aload_n 0 dX12_license_88 rfl rfl ?_
          refine E_getR 140 dX12_license_89 fl_X12_67 rfl (sk_124 hs50) (sn hs50 (by decide)) (sr_124_35 hs50) ?_
          refine E_iload_n 1 dX12_license_92 rfl rfl ?_
          obtain ⟨g53, h⟩ := h
          refine E_iald2 (x1.toNatClampNeg) dX12_license_93 (sk_140 hs50) (sn hs50 (by decide)) g53 rfl ?_
          refine E_bipush (13 : Int32) dX12_license_94 (by decide) ?_
          refine E_idiv dX12_license_96 (by decide) ?_
          refine E_icmp_ne 104 dX12_license_97 (by decide) (fun c => ?_) (fun c => ?_)
          · rw [if_neg c] at h
            exact E_lv [0, 1, 2, 3] rfl (w_X12_license_104 hs50 h)
          · rw [if_pos c] at h
            refine E_iconst (1 : Int32) dX12_license_100 (by decide) ?_
            refine E_goto 105 dX12_license_101 (by decide) ?_
            exact E_lv [0, 1, 2, 3] rfl (w_X12_license_105 hs50 h)
def W_X12_beginRun_0 (X : Sx) (l : Launch) (D : Nat) (x1 : Int32) (σ : AH) (r : Option Value) (σ' : AH) : Prop := ∃ d1 : Nat, ∃ σ2 : AH, d1 + 1 ≤ D ∧ Call X l m_X12_findStarts d1 [.ref 124] (sI σ 124 45 x1) none σ2 ∧ ∃ d6 : Nat, ∃ σ7 : AH, d6 + 1 ≤ D ∧ Call X l m_X12_license d6 [.ref 124] σ2 none σ7 ∧ E X l m_X12_beginRun D 15 [(0, .ref 124), (2, .int (0 : Int32))] [] σ7 r σ'
set_option maxRecDepth 100000 in
theorem w_X12_beginRun_0 {X : Sx} {l : Launch} {D : Nat} {x1 : Int32} {σ : AH} {r : Option Value} {σ' : AH} (hs : Sh σ) (h : W_X12_beginRun_0 X l D x1 σ r σ') : E X l m_X12_beginRun D 0 [(0, .ref 124), (1, .int x1)] [] σ r σ' := by
  unfold W_X12_beginRun_0 at h
  refine E_aload_n 0 dX12_beginRun_0 rfl rfl ?_
  refine E_iload_n 1 dX12_beginRun_1 rfl rfl ?_
  refine E_putI dX12_beginRun_2 fl_X12_480 rfl (Or.inl rfl) (sk_124 hs) (sn hs (by decide)) (Or.inl (by decide)) rfl rfl ?_
  refine E_aload_n 0 dX12_beginRun_5 rfl rfl ?_
  obtain ⟨d1, σ2, hD3, hC4, h⟩ := h
  have hs5 := hC4.1.2.2.2.1 hs
  refine E_callV (As := []) (rest := []) (r1 := none) (b := 124) dX12_beginRun_6 ok_X12_findStarts in_X12_findStarts se_X12_findStarts ml_X12_483 hD3 rfl rfl (Nat.le_of_ble_eq_true rfl) (sk_124 hs) (sn hs (by decide)) (by decide) rfl (by decide +kernel) hC4 ?_
  refine E_aload_n 0 dX12_beginRun_9 rfl rfl ?_
  obtain ⟨d6, σ7, hD8, hC9, h⟩ := h
  have hs10 := hC9.1.2.2.2.1 hs5
  refine E_callV (As := []) (rest := []) (r1 := none) (b := 124) dX12_beginRun_10 ok_X12_license in_X12_license se_X12_license ml_X12_486 hD8 rfl rfl (Nat.le_of_ble_eq_true rfl) (sk_124 hs5) (sn hs5 (by decide)) (by decide) rfl (by decide +kernel) hC9 ?_
  refine E_iconst (0 : Int32) dX12_beginRun_13 (by decide) ?_
  refine E_istore_n [(2, .int (0 : Int32)), (0, .ref 124), (1, .int x1)] dX12_beginRun_14 rfl (by decide) rfl ?_
  exact E_lv [1, 0] rfl h
def W_X12_beginRun_15 (X : Sx) (l : Launch) (D : Nat) (x2 : Int32) (σ : AH) (r : Option Value) (σ' : AH) : Prop := (if (5 : Int32) ≤ x2 then E X l m_X12_beginRun D 35 [(0, .ref 124), (2, .int (0 : Int32))] [] σ r σ' else vp_in x2 5 ∧ E X l m_X12_beginRun D 15 [(0, .ref 124), (2, .int (x2 + 1))] [] (sI σ 142 x2.toNatClampNeg (0 : Int32)) r σ')
set_option maxRecDepth 100000 in
theorem w_X12_beginRun_15 {X : Sx} {l : Launch} {D : Nat} {x2 : Int32} {σ : AH} {r : Option Value} {σ' : AH} (hs : Sh σ) (h : W_X12_beginRun_15 X l D x2 σ r σ') : E X l m_X12_beginRun D 15 [(0, .ref 124), (2, .int x2)] [] σ r σ' := by
  unfold W_X12_beginRun_15 at h
  refine E_iload_n 1 dX12_beginRun_15 rfl rfl ?_
  refine E_iconst (5 : Int32) dX12_beginRun_16 (by decide) ?_
  refine E_icmp_ge 33 dX12_beginRun_17 (by decide) (fun c => ?_) (fun c => ?_)
  · rw [if_pos c] at h
    refine E_iconst (0 : Int32) dX12_beginRun_33 (by decide) ?_
    refine E_istore_n [(2, .int (0 : Int32)), (0, .ref 124)] dX12_beginRun_34 rfl (by decide) rfl ?_
    exact E_lv [1, 0] rfl h
  · rw [if_neg c] at h
    refine E_aload_n 0 dX12_beginRun_20 rfl rfl ?_
    refine E_getR 142 dX12_beginRun_21 fl_X12_73 rfl (sk_124 hs) (sn hs (by decide)) (sr_124_37 hs) ?_
    refine E_iload_n 1 dX12_beginRun_24 rfl rfl ?_
    refine E_iconst (0 : Int32) dX12_beginRun_25 (by decide) ?_
    obtain ⟨g11, h⟩ := h
    refine E_iast2 (x2.toNatClampNeg) dX12_beginRun_26 (sk_142 hs) (sn hs (by decide)) (Or.inl (by decide)) g11 rfl ?_
    refine E_iinc 1 (x2 + 1) [(2, .int (x2 + 1)), (0, .ref 124)] dX12_beginRun_27 rfl (congrArg (x2 + ·) (by decide : Int32.ofInt 1 = 1)) (by decide) rfl ?_
    refine E_goto 15 dX12_beginRun_30 (by decide) ?_
    exact E_lv [1, 0] rfl h
def W_X12_beginRun_35 (X : Sx) (l : Launch) (D : Nat) (x2 : Int32) (σ : AH) (r : Option Value) (σ' : AH) : Prop := (if (30 : Int32) ≤ x2 then E X l m_X12_beginRun D 77 [(0, .ref 124), (2, .int (0 : Int32))] [] σ r σ' else vp_in x2 30 ∧ vp_in x2 30 ∧ vp_in x2 30 ∧ vp_in x2 30 ∧ (∀ τ16 : AH, τ16 = (sI (sI (sI (sI σ 144 x2.toNatClampNeg (0 : Int32)) 145 x2.toNatClampNeg (0 : Int32)) 146 x2.toNatClampNeg (0 : Int32)) 147 x2.toNatClampNeg (0 : Int32)) → E X l m_X12_beginRun D 35 [(0, .ref 124), (2, .int (x2 + 1))] [] τ16 r σ'))
set_option maxRecDepth 100000 in
theorem w_X12_beginRun_35 {X : Sx} {l : Launch} {D : Nat} {x2 : Int32} {σ : AH} {r : Option Value} {σ' : AH} (hs : Sh σ) (h : W_X12_beginRun_35 X l D x2 σ r σ') : E X l m_X12_beginRun D 35 [(0, .ref 124), (2, .int x2)] [] σ r σ' := by
  unfold W_X12_beginRun_35 at h
  refine E_iload_n 1 dX12_beginRun_35 rfl rfl ?_
  refine E_bipush (30 : Int32) dX12_beginRun_36 (by decide) ?_
  refine E_icmp_ge 75 dX12_beginRun_38 (by decide) (fun c => ?_) (fun c => ?_)
  · rw [if_pos c] at h
    refine E_iconst (0 : Int32) dX12_beginRun_75 (by decide) ?_
    refine E_istore_n [(2, .int (0 : Int32)), (0, .ref 124)] dX12_beginRun_76 rfl (by decide) rfl ?_
    exact E_lv [1, 0] rfl h
  · rw [if_neg c] at h
    refine E_aload_n 0 dX12_beginRun_41 rfl rfl ?_
    refine E_getR 144 dX12_beginRun_42 fl_X12_79 rfl (sk_124 hs) (sn hs (by decide)) (sr_124_39 hs) ?_
    refine E_iload_n 1 dX12_beginRun_45 rfl rfl ?_
    refine E_iconst (0 : Int32) dX12_beginRun_46 (by decide) ?_
    obtain ⟨g12, h⟩ := h
    refine E_iast2 (x2.toNatClampNeg) dX12_beginRun_47 (sk_144 hs) (sn hs (by decide)) (Or.inl (by decide)) g12 rfl ?_
    refine E_aload_n 0 dX12_beginRun_48 rfl rfl ?_
    refine E_getR 145 dX12_beginRun_49 fl_X12_82 rfl (sk_124 hs) (sn hs (by decide)) (sr_124_40 hs) ?_
    refine E_iload_n 1 dX12_beginRun_52 rfl rfl ?_
    refine E_iconst (0 : Int32) dX12_beginRun_53 (by decide) ?_
    obtain ⟨g13, h⟩ := h
    refine E_zast2 (x2.toNatClampNeg) (0 : Int32) (by decide) dX12_beginRun_54 (sk_145 hs) (sn hs (by decide)) (Or.inl (by decide)) g13 rfl ?_
    refine E_aload_n 0 dX12_beginRun_55 rfl rfl ?_
    refine E_getR 146 dX12_beginRun_56 fl_X12_85 rfl (sk_124 hs) (sn hs (by decide)) (sr_124_41 hs) ?_
    refine E_iload_n 1 dX12_beginRun_59 rfl rfl ?_
    refine E_iconst (0 : Int32) dX12_beginRun_60 (by decide) ?_
    obtain ⟨g14, h⟩ := h
    refine E_iast2 (x2.toNatClampNeg) dX12_beginRun_61 (sk_146 hs) (sn hs (by decide)) (Or.inl (by decide)) g14 rfl ?_
    refine E_aload_n 0 dX12_beginRun_62 rfl rfl ?_
    refine E_getR 147 dX12_beginRun_63 fl_X12_88 rfl (sk_124 hs) (sn hs (by decide)) (sr_124_42 hs) ?_
    refine E_iload_n 1 dX12_beginRun_66 rfl rfl ?_
    refine E_iconst (0 : Int32) dX12_beginRun_67 (by decide) ?_
    obtain ⟨g15, h⟩ := h
    refine E_zast2 (x2.toNatClampNeg) (0 : Int32) (by decide) dX12_beginRun_68 (sk_147 hs) (sn hs (by decide)) (Or.inl (by decide)) g15 rfl ?_
    obtain ⟨τ16, e17⟩ : ∃ τ : AH, τ = (sI (sI (sI (sI σ 144 x2.toNatClampNeg (0 : Int32)) 145 x2.toNatClampNeg (0 : Int32)) 146 x2.toNatClampNeg (0 : Int32)) 147 x2.toNatClampNeg (0 : Int32)) := ⟨_, rfl⟩
    replace h := h τ16 e17
    rw [← e17]
    have hs18 : Sh τ16 := by rw [e17]; exact hs
    refine E_iinc 1 (x2 + 1) [(2, .int (x2 + 1)), (0, .ref 124)] dX12_beginRun_69 rfl (congrArg (x2 + ·) (by decide : Int32.ofInt 1 = 1)) (by decide) rfl ?_
    refine E_goto 35 dX12_beginRun_72 (by decide) ?_
    exact E_lv [1, 0] rfl h
def W_X12_beginRun_77 (X : Sx) (l : Launch) (D : Nat) (x2 : Int32) (σ : AH) (r : Option Value) (σ' : AH) : Prop := (if (90 : Int32) ≤ x2 then (r = none ∧ σ' = σ) else vp_in x2 90 ∧ vp_in x2 90 ∧ E X l m_X12_beginRun D 77 [(0, .ref 124), (2, .int (x2 + 1))] [] (sI (sI σ 148 x2.toNatClampNeg (-1 : Int32)) 149 x2.toNatClampNeg (-1 : Int32)) r σ')
set_option maxRecDepth 100000 in
theorem w_X12_beginRun_77 {X : Sx} {l : Launch} {D : Nat} {x2 : Int32} {σ : AH} {r : Option Value} {σ' : AH} (hs : Sh σ) (h : W_X12_beginRun_77 X l D x2 σ r σ') : E X l m_X12_beginRun D 77 [(0, .ref 124), (2, .int x2)] [] σ r σ' := by
  unfold W_X12_beginRun_77 at h
  refine E_iload_n 1 dX12_beginRun_77 rfl rfl ?_
  refine E_bipush (90 : Int32) dX12_beginRun_78 (by decide) ?_
  refine E_icmp_ge 103 dX12_beginRun_80 (by decide) (fun c => ?_) (fun c => ?_)
  · rw [if_pos c] at h
    obtain ⟨rfl, rfl⟩ := h
    exact E_vret dX12_beginRun_103 rfl
  · rw [if_neg c] at h
    refine E_aload_n 0 dX12_beginRun_83 rfl rfl ?_
    refine E_getR 148 dX12_beginRun_84 fl_X12_91 rfl (sk_124 hs) (sn hs (by decide)) (sr_124_43 hs) ?_
    refine E_iload_n 1 dX12_beginRun_87 rfl rfl ?_
    refine E_iconst (-1 : Int32) dX12_beginRun_88 (by decide) ?_
    obtain ⟨g19, h⟩ := h
    refine E_iast2 (x2.toNatClampNeg) dX12_beginRun_89 (sk_148 hs) (sn hs (by decide)) (Or.inl (by decide)) g19 rfl ?_
    refine E_aload_n 0 dX12_beginRun_90 rfl rfl ?_
    refine E_getR 149 dX12_beginRun_91 fl_X12_94 rfl (sk_124 hs) (sn hs (by decide)) (sr_124_44 hs) ?_
    refine E_iload_n 1 dX12_beginRun_94 rfl rfl ?_
    refine E_iconst (-1 : Int32) dX12_beginRun_95 (by decide) ?_
    obtain ⟨g20, h⟩ := h
    refine E_iast2 (x2.toNatClampNeg) dX12_beginRun_96 (sk_149 hs) (sn hs (by decide)) (Or.inl (by decide)) g20 rfl ?_
    refine E_iinc 1 (x2 + 1) [(2, .int (x2 + 1)), (0, .ref 124)] dX12_beginRun_97 rfl (congrArg (x2 + ·) (by decide : Int32.ofInt 1 = 1)) (by decide) rfl ?_
    refine E_goto 77 dX12_beginRun_100 (by decide) ?_
    exact E_lv [1, 0] rfl h
def W_X12_gangsOf_0 (X : Sx) (l : Launch) (D : Nat) (x1 : Int32) (x2 : Int32) (σ : AH) (r : Option Value) (σ' : AH) : Prop := E X l m_X12_gangsOf D 8 [(0, .ref 124), (1, .int x1), (2, .int x2), (3, .int (0 : Int32)), (4, .int (-1 : Int32)), (5, .int (0 : Int32))] [] σ r σ'
set_option maxRecDepth 100000 in
theorem w_X12_gangsOf_0 {X : Sx} {l : Launch} {D : Nat} {x1 : Int32} {x2 : Int32} {σ : AH} {r : Option Value} {σ' : AH} (hs : Sh σ) (h : W_X12_gangsOf_0 X l D x1 x2 σ r σ') : E X l m_X12_gangsOf D 0 [(0, .ref 124), (1, .int x1), (2, .int x2)] [] σ r σ' := by
  unfold W_X12_gangsOf_0 at h
  refine E_iconst (0 : Int32) dX12_gangsOf_0 (by decide) ?_
  refine E_istore_n [(3, .int (0 : Int32)), (0, .ref 124), (1, .int x1), (2, .int x2)] dX12_gangsOf_1 rfl (by decide) rfl ?_
  refine E_iconst (-1 : Int32) dX12_gangsOf_2 (by decide) ?_
  refine E_istore [(4, .int (-1 : Int32)), (3, .int (0 : Int32)), (0, .ref 124), (1, .int x1), (2, .int x2)] dX12_gangsOf_3 (by decide) rfl ?_
  refine E_iconst (0 : Int32) dX12_gangsOf_5 (by decide) ?_
  refine E_istore [(5, .int (0 : Int32)), (4, .int (-1 : Int32)), (3, .int (0 : Int32)), (0, .ref 124), (1, .int x1), (2, .int x2)] dX12_gangsOf_6 (by decide) rfl ?_
  exact E_lv [3, 4, 5, 2, 1, 0] rfl h
def W_X12_gangsOf_104 (X : Sx) (l : Launch) (D : Nat) (x1 : Int32) (x2 : Int32) (x3 : Int32) (x4 : Int32) (x5 : Int32) (σ : AH) (r : Option Value) (σ' : AH) : Prop := E X l m_X12_gangsOf D 8 [(0, .ref 124), (1, .int x1), (2, .int x2), (3, .int x3), (4, .int x4), (5, .int (x5 + 1))] [] σ r σ'
set_option maxRecDepth 100000 in
theorem w_X12_gangsOf_104 {X : Sx} {l : Launch} {D : Nat} {x1 : Int32} {x2 : Int32} {x3 : Int32} {x4 : Int32} {x5 : Int32} {σ : AH} {r : Option Value} {σ' : AH} (hs : Sh σ) (h : W_X12_gangsOf_104 X l D x1 x2 x3 x4 x5 σ r σ') : E X l m_X12_gangsOf D 104 [(0, .ref 124), (1, .int x1), (2, .int x2), (3, .int x3), (4, .int x4), (5, .int x5)] [] σ r σ' := by
  unfold W_X12_gangsOf_104 at h
  refine E_iinc 5 (x5 + 1) [(5, .int (x5 + 1)), (0, .ref 124), (1, .int x1), (2, .int x2), (3, .int x3), (4, .int x4)] dX12_gangsOf_104 rfl (congrArg (x5 + ·) (by decide : Int32.ofInt 1 = 1)) (by decide) rfl ?_
  refine E_goto 8 dX12_gangsOf_107 (by decide) ?_
  exact E_lv [1, 2, 3, 4, 5, 0] rfl h
def W_X12_gangsOf_8 (X : Sx) (l : Launch) (D : Nat) (x1 : Int32) (x2 : Int32) (x3 : Int32) (x4 : Int32) (x5 : Int32) (σ : AH) (r : Option Value) (σ' : AH) : Prop := (if (gI σ 125 3) ≤ x5 then (r = some (.int x3) ∧ σ' = σ) else vp_in ((23292 : Int32) + ((4 : Int32) * x5)) 269832 ∧ (if (gI σ 125 ((23292 : Int32) + ((4 : Int32) * x5)).toNatClampNeg) = x1 then vp_in (((23292 : Int32) + ((4 : Int32) * x5)) + (3 : Int32)) 269832 ∧ (if (gI σ 124 23) < (gI σ 125 (((23292 : Int32) + ((4 : Int32) * x5)) + (3 : Int32)).toNatClampNeg) then W_X12_gangsOf_104 X l D x1 x2 x3 x4 x5 σ r σ' else vp_in (((23292 : Int32) + ((4 : Int32) * x5)) + (2 : Int32)) 269832 ∧ (if x2 < (gI σ 125 (((23292 : Int32) + ((4 : Int32) * x5)) + (2 : Int32)).toNatClampNeg) then W_X12_gangsOf_104 X l D x1 x2 x3 x4 x5 σ r σ' else vp_in (((23292 : Int32) + ((4 : Int32) * x5)) + (2 : Int32)) 269832 ∧ (if (gI σ 125 (((23292 : Int32) + ((4 : Int32) * x5)) + (2 : Int32)).toNatClampNeg) < x4 then W_X12_gangsOf_104 X l D x1 x2 x3 x4 x5 σ r σ' else vp_in (((23292 : Int32) + ((4 : Int32) * x5)) + (2 : Int32)) 269832 ∧ vp_in (((23292 : Int32) + ((4 : Int32) * x5)) + (1 : Int32)) 269832 ∧ W_X12_gangsOf_104 X l D x1 x2 (gI σ 125 (((23292 : Int32) + ((4 : Int32) * x5)) + (1 : Int32)).toNatClampNeg) (gI σ 125 (((23292 : Int32) + ((4 : Int32) * x5)) + (2 : Int32)).toNatClampNeg) x5 σ r σ'))) else W_X12_gangsOf_104 X l D x1 x2 x3 x4 x5 σ r σ'))
set_option maxRecDepth 100000 in
theorem w_X12_gangsOf_8 {X : Sx} {l : Launch} {D : Nat} {x1 : Int32} {x2 : Int32} {x3 : Int32} {x4 : Int32} {x5 : Int32} {σ : AH} {r : Option Value} {σ' : AH} (hs : Sh σ) (h : W_X12_gangsOf_8 X l D x1 x2 x3 x4 x5 σ r σ') : E X l m_X12_gangsOf D 8 [(0, .ref 124), (1, .int x1), (2, .int x2), (3, .int x3), (4, .int x4), (5, .int x5)] [] σ r σ' := by
  unfold W_X12_gangsOf_8 at h
  refine E_iload 5 dX12_gangsOf_8 rfl ?_
  refine E_aload_n 0 dX12_gangsOf_10 rfl rfl ?_
  refine E_getR 125 dX12_gangsOf_11 fl_X12_8 rfl (sk_124 hs) (sn hs (by decide)) (sr_124_2 hs) ?_
  refine E_iconst (3 : Int32) dX12_gangsOf_14 (by decide) ?_
  refine E_iald2 3 dX12_gangsOf_15 (sk_125 hs) (sn hs (by decide)) (vp_lit (by decide)) (by decide) ?_
  refine E_icmp_ge 110 dX12_gangsOf_16 (by decide) (fun c => ?_) (fun c => ?_)
  · rw [if_pos c] at h
    refine E_iload_n 3 dX12_gangsOf_110 rfl rfl ?_
    obtain ⟨rfl, rfl⟩ := h
    exact E_iret dX12_gangsOf_111 rfl
  · rw [if_neg c] at h
    refine E_sipush (23292 : Int32) dX12_gangsOf_19 (by decide) ?_
    refine E_iconst (4 : Int32) dX12_gangsOf_22 (by decide) ?_
    refine E_iload 5 dX12_gangsOf_23 rfl ?_
    refine E_imul dX12_gangsOf_25 ?_
    refine E_iadd dX12_gangsOf_26 ?_
    refine E_istore [(6, .int ((23292 : Int32) + ((4 : Int32) * x5))), (0, .ref 124), (1, .int x1), (2, .int x2), (3, .int x3), (4, .int x4), (5, .int x5)] dX12_gangsOf_27 (by decide) rfl ?_
    refine E_aload_n 1 dX12_gangsOf_29 rfl rfl ?_
    refine E_getR 125 dX12_gangsOf_30 fl_X12_8 rfl (sk_124 hs) (sn hs (by decide)) (sr_124_2 hs) ?_
    refine E_iload 0 dX12_gangsOf_33 rfl ?_
    obtain ⟨g1, h⟩ := h
    refine E_iald2 (((23292 : Int32) + ((4 : Int32) * x5)).toNatClampNeg) dX12_gangsOf_35 (sk_125 hs) (sn hs (by decide)) g1 rfl ?_
    refine E_iload_n 2 dX12_gangsOf_36 rfl rfl ?_
    refine E_icmp_ne 104 dX12_gangsOf_37 (by decide) (fun c => ?_) (fun c => ?_)
    · rw [if_neg c] at h
      exact E_lv [1, 2, 3, 4, 5, 6] rfl (w_X12_gangsOf_104 hs h)
    · rw [if_pos c] at h
      refine E_aload_n 1 dX12_gangsOf_40 rfl rfl ?_
      refine E_getR 125 dX12_gangsOf_41 fl_X12_8 rfl (sk_124 hs) (sn hs (by decide)) (sr_124_2 hs) ?_
      refine E_iload 0 dX12_gangsOf_44 rfl ?_
      refine E_iconst (3 : Int32) dX12_gangsOf_46 (by decide) ?_
      refine E_iadd dX12_gangsOf_47 ?_
      obtain ⟨g2, h⟩ := h
      refine E_iald2 ((((23292 : Int32) + ((4 : Int32) * x5)) + (3 : Int32)).toNatClampNeg) dX12_gangsOf_48 (sk_125 hs) (sn hs (by decide)) g2 rfl ?_
      refine E_aload_n 1 dX12_gangsOf_49 rfl rfl ?_
      refine E_getI dX12_gangsOf_50 fl_X12_399 rfl (sk_124 hs) (sn hs (by decide)) ?_
      refine E_icmp_gt 104 dX12_gangsOf_53 (by decide) (fun c => ?_) (fun c => ?_)
      · rw [if_pos c] at h
        exact E_lv [1, 2, 3, 4, 5, 6] rfl (w_X12_gangsOf_104 hs h)
      · rw [if_neg c] at h
        refine E_aload_n 1 dX12_gangsOf_56 rfl rfl ?_
        refine E_getR 125 dX12_gangsOf_57 fl_X12_8 rfl (sk_124 hs) (sn hs (by decide)) (sr_124_2 hs) ?_
        refine E_iload 0 dX12_gangsOf_60 rfl ?_
        refine E_iconst (2 : Int32) dX12_gangsOf_62 (by decide) ?_
        refine E_iadd dX12_gangsOf_63 ?_
        obtain ⟨g3, h⟩ := h
        refine E_iald2 ((((23292 : Int32) + ((4 : Int32) * x5)) + (2 : Int32)).toNatClampNeg) dX12_gangsOf_64 (sk_125 hs) (sn hs (by decide)) g3 rfl ?_
        refine E_iload_n 3 dX12_gangsOf_65 rfl rfl ?_
        refine E_icmp_gt 104 dX12_gangsOf_66 (by decide) (fun c => ?_) (fun c => ?_)
        · rw [if_pos c] at h
          exact E_lv [1, 2, 3, 4, 5, 6] rfl (w_X12_gangsOf_104 hs h)
        · rw [if_neg c] at h
          refine E_aload_n 1 dX12_gangsOf_69 rfl rfl ?_
          refine E_getR 125 dX12_gangsOf_70 fl_X12_8 rfl (sk_124 hs) (sn hs (by decide)) (sr_124_2 hs) ?_
          refine E_iload 0 dX12_gangsOf_73 rfl ?_
          refine E_iconst (2 : Int32) dX12_gangsOf_75 (by decide) ?_
          refine E_iadd dX12_gangsOf_76 ?_
          obtain ⟨g4, h⟩ := h
          refine E_iald2 ((((23292 : Int32) + ((4 : Int32) * x5)) + (2 : Int32)).toNatClampNeg) dX12_gangsOf_77 (sk_125 hs) (sn hs (by decide)) g4 rfl ?_
          refine E_iload 5 dX12_gangsOf_78 rfl ?_
          refine E_icmp_lt 104 dX12_gangsOf_80 (by decide) (fun c => ?_) (fun c => ?_)
          · rw [if_pos c] at h
            exact E_lv [1, 2, 3, 4, 5, 6] rfl (w_X12_gangsOf_104 hs h)
          · rw [if_neg c] at h
            refine E_aload_n 1 dX12_gangsOf_83 rfl rfl ?_
            refine E_getR 125 dX12_gangsOf_84 fl_X12_8 rfl (sk_124 hs) (sn hs (by decide)) (sr_124_2 hs) ?_
            refine E_iload 0 dX12_gangsOf_87 rfl ?_
            refine E_iconst (2 : Int32) dX12_gangsOf_89 (by decide) ?_
            refine E_iadd dX12_gangsOf_90 ?_
            obtain ⟨g5, h⟩ := h
            refine E_iald2 ((((23292 : Int32) + ((4 : Int32) * x5)) + (2 : Int32)).toNatClampNeg) dX12_gangsOf_91 (sk_125 hs) (sn hs (by decide)) g5 rfl ?_
            refine E_istore [(4, .int (gI σ 125 (((23292 : Int32) + ((4 : Int32) * x5)) + (2 : Int32)).toNatClampNeg)), (6, .int ((23292 : Int32) + ((4 : Int32) * x5))), (0, .ref 124), (1, .int x1), (2, .int x2), (3, .int x3), (5, .int x5)] dX12_gangsOf_92 (by decide) rfl ?_
            refine E_aload_n 2 dX12_gangsOf_94 rfl rfl ?_
            refine E_getR 125 dX12_gangsOf_95 fl_X12_8 rfl (sk_124 hs) (sn hs (by decide)) (sr_124_2 hs) ?_
            refine E_iload 1 dX12_gangsOf_98 rfl ?_
            refine E_iconst (1 : Int32) dX12_gangsOf_100 (by decide) ?_
            refine E_iadd dX12_gangsOf_101 ?_
            obtain ⟨g6, h⟩ := h
            refine E_iald2 ((((23292 : Int32) + ((4 : Int32) * x5)) + (1 : Int32)).toNatClampNeg) dX12_gangsOf_102 (sk_125 hs) (sn hs (by decide)) g6 rfl ?_
            refine E_istore_n [(3, .int (gI σ 125 (((23292 : Int32) + ((4 : Int32) * x5)) + (1 : Int32)).toNatClampNeg)), (4, .int (gI σ 125 (((23292 : Int32) + ((4 : Int32) * x5)) + (2 : Int32)).toNatClampNeg)), (6, .int ((23292 : Int32) + ((4 : Int32) * x5))), (0, .ref 124), (1, .int x1), (2, .int x2), (5, .int x5)] dX12_gangsOf_103 rfl (by decide) rfl ?_
            exact E_lv [3, 4, 5, 0, 1, 6] rfl (w_X12_gangsOf_104 hs h)
def W_X12_doWork_161 (X : Sx) (l : Launch) (D : Nat) (x1 : Int32) (x3 : Int32) (x4 : Int32) (x5 : Int32) (x6 : Int32) (y0 : Int32) (σ : AH) (r : Option Value) (σ' : AH) : Prop := vp_in x3 5 ∧ vp_in x3 5 ∧ vp_in x4 5 ∧ vp_in x4 5 ∧ (∀ τ20 : AH, τ20 = (sI (sI σ 142 x3.toNatClampNeg ((gI σ 142 x3.toNatClampNeg) - (y0 * x5))) 142 x4.toNatClampNeg ((gI (sI σ 142 x3.toNatClampNeg ((gI σ 142 x3.toNatClampNeg) - (y0 * x5))) 142 x4.toNatClampNeg) - (y0 * x6))) → vp_in (x1 + (4 : Int32)) 269832 ∧ vp_in (gI τ20 125 (x1 + (4 : Int32)).toNatClampNeg) 5 ∧ vp_in (x1 + (5 : Int32)) 269832 ∧ vp_in (gI τ20 125 (x1 + (4 : Int32)).toNatClampNeg) 5 ∧ (∀ τ27 : AH, τ27 = (sI τ20 142 ((gI τ20 125 (x1 + (4 : Int32)).toNatClampNeg).toNatClampNeg) ((gI τ20 142 (gI τ20 125 (x1 + (4 : Int32)).toNatClampNeg).toNatClampNeg) + (y0 * (gI τ20 125 (x1 + (5 : Int32)).toNatClampNeg)))) → (r = none ∧ σ' = τ27)))
set_option maxRecDepth 100000 in
theorem w_X12_doWork_161 {X : Sx} {l : Launch} {D : Nat} {x1 : Int32} {x3 : Int32} {x4 : Int32} {x5 : Int32} {x6 : Int32} {y0 : Int32} {σ : AH} {r : Option Value} {σ' : AH} (hs : Sh σ) (h : W_X12_doWork_161 X l D x1 x3 x4 x5 x6 y0 σ r σ') : E X l m_X12_doWork D 161 [(0, .ref 124), (1, .int x1), (3, .int x3), (4, .int x4), (5, .int x5), (6, .int x6)] [.int y0] σ r σ' := by
  unfold W_X12_doWork_161 at h
  refine E_istore [(7, .int y0), (0, .ref 124), (1, .int x1), (3, .int x3), (4, .int x4), (5, .int x5), (6, .int x6)] dX12_doWork_161 (by decide) rfl ?_
  refine E_aload_n 1 dX12_doWork_163 rfl rfl ?_
  refine E_getR 142 dX12_doWork_164 fl_X12_73 rfl (sk_124 hs) (sn hs (by decide)) (sr_124_37 hs) ?_
  refine E_iload_n 3 dX12_doWork_167 rfl rfl ?_
  refine E_dup2 dX12_doWork_168 rfl rfl ?_
  obtain ⟨g16, h⟩ := h
  refine E_iald2 (x3.toNatClampNeg) dX12_doWork_169 (sk_142 hs) (sn hs (by decide)) g16 rfl ?_
  refine E_iload 0 dX12_doWork_170 rfl ?_
  refine E_iload 5 dX12_doWork_172 rfl ?_
  refine E_imul dX12_doWork_174 ?_
  refine E_isub dX12_doWork_175 ?_
  obtain ⟨g17, h⟩ := h
  refine E_iast2 (x3.toNatClampNeg) dX12_doWork_176 (sk_142 hs) (sn hs (by decide)) (Or.inl (by decide)) g17 rfl ?_
  refine E_aload_n 1 dX12_doWork_177 rfl rfl ?_
  refine E_getR 142 dX12_doWork_178 fl_X12_73 rfl (sk_124 hs) (sn hs (by decide)) (sr_124_37 hs) ?_
  refine E_iload 4 dX12_doWork_181 rfl ?_
  refine E_dup2 dX12_doWork_183 rfl rfl ?_
  obtain ⟨g18, h⟩ := h
  refine E_iald2 (x4.toNatClampNeg) dX12_doWork_184 (sk_142 hs) (sn hs (by decide)) g18 rfl ?_
  refine E_iload 0 dX12_doWork_185 rfl ?_
  refine E_iload 6 dX12_doWork_187 rfl ?_
  refine E_imul dX12_doWork_189 ?_
  refine E_isub dX12_doWork_190 ?_
  obtain ⟨g19, h⟩ := h
  refine E_iast2 (x4.toNatClampNeg) dX12_doWork_191 (sk_142 hs) (sn hs (by decide)) (Or.inl (by decide)) g19 rfl ?_
  obtain ⟨τ20, e21⟩ : ∃ τ : AH, τ = (sI (sI σ 142 x3.toNatClampNeg ((gI σ 142 x3.toNatClampNeg) - (y0 * x5))) 142 x4.toNatClampNeg ((gI (sI σ 142 x3.toNatClampNeg ((gI σ 142 x3.toNatClampNeg) - (y0 * x5))) 142 x4.toNatClampNeg) - (y0 * x6))) := ⟨_, rfl⟩
  replace h := h τ20 e21
  rw [← e21]
  have hs22 : Sh τ20 := by rw [e21]; exact hs
  refine E_aload_n 1 dX12_doWork_192 rfl rfl ?_
  refine E_getR 142 dX12_doWork_193 fl_X12_73 rfl (sk_124 hs22) (sn hs22 (by decide)) (sr_124_37 hs22) ?_
  refine E_aload_n 1 dX12_doWork_196 rfl rfl ?_
  refine E_getR 125 dX12_doWork_197 fl_X12_8 rfl (sk_124 hs22) (sn hs22 (by decide)) (sr_124_2 hs22) ?_
  refine E_iload_n 2 dX12_doWork_200 rfl rfl ?_
  refine E_iconst (4 : Int32) dX12_doWork_201 (by decide) ?_
  refine E_iadd dX12_doWork_202 ?_
  obtain ⟨g23, h⟩ := h
  refine E_iald2 ((x1 + (4 : Int32)).toNatClampNeg) dX12_doWork_203 (sk_125 hs22) (sn hs22 (by decide)) g23 rfl ?_
  refine E_dup2 dX12_doWork_204 rfl rfl ?_
  obtain ⟨g24, h⟩ := h
  refine E_iald2 ((gI τ20 125 (x1 + (4 : Int32)).toNatClampNeg).toNatClampNeg) dX12_doWork_205 (sk_142 hs22) (sn hs22 (by decide)) g24 rfl ?_
  refine E_iload 0 dX12_doWork_206 rfl ?_
  refine E_aload_n 1 dX12_doWork_208 rfl rfl ?_
  refine E_getR 125 dX12_doWork_209 fl_X12_8 rfl (sk_124 hs22) (sn hs22 (by decide)) (sr_124_2 hs22) ?_
  refine E_iload_n 2 dX12_doWork_212 rfl rfl ?_
  refine E_iconst (5 : Int32) dX12_doWork_213 (by decide) ?_
  refine E_iadd dX12_doWork_214 ?_
  obtain ⟨g25, h⟩ := h
  refine E_iald2 ((x1 + (5 : Int32)).toNatClampNeg) dX12_doWork_215 (sk_125 hs22) (sn hs22 (by decide)) g25 rfl ?_
  refine E_imul dX12_doWork_216 ?_
  refine E_iadd dX12_doWork_217 ?_
  obtain ⟨g26, h⟩ := h
  refine E_iast2 ((gI τ20 125 (x1 + (4 : Int32)).toNatClampNeg).toNatClampNeg) dX12_doWork_218 (sk_142 hs22) (sn hs22 (by decide)) (Or.inl (by decide)) g26 rfl ?_
  obtain ⟨τ27, e28⟩ : ∃ τ : AH, τ = (sI τ20 142 ((gI τ20 125 (x1 + (4 : Int32)).toNatClampNeg).toNatClampNeg) ((gI τ20 142 (gI τ20 125 (x1 + (4 : Int32)).toNatClampNeg).toNatClampNeg) + (y0 * (gI τ20 125 (x1 + (5 : Int32)).toNatClampNeg)))) := ⟨_, rfl⟩
  replace h := h τ27 e28
  rw [← e28]
  have hs29 : Sh τ27 := by rw [e28]; exact hs22
  obtain ⟨rfl, rfl⟩ := h
  exact E_vret dX12_doWork_219 rfl
def W_X12_doWork_159 (X : Sx) (l : Launch) (D : Nat) (x1 : Int32) (x3 : Int32) (x4 : Int32) (x5 : Int32) (x6 : Int32) (x7 : Int32) (σ : AH) (r : Option Value) (σ' : AH) : Prop := W_X12_doWork_161 X l D x1 x3 x4 x5 x6 x7 σ r σ'
set_option maxRecDepth 100000 in
theorem w_X12_doWork_159 {X : Sx} {l : Launch} {D : Nat} {x1 : Int32} {x3 : Int32} {x4 : Int32} {x5 : Int32} {x6 : Int32} {x7 : Int32} {σ : AH} {r : Option Value} {σ' : AH} (hs : Sh σ) (h : W_X12_doWork_159 X l D x1 x3 x4 x5 x6 x7 σ r σ') : E X l m_X12_doWork D 159 [(0, .ref 124), (1, .int x1), (3, .int x3), (4, .int x4), (5, .int x5), (6, .int x6), (7, .int x7)] [] σ r σ' := by
  unfold W_X12_doWork_159 at h
  refine E_iload 6 dX12_doWork_159 rfl ?_
  exact E_lv [0, 1, 2, 3, 4, 5] rfl (w_X12_doWork_161 hs h)
def W_X12_doWork_124 (X : Sx) (l : Launch) (D : Nat) (x1 : Int32) (x3 : Int32) (x4 : Int32) (x5 : Int32) (x6 : Int32) (y0 : Int32) (σ : AH) (r : Option Value) (σ' : AH) : Prop := (if x6 ≤ 0 then W_X12_doWork_159 X l D x1 x3 x4 x5 x6 y0 σ r σ' else vp_in x4 5 ∧ ¬ x6 = 0 ∧ (if y0 ≤ ((gI σ 142 x4.toNatClampNeg) / x6) then W_X12_doWork_159 X l D x1 x3 x4 x5 x6 y0 σ r σ' else vp_in x4 5 ∧ ¬ x6 = 0 ∧ W_X12_doWork_161 X l D x1 x3 x4 x5 x6 ((gI σ 142 x4.toNatClampNeg) / x6) σ r σ'))
set_option maxRecDepth 100000 in
theorem w_X12_doWork_124 {X : Sx} {l : Launch} {D : Nat} {x1 : Int32} {x3 : Int32} {x4 : Int32} {x5 : Int32} {x6 : Int32} {y0 : Int32} {σ : AH} {r : Option Value} {σ' : AH} (hs : Sh σ) (h : W_X12_doWork_124 X l D x1 x3 x4 x5 x6 y0 σ r σ') : E X l m_X12_doWork D 124 [(0, .ref 124), (1, .int x1), (3, .int x3), (4, .int x4), (5, .int x5), (6, .int x6)] [.int y0] σ r σ' := by
  unfold W_X12_doWork_124 at h
  refine E_istore [(7, .int y0), (0, .ref 124), (1, .int x1), (3, .int x3), (4, .int x4), (5, .int x5), (6, .int x6)] dX12_doWork_124 (by decide) rfl ?_
  refine E_iload 6 dX12_doWork_126 rfl ?_
  refine E_if_le 159 dX12_doWork_128 (by decide) (fun c => ?_) (fun c => ?_)
  · rw [if_pos c] at h
    exact E_lv [1, 2, 3, 4, 5, 6, 0] rfl (w_X12_doWork_159 hs h)
  · rw [if_neg c] at h
    refine E_aload_n 1 dX12_doWork_131 rfl rfl ?_
    refine E_getR 142 dX12_doWork_132 fl_X12_73 rfl (sk_124 hs) (sn hs (by decide)) (sr_124_37 hs) ?_
    refine E_iload 4 dX12_doWork_135 rfl ?_
    obtain ⟨g12, h⟩ := h
    refine E_iald2 (x4.toNatClampNeg) dX12_doWork_137 (sk_142 hs) (sn hs (by decide)) g12 rfl ?_
    refine E_iload 6 dX12_doWork_138 rfl ?_
    obtain ⟨g13, h⟩ := h
    refine E_idiv dX12_doWork_140 g13 ?_
    refine E_iload 0 dX12_doWork_141 rfl ?_
    refine E_icmp_ge 159 dX12_doWork_143 (by decide) (fun c => ?_) (fun c => ?_)
    · rw [if_pos c] at h
      exact E_lv [1, 2, 3, 4, 5, 6, 0] rfl (w_X12_doWork_159 hs h)
    · rw [if_neg c] at h
      refine E_aload_n 1 dX12_doWork_146 rfl rfl ?_
      refine E_getR 142 dX12_doWork_147 fl_X12_73 rfl (sk_124 hs) (sn hs (by decide)) (sr_124_37 hs) ?_
      refine E_iload 4 dX12_doWork_150 rfl ?_
      obtain ⟨g14, h⟩ := h
      refine E_iald2 (x4.toNatClampNeg) dX12_doWork_152 (sk_142 hs) (sn hs (by decide)) g14 rfl ?_
      refine E_iload 6 dX12_doWork_153 rfl ?_
      obtain ⟨g15, h⟩ := h
      refine E_idiv dX12_doWork_155 g15 ?_
      refine E_goto 161 dX12_doWork_156 (by decide) ?_
      exact E_lv [1, 2, 3, 4, 5, 6] rfl (w_X12_doWork_161 hs h)
def W_X12_doWork_122 (X : Sx) (l : Launch) (D : Nat) (x1 : Int32) (x3 : Int32) (x4 : Int32) (x5 : Int32) (x6 : Int32) (x7 : Int32) (σ : AH) (r : Option Value) (σ' : AH) : Prop := W_X12_doWork_124 X l D x1 x3 x4 x5 x6 x7 σ r σ'
set_option maxRecDepth 100000 in
theorem w_X12_doWork_122 {X : Sx} {l : Launch} {D : Nat} {x1 : Int32} {x3 : Int32} {x4 : Int32} {x5 : Int32} {x6 : Int32} {x7 : Int32} {σ : AH} {r : Option Value} {σ' : AH} (hs : Sh σ) (h : W_X12_doWork_122 X l D x1 x3 x4 x5 x6 x7 σ r σ') : E X l m_X12_doWork D 122 [(0, .ref 124), (1, .int x1), (3, .int x3), (4, .int x4), (5, .int x5), (6, .int x6), (7, .int x7)] [] σ r σ' := by
  unfold W_X12_doWork_122 at h
  refine E_iload 6 dX12_doWork_122 rfl ?_
  exact E_lv [0, 1, 2, 3, 4, 5] rfl (w_X12_doWork_124 hs h)
def W_X12_doWork_78 (X : Sx) (l : Launch) (D : Nat) (x1 : Int32) (x3 : Int32) (x4 : Int32) (x5 : Int32) (y0 : Int32) (σ : AH) (r : Option Value) (σ' : AH) : Prop := vp_in (x1 + (6 : Int32)) 269832 ∧ (if x5 ≤ 0 then W_X12_doWork_122 X l D x1 x3 x4 x5 y0 (gI σ 125 (x1 + (6 : Int32)).toNatClampNeg) σ r σ' else vp_in x3 5 ∧ ¬ x5 = 0 ∧ (if (gI σ 125 (x1 + (6 : Int32)).toNatClampNeg) ≤ ((gI σ 142 x3.toNatClampNeg) / x5) then W_X12_doWork_122 X l D x1 x3 x4 x5 y0 (gI σ 125 (x1 + (6 : Int32)).toNatClampNeg) σ r σ' else vp_in x3 5 ∧ ¬ x5 = 0 ∧ W_X12_doWork_124 X l D x1 x3 x4 x5 y0 ((gI σ 142 x3.toNatClampNeg) / x5) σ r σ'))
set_option maxRecDepth 100000 in
theorem w_X12_doWork_78 {X : Sx} {l : Launch} {D : Nat} {x1 : Int32} {x3 : Int32} {x4 : Int32} {x5 : Int32} {y0 : Int32} {σ : AH} {r : Option Value} {σ' : AH} (hs : Sh σ) (h : W_X12_doWork_78 X l D x1 x3 x4 x5 y0 σ r σ') : E X l m_X12_doWork D 78 [(0, .ref 124), (1, .int x1), (3, .int x3), (4, .int x4), (5, .int x5)] [.int y0] σ r σ' := by
  unfold W_X12_doWork_78 at h
  refine E_istore [(6, .int y0), (0, .ref 124), (1, .int x1), (3, .int x3), (4, .int x4), (5, .int x5)] dX12_doWork_78 (by decide) rfl ?_
  refine E_aload_n 1 dX12_doWork_80 rfl rfl ?_
  refine E_getR 125 dX12_doWork_81 fl_X12_8 rfl (sk_124 hs) (sn hs (by decide)) (sr_124_2 hs) ?_
  refine E_iload_n 2 dX12_doWork_84 rfl rfl ?_
  refine E_bipush (6 : Int32) dX12_doWork_85 (by decide) ?_
  refine E_iadd dX12_doWork_87 ?_
  obtain ⟨g7, h⟩ := h
  refine E_iald2 ((x1 + (6 : Int32)).toNatClampNeg) dX12_doWork_88 (sk_125 hs) (sn hs (by decide)) g7 rfl ?_
  refine E_istore [(7, .int (gI σ 125 (x1 + (6 : Int32)).toNatClampNeg)), (6, .int y0), (0, .ref 124), (1, .int x1), (3, .int x3), (4, .int x4), (5, .int x5)] dX12_doWork_89 (by decide) rfl ?_
  refine E_iload 6 dX12_doWork_91 rfl ?_
  refine E_if_le 122 dX12_doWork_93 (by decide) (fun c => ?_) (fun c => ?_)
  · rw [if_pos c] at h
    exact E_lv [2, 3, 4, 5, 6, 1, 0] rfl (w_X12_doWork_122 hs h)
  · rw [if_neg c] at h
    refine E_aload_n 2 dX12_doWork_96 rfl rfl ?_
    refine E_getR 142 dX12_doWork_97 fl_X12_73 rfl (sk_124 hs) (sn hs (by decide)) (sr_124_37 hs) ?_
    refine E_iload_n 4 dX12_doWork_100 rfl rfl ?_
    obtain ⟨g8, h⟩ := h
    refine E_iald2 (x3.toNatClampNeg) dX12_doWork_101 (sk_142 hs) (sn hs (by decide)) g8 rfl ?_
    refine E_iload 6 dX12_doWork_102 rfl ?_
    obtain ⟨g9, h⟩ := h
    refine E_idiv dX12_doWork_104 g9 ?_
    refine E_iload 0 dX12_doWork_105 rfl ?_
    refine E_icmp_ge 122 dX12_doWork_107 (by decide) (fun c => ?_) (fun c => ?_)
    · rw [if_pos c] at h
      exact E_lv [2, 3, 4, 5, 6, 1, 0] rfl (w_X12_doWork_122 hs h)
    · rw [if_neg c] at h
      refine E_aload_n 2 dX12_doWork_110 rfl rfl ?_
      refine E_getR 142 dX12_doWork_111 fl_X12_73 rfl (sk_124 hs) (sn hs (by decide)) (sr_124_37 hs) ?_
      refine E_iload_n 4 dX12_doWork_114 rfl rfl ?_
      obtain ⟨g10, h⟩ := h
      refine E_iald2 (x3.toNatClampNeg) dX12_doWork_115 (sk_142 hs) (sn hs (by decide)) g10 rfl ?_
      refine E_iload 6 dX12_doWork_116 rfl ?_
      obtain ⟨g11, h⟩ := h
      refine E_idiv dX12_doWork_118 g11 ?_
      refine E_goto 124 dX12_doWork_119 (by decide) ?_
      exact E_lv [2, 3, 4, 5, 6, 1] rfl (w_X12_doWork_124 hs h)
def W_X12_doWork_57 (X : Sx) (l : Launch) (D : Nat) (x1 : Int32) (x3 : Int32) (x4 : Int32) (y0 : Int32) (y1 : Int32) (σ : AH) (r : Option Value) (σ' : AH) : Prop := (if x3 = x4 then W_X12_doWork_78 X l D x1 x3 x4 (y1 + y0) (0 : Int32) σ r σ' else vp_in (x1 + (3 : Int32)) 269832 ∧ W_X12_doWork_78 X l D x1 x3 x4 (y1 + y0) (gI σ 125 (x1 + (3 : Int32)).toNatClampNeg) σ r σ')
set_option maxRecDepth 100000 in
theorem w_X12_doWork_57 {X : Sx} {l : Launch} {D : Nat} {x1 : Int32} {x3 : Int32} {x4 : Int32} {y0 : Int32} {y1 : Int32} {σ : AH} {r : Option Value} {σ' : AH} (hs : Sh σ) (h : W_X12_doWork_57 X l D x1 x3 x4 y0 y1 σ r σ') : E X l m_X12_doWork D 57 [(0, .ref 124), (1, .int x1), (3, .int x3), (4, .int x4)] [.int y0, .int y1] σ r σ' := by
  unfold W_X12_doWork_57 at h
  refine E_iadd dX12_doWork_57 ?_
  refine E_istore [(5, .int (y1 + y0)), (0, .ref 124), (1, .int x1), (3, .int x3), (4, .int x4)] dX12_doWork_58 (by decide) rfl ?_
  refine E_iload_n 3 dX12_doWork_60 rfl rfl ?_
  refine E_iload 4 dX12_doWork_61 rfl ?_
  refine E_icmp_ne 70 dX12_doWork_63 (by decide) (fun c => ?_) (fun c => ?_)
  · rw [if_neg c] at h
    refine E_aload_n 1 dX12_doWork_70 rfl rfl ?_
    refine E_getR 125 dX12_doWork_71 fl_X12_8 rfl (sk_124 hs) (sn hs (by decide)) (sr_124_2 hs) ?_
    refine E_iload_n 2 dX12_doWork_74 rfl rfl ?_
    refine E_iconst (3 : Int32) dX12_doWork_75 (by decide) ?_
    refine E_iadd dX12_doWork_76 ?_
    obtain ⟨g6, h⟩ := h
    refine E_iald2 ((x1 + (3 : Int32)).toNatClampNeg) dX12_doWork_77 (sk_125 hs) (sn hs (by decide)) g6 rfl ?_
    exact E_lv [1, 2, 3, 4, 0] rfl (w_X12_doWork_78 hs h)
  · rw [if_pos c] at h
    refine E_iconst (0 : Int32) dX12_doWork_66 (by decide) ?_
    refine E_goto 78 dX12_doWork_67 (by decide) ?_
    exact E_lv [1, 2, 3, 4, 0] rfl (w_X12_doWork_78 hs h)
def W_X12_doWork_0 (X : Sx) (l : Launch) (D : Nat) (x1 : Int32) (x2 : Int32) (σ : AH) (r : Option Value) (σ' : AH) : Prop := vp_in (x1 + (7 : Int32)) 269832 ∧ (if (gI σ 125 (x1 + (7 : Int32)).toNatClampNeg) ≤ x2 then vp_in x1 269832 ∧ vp_in (x1 + (2 : Int32)) 269832 ∧ vp_in (x1 + (1 : Int32)) 269832 ∧ (if (gI σ 125 x1.toNatClampNeg) = (gI σ 125 (x1 + (2 : Int32)).toNatClampNeg) then vp_in (x1 + (3 : Int32)) 269832 ∧ W_X12_doWork_57 X l D x1 (gI σ 125 x1.toNatClampNeg) (gI σ 125 (x1 + (2 : Int32)).toNatClampNeg) (gI σ 125 (x1 + (3 : Int32)).toNatClampNeg) (gI σ 125 (x1 + (1 : Int32)).toNatClampNeg) σ r σ' else W_X12_doWork_57 X l D x1 (gI σ 125 x1.toNatClampNeg) (gI σ 125 (x1 + (2 : Int32)).toNatClampNeg) (0 : Int32) (gI σ 125 (x1 + (1 : Int32)).toNatClampNeg) σ r σ') else (r = none ∧ σ' = σ))
set_option maxRecDepth 100000 in
theorem w_X12_doWork_0 {X : Sx} {l : Launch} {D : Nat} {x1 : Int32} {x2 : Int32} {σ : AH} {r : Option Value} {σ' : AH} (hs : Sh σ) (h : W_X12_doWork_0 X l D x1 x2 σ r σ') : E X l m_X12_doWork D 0 [(0, .ref 124), (1, .int x1), (2, .int x2)] [] σ r σ' := by
  unfold W_X12_doWork_0 at h
  refine E_aload_n 0 dX12_doWork_0 rfl rfl ?_
  refine E_getR 125 dX12_doWork_1 fl_X12_8 rfl (sk_124 hs) (sn hs (by decide)) (sr_124_2 hs) ?_
  refine E_iload_n 1 dX12_doWork_4 rfl rfl ?_
  refine E_bipush (7 : Int32) dX12_doWork_5 (by decide) ?_
  refine E_iadd dX12_doWork_7 ?_
  obtain ⟨g1, h⟩ := h
  refine E_iald2 ((x1 + (7 : Int32)).toNatClampNeg) dX12_doWork_8 (sk_125 hs) (sn hs (by decide)) g1 rfl ?_
  refine E_iload_n 2 dX12_doWork_9 rfl rfl ?_
  refine E_icmp_le 14 dX12_doWork_10 (by decide) (fun c => ?_) (fun c => ?_)
  · rw [if_pos c] at h
    refine E_aload_n 0 dX12_doWork_14 rfl rfl ?_
    refine E_getR 125 dX12_doWork_15 fl_X12_8 rfl (sk_124 hs) (sn hs (by decide)) (sr_124_2 hs) ?_
    refine E_iload_n 1 dX12_doWork_18 rfl rfl ?_
    obtain ⟨g2, h⟩ := h
    refine E_iald2 (x1.toNatClampNeg) dX12_doWork_19 (sk_125 hs) (sn hs (by decide)) g2 rfl ?_
    refine E_istore_n [(3, .int (gI σ 125 x1.toNatClampNeg)), (0, .ref 124), (1, .int x1), (2, .int x2)] dX12_doWork_20 rfl (by decide) rfl ?_
    refine E_aload_n 1 dX12_doWork_21 rfl rfl ?_
    refine E_getR 125 dX12_doWork_22 fl_X12_8 rfl (sk_124 hs) (sn hs (by decide)) (sr_124_2 hs) ?_
    refine E_iload_n 2 dX12_doWork_25 rfl rfl ?_
    refine E_iconst (2 : Int32) dX12_doWork_26 (by decide) ?_
    refine E_iadd dX12_doWork_27 ?_
    obtain ⟨g3, h⟩ := h
    refine E_iald2 ((x1 + (2 : Int32)).toNatClampNeg) dX12_doWork_28 (sk_125 hs) (sn hs (by decide)) g3 rfl ?_
    refine E_istore [(4, .int (gI σ 125 (x1 + (2 : Int32)).toNatClampNeg)), (3, .int (gI σ 125 x1.toNatClampNeg)), (0, .ref 124), (1, .int x1), (2, .int x2)] dX12_doWork_29 (by decide) rfl ?_
    refine E_aload_n 2 dX12_doWork_31 rfl rfl ?_
    refine E_getR 125 dX12_doWork_32 fl_X12_8 rfl (sk_124 hs) (sn hs (by decide)) (sr_124_2 hs) ?_
    refine E_iload_n 3 dX12_doWork_35 rfl rfl ?_
    refine E_iconst (1 : Int32) dX12_doWork_36 (by decide) ?_
    refine E_iadd dX12_doWork_37 ?_
    obtain ⟨g4, h⟩ := h
    refine E_iald2 ((x1 + (1 : Int32)).toNatClampNeg) dX12_doWork_38 (sk_125 hs) (sn hs (by decide)) g4 rfl ?_
    refine E_iload_n 1 dX12_doWork_39 rfl rfl ?_
    refine E_iload 0 dX12_doWork_40 rfl ?_
    refine E_icmp_ne 56 dX12_doWork_42 (by decide) (fun c => ?_) (fun c => ?_)
    · rw [if_neg c] at h
      refine E_iconst (0 : Int32) dX12_doWork_56 (by decide) ?_
      exact E_lv [2, 3, 1, 0] rfl (w_X12_doWork_57 hs h)
    · rw [if_pos c] at h
      refine E_aload_n 2 dX12_doWork_45 rfl rfl ?_
      refine E_getR 125 dX12_doWork_46 fl_X12_8 rfl (sk_124 hs) (sn hs (by decide)) (sr_124_2 hs) ?_
      refine E_iload_n 3 dX12_doWork_49 rfl rfl ?_
      refine E_iconst (3 : Int32) dX12_doWork_50 (by decide) ?_
      refine E_iadd dX12_doWork_51 ?_
      obtain ⟨g5, h⟩ := h
      refine E_iald2 ((x1 + (3 : Int32)).toNatClampNeg) dX12_doWork_52 (sk_125 hs) (sn hs (by decide)) g5 rfl ?_
      refine E_goto 57 dX12_doWork_53 (by decide) ?_
      exact E_lv [2, 3, 1, 0] rfl (w_X12_doWork_57 hs h)
  · rw [if_neg c] at h
    obtain ⟨rfl, rfl⟩ := h
    exact E_vret dX12_doWork_13 rfl
def W_X12_isAhead_30 (X : Sx) (l : Launch) (D : Nat) (x1 : Int32) (x2 : Int32) (x4 : Int32) (y0 : Int32) (σ : AH) (r : Option Value) (σ' : AH) : Prop := (if x4 = y0 then vp_in x1 30 ∧ vp_in x2 30 ∧ (if (gI σ 140 x1.toNatClampNeg) = (gI σ 140 x2.toNatClampNeg) then (if x2 ≤ x1 then (r = some (.int (0 : Int32)) ∧ σ' = σ) else (r = some (.int (1 : Int32)) ∧ σ' = σ)) else vp_in x1 30 ∧ vp_in x2 30 ∧ (if (gI σ 140 x2.toNatClampNeg) ≤ (gI σ 140 x1.toNatClampNeg) then (r = some (.int (0 : Int32)) ∧ σ' = σ) else (r = some (.int (1 : Int32)) ∧ σ' = σ))) else ((x4 = 0 ∨ x4 = 1) ∧ r = some (.int x4) ∧ σ' = σ))
set_option maxRecDepth 100000 in
theorem w_X12_isAhead_30 {X : Sx} {l : Launch} {D : Nat} {x1 : Int32} {x2 : Int32} {x4 : Int32} {y0 : Int32} {σ : AH} {r : Option Value} {σ' : AH} (hs : Sh σ) (h : W_X12_isAhead_30 X l D x1 x2 x4 y0 σ r σ') : E X l m_X12_isAhead D 30 [(0, .ref 124), (1, .int x1), (2, .int x2), (4, .int x4)] [.int y0] σ r σ' := by
  unfold W_X12_isAhead_30 at h
  refine E_istore [(5, .int y0), (0, .ref 124), (1, .int x1), (2, .int x2), (4, .int x4)] dX12_isAhead_30 (by decide) rfl ?_
  refine E_iload 4 dX12_isAhead_32 rfl ?_
  refine E_iload 0 dX12_isAhead_34 rfl ?_
  refine E_icmp_eq 42 dX12_isAhead_36 (by decide) (fun c => ?_) (fun c => ?_)
  · rw [if_pos c] at h
    refine E_aload_n 1 dX12_isAhead_42 rfl rfl ?_
    refine E_getR 140 dX12_isAhead_43 fl_X12_67 rfl (sk_124 hs) (sn hs (by decide)) (sr_124_35 hs) ?_
    refine E_iload_n 2 dX12_isAhead_46 rfl rfl ?_
    obtain ⟨g13, h⟩ := h
    refine E_iald2 (x1.toNatClampNeg) dX12_isAhead_47 (sk_140 hs) (sn hs (by decide)) g13 rfl ?_
    refine E_aload_n 1 dX12_isAhead_48 rfl rfl ?_
    refine E_getR 140 dX12_isAhead_49 fl_X12_67 rfl (sk_124 hs) (sn hs (by decide)) (sr_124_35 hs) ?_
    refine E_iload_n 3 dX12_isAhead_52 rfl rfl ?_
    obtain ⟨g14, h⟩ := h
    refine E_iald2 (x2.toNatClampNeg) dX12_isAhead_53 (sk_140 hs) (sn hs (by decide)) g14 rfl ?_
    refine E_icmp_eq 80 dX12_isAhead_54 (by decide) (fun c => ?_) (fun c => ?_)
    · rw [if_pos c] at h
      refine E_iload_n 2 dX12_isAhead_80 rfl rfl ?_
      refine E_iload_n 3 dX12_isAhead_81 rfl rfl ?_
      refine E_icmp_ge 89 dX12_isAhead_82 (by decide) (fun c => ?_) (fun c => ?_)
      · rw [if_pos c] at h
        refine E_iconst (0 : Int32) dX12_isAhead_89 (by decide) ?_
        obtain ⟨rfl, rfl⟩ := h
        exact E_zret dX12_isAhead_90 rfl (Or.inl rfl)
      · rw [if_neg c] at h
        refine E_iconst (1 : Int32) dX12_isAhead_85 (by decide) ?_
        refine E_goto 90 dX12_isAhead_86 (by decide) ?_
        obtain ⟨rfl, rfl⟩ := h
        exact E_zret dX12_isAhead_90 rfl (Or.inr rfl)
    · rw [if_neg c] at h
      refine E_aload_n 1 dX12_isAhead_57 rfl rfl ?_
      refine E_getR 140 dX12_isAhead_58 fl_X12_67 rfl (sk_124 hs) (sn hs (by decide)) (sr_124_35 hs) ?_
      refine E_iload_n 2 dX12_isAhead_61 rfl rfl ?_
      obtain ⟨g15, h⟩ := h
      refine E_iald2 (x1.toNatClampNeg) dX12_isAhead_62 (sk_140 hs) (sn hs (by decide)) g15 rfl ?_
      refine E_aload_n 1 dX12_isAhead_63 rfl rfl ?_
      refine E_getR 140 dX12_isAhead_64 fl_X12_67 rfl (sk_124 hs) (sn hs (by decide)) (sr_124_35 hs) ?_
      refine E_iload_n 3 dX12_isAhead_67 rfl rfl ?_
      obtain ⟨g16, h⟩ := h
      refine E_iald2 (x2.toNatClampNeg) dX12_isAhead_68 (sk_140 hs) (sn hs (by decide)) g16 rfl ?_
      refine E_icmp_ge 76 dX12_isAhead_69 (by decide) (fun c => ?_) (fun c => ?_)
      · rw [if_pos c] at h
        refine E_iconst (0 : Int32) dX12_isAhead_76 (by decide) ?_
        refine E_goto 90 dX12_isAhead_77 (by decide) ?_
        obtain ⟨rfl, rfl⟩ := h
        exact E_zret dX12_isAhead_90 rfl (Or.inl rfl)
      · rw [if_neg c] at h
        refine E_iconst (1 : Int32) dX12_isAhead_72 (by decide) ?_
        refine E_goto 90 dX12_isAhead_73 (by decide) ?_
        obtain ⟨rfl, rfl⟩ := h
        exact E_zret dX12_isAhead_90 rfl (Or.inr rfl)
  · rw [if_neg c] at h
    refine E_iload 4 dX12_isAhead_39 rfl ?_
    obtain ⟨hz, rfl, rfl⟩ := h
    exact E_zret dX12_isAhead_41 rfl hz
def W_X12_isAhead_14 (X : Sx) (l : Launch) (D : Nat) (x1 : Int32) (x2 : Int32) (x3 : Int32) (y0 : Int32) (σ : AH) (r : Option Value) (σ' : AH) : Prop := ∃ d7 : Nat, ∃ v12 : Int32, ∃ σ8 : AH, d7 + 1 ≤ D ∧ Call X l m_X12_kindOf d7 [.ref 124, .int x2] σ (some (.int v12)) σ8 ∧ (if v12 = x3 then W_X12_isAhead_30 X l D x1 x2 y0 (1 : Int32) σ8 r σ' else W_X12_isAhead_30 X l D x1 x2 y0 (0 : Int32) σ8 r σ')
set_option maxRecDepth 100000 in
theorem w_X12_isAhead_14 {X : Sx} {l : Launch} {D : Nat} {x1 : Int32} {x2 : Int32} {x3 : Int32} {y0 : Int32} {σ : AH} {r : Option Value} {σ' : AH} (hs : Sh σ) (h : W_X12_isAhead_14 X l D x1 x2 x3 y0 σ r σ') : E X l m_X12_isAhead D 14 [(0, .ref 124), (1, .int x1), (2, .int x2), (3, .int x3)] [.int y0] σ r σ' := by
  unfold W_X12_isAhead_14 at h
  refine E_istore [(4, .int y0), (0, .ref 124), (1, .int x1), (2, .int x2), (3, .int x3)] dX12_isAhead_14 (by decide) rfl ?_
  refine E_aload_n 1 dX12_isAhead_16 rfl rfl ?_
  refine E_iload_n 3 dX12_isAhead_17 rfl rfl ?_
  obtain ⟨d7, v12, σ8, hD9, hC10, h⟩ := h
  have hs11 := hC10.1.2.2.2.1 hs
  refine E_callV (As := [.int x2]) (rest := []) (r1 := (some (.int v12))) (b := 124) dX12_isAhead_18 ok_X12_kindOf in_X12_kindOf se_X12_kindOf ml_X12_477 hD9 rfl rfl (Nat.le_of_ble_eq_true rfl) (sk_124 hs) (sn hs (by decide)) (by decide) rfl (by decide +kernel) hC10 ?_
  refine E_iload_n 4 dX12_isAhead_21 rfl rfl ?_
  refine E_icmp_ne 29 dX12_isAhead_22 (by decide) (fun c => ?_) (fun c => ?_)
  · rw [if_neg c] at h
    refine E_iconst (0 : Int32) dX12_isAhead_29 (by decide) ?_
    exact E_lv [1, 2, 3, 0] rfl (w_X12_isAhead_30 hs11 h)
  · rw [if_pos c] at h
    refine E_iconst (1 : Int32) dX12_isAhead_25 (by decide) ?_
    refine E_goto 30 dX12_isAhead_26 (by decide) ?_
    exact E_lv [1, 2, 3, 0] rfl (w_X12_isAhead_30 hs11 h)
def W_X12_isAhead_0 (X : Sx) (l : Launch) (D : Nat) (x1 : Int32) (x2 : Int32) (x3 : Int32) (σ : AH) (r : Option Value) (σ' : AH) : Prop := ∃ d1 : Nat, ∃ v6 : Int32, ∃ σ2 : AH, d1 + 1 ≤ D ∧ Call X l m_X12_kindOf d1 [.ref 124, .int x1] σ (some (.int v6)) σ2 ∧ (if v6 = x3 then W_X12_isAhead_14 X l D x1 x2 x3 (1 : Int32) σ2 r σ' else W_X12_isAhead_14 X l D x1 x2 x3 (0 : Int32) σ2 r σ')
set_option maxRecDepth 100000 in
theorem w_X12_isAhead_0 {X : Sx} {l : Launch} {D : Nat} {x1 : Int32} {x2 : Int32} {x3 : Int32} {σ : AH} {r : Option Value} {σ' : AH} (hs : Sh σ) (h : W_X12_isAhead_0 X l D x1 x2 x3 σ r σ') : E X l m_X12_isAhead D 0 [(0, .ref 124), (1, .int x1), (2, .int x2), (3, .int x3)] [] σ r σ' := by
  unfold W_X12_isAhead_0 at h
  refine E_aload_n 0 dX12_isAhead_0 rfl rfl ?_
  refine E_iload_n 1 dX12_isAhead_1 rfl rfl ?_
  obtain ⟨d1, v6, σ2, hD3, hC4, h⟩ := h
  have hs5 := hC4.1.2.2.2.1 hs
  refine E_callV (As := [.int x1]) (rest := []) (r1 := (some (.int v6))) (b := 124) dX12_isAhead_2 ok_X12_kindOf in_X12_kindOf se_X12_kindOf ml_X12_477 hD3 rfl rfl (Nat.le_of_ble_eq_true rfl) (sk_124 hs) (sn hs (by decide)) (by decide) rfl (by decide +kernel) hC4 ?_
  refine E_iload_n 3 dX12_isAhead_5 rfl rfl ?_
  refine E_icmp_ne 13 dX12_isAhead_6 (by decide) (fun c => ?_) (fun c => ?_)
  · rw [if_neg c] at h
    refine E_iconst (0 : Int32) dX12_isAhead_13 (by decide) ?_
    exact E_lv [0, 1, 2, 3] rfl (w_X12_isAhead_14 hs5 h)
  · rw [if_pos c] at h
    refine E_iconst (1 : Int32) dX12_isAhead_9 (by decide) ?_
    refine E_goto 14 dX12_isAhead_10 (by decide) ?_
    exact E_lv [0, 1, 2, 3] rfl (w_X12_isAhead_14 hs5 h)
