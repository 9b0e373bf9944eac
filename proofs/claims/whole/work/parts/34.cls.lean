theorem dX9_copyFrom_0 : decode cX9_copyFrom 0 = .ok (.iconst 0, 1) := by decide +kernel
theorem dX9_copyFrom_1 : decode cX9_copyFrom 1 = .ok (.istore_n 2, 1) := by decide +kernel
theorem dX9_copyFrom_2 : decode cX9_copyFrom 2 = .ok (.iload_n 2, 1) := by decide +kernel
theorem dX9_copyFrom_3 : decode cX9_copyFrom 3 = .ok (.bipush 24, 2) := by decide +kernel
theorem dX9_copyFrom_5 : decode cX9_copyFrom 5 = .ok (.if_icmp .ge 21, 3) := by decide +kernel
theorem dX9_copyFrom_8 : decode cX9_copyFrom 8 = .ok (.aload_n 0, 1) := by decide +kernel
theorem dX9_copyFrom_9 : decode cX9_copyFrom 9 = .ok (.getfield 13, 3) := by decide +kernel
theorem dX9_copyFrom_12 : decode cX9_copyFrom 12 = .ok (.iload_n 2, 1) := by decide +kernel
theorem dX9_copyFrom_13 : decode cX9_copyFrom 13 = .ok (.aload_n 1, 1) := by decide +kernel
theorem dX9_copyFrom_14 : decode cX9_copyFrom 14 = .ok (.getfield 13, 3) := by decide +kernel
theorem dX9_copyFrom_17 : decode cX9_copyFrom 17 = .ok (.iload_n 2, 1) := by decide +kernel
theorem dX9_copyFrom_18 : decode cX9_copyFrom 18 = .ok (.aaload, 1) := by decide +kernel
theorem dX9_copyFrom_19 : decode cX9_copyFrom 19 = .ok (.aastore, 1) := by decide +kernel
theorem dX9_copyFrom_20 : decode cX9_copyFrom 20 = .ok (.iinc 2 1, 3) := by decide +kernel
theorem dX9_copyFrom_23 : decode cX9_copyFrom 23 = .ok (.goto (-21), 3) := by decide +kernel
theorem dX9_copyFrom_26 : decode cX9_copyFrom 26 = .ok (.aload_n 0, 1) := by decide +kernel
theorem dX9_copyFrom_27 : decode cX9_copyFrom 27 = .ok (.aload_n 1, 1) := by decide +kernel
theorem dX9_copyFrom_28 : decode cX9_copyFrom 28 = .ok (.getfield 56, 3) := by decide +kernel
theorem dX9_copyFrom_31 : decode cX9_copyFrom 31 = .ok (.putfield 56, 3) := by decide +kernel
theorem dX9_copyFrom_34 : decode cX9_copyFrom 34 = .ok (.aload_n 0, 1) := by decide +kernel
theorem dX9_copyFrom_35 : decode cX9_copyFrom 35 = .ok (.getfield 22, 3) := by decide +kernel
theorem dX9_copyFrom_38 : decode cX9_copyFrom 38 = .ok (.aload_n 1, 1) := by decide +kernel
theorem dX9_copyFrom_39 : decode cX9_copyFrom 39 = .ok (.getfield 22, 3) := by decide +kernel
theorem dX9_copyFrom_42 : decode cX9_copyFrom 42 = .ok (.invokevirtual 60, 3) := by decide +kernel
theorem dX9_copyFrom_45 : decode cX9_copyFrom 45 = .ok (.aload_n 0, 1) := by decide +kernel
theorem dX9_copyFrom_46 : decode cX9_copyFrom 46 = .ok (.getfield 26, 3) := by decide +kernel
theorem dX9_copyFrom_49 : decode cX9_copyFrom 49 = .ok (.aload_n 1, 1) := by decide +kernel
theorem dX9_copyFrom_50 : decode cX9_copyFrom 50 = .ok (.getfield 26, 3) := by decide +kernel
theorem dX9_copyFrom_53 : decode cX9_copyFrom 53 = .ok (.invokevirtual 60, 3) := by decide +kernel
theorem dX9_copyFrom_56 : decode cX9_copyFrom 56 = .ok (.aload_n 0, 1) := by decide +kernel
theorem dX9_copyFrom_57 : decode cX9_copyFrom 57 = .ok (.getfield 29, 3) := by decide +kernel
theorem dX9_copyFrom_60 : decode cX9_copyFrom 60 = .ok (.aload_n 1, 1) := by decide +kernel
theorem dX9_copyFrom_61 : decode cX9_copyFrom 61 = .ok (.getfield 29, 3) := by decide +kernel
theorem dX9_copyFrom_64 : decode cX9_copyFrom 64 = .ok (.invokevirtual 60, 3) := by decide +kernel
theorem dX9_copyFrom_67 : decode cX9_copyFrom 67 = .ok (.aload_n 0, 1) := by decide +kernel
theorem dX9_copyFrom_68 : decode cX9_copyFrom 68 = .ok (.getfield 32, 3) := by decide +kernel
theorem dX9_copyFrom_71 : decode cX9_copyFrom 71 = .ok (.aload_n 1, 1) := by decide +kernel
theorem dX9_copyFrom_72 : decode cX9_copyFrom 72 = .ok (.getfield 32, 3) := by decide +kernel
theorem dX9_copyFrom_75 : decode cX9_copyFrom 75 = .ok (.invokevirtual 60, 3) := by decide +kernel
theorem dX9_copyFrom_78 : decode cX9_copyFrom 78 = .ok (.aload_n 0, 1) := by decide +kernel
theorem dX9_copyFrom_79 : decode cX9_copyFrom 79 = .ok (.getfield 35, 3) := by decide +kernel
theorem dX9_copyFrom_82 : decode cX9_copyFrom 82 = .ok (.aload_n 1, 1) := by decide +kernel
theorem dX9_copyFrom_83 : decode cX9_copyFrom 83 = .ok (.getfield 35, 3) := by decide +kernel
theorem dX9_copyFrom_86 : decode cX9_copyFrom 86 = .ok (.invokevirtual 60, 3) := by decide +kernel
theorem dX9_copyFrom_89 : decode cX9_copyFrom 89 = .ok (.aload_n 0, 1) := by decide +kernel
theorem dX9_copyFrom_90 : decode cX9_copyFrom 90 = .ok (.getfield 38, 3) := by decide +kernel
theorem dX9_copyFrom_93 : decode cX9_copyFrom 93 = .ok (.aload_n 1, 1) := by decide +kernel
theorem dX9_copyFrom_94 : decode cX9_copyFrom 94 = .ok (.getfield 38, 3) := by decide +kernel
theorem dX9_copyFrom_97 : decode cX9_copyFrom 97 = .ok (.invokevirtual 60, 3) := by decide +kernel
theorem dX9_copyFrom_100 : decode cX9_copyFrom 100 = .ok (.aload_n 0, 1) := by decide +kernel
theorem dX9_copyFrom_101 : decode cX9_copyFrom 101 = .ok (.getfield 41, 3) := by decide +kernel
theorem dX9_copyFrom_104 : decode cX9_copyFrom 104 = .ok (.aload_n 1, 1) := by decide +kernel
theorem dX9_copyFrom_105 : decode cX9_copyFrom 105 = .ok (.getfield 41, 3) := by decide +kernel
theorem dX9_copyFrom_108 : decode cX9_copyFrom 108 = .ok (.invokevirtual 60, 3) := by decide +kernel
theorem dX9_copyFrom_111 : decode cX9_copyFrom 111 = .ok (.aload_n 0, 1) := by decide +kernel
theorem dX9_copyFrom_112 : decode cX9_copyFrom 112 = .ok (.getfield 44, 3) := by decide +kernel
theorem dX9_copyFrom_115 : decode cX9_copyFrom 115 = .ok (.aload_n 1, 1) := by decide +kernel
theorem dX9_copyFrom_116 : decode cX9_copyFrom 116 = .ok (.getfield 44, 3) := by decide +kernel
theorem dX9_copyFrom_119 : decode cX9_copyFrom 119 = .ok (.invokevirtual 60, 3) := by decide +kernel
theorem dX9_copyFrom_122 : decode cX9_copyFrom 122 = .ok (.aload_n 1, 1) := by decide +kernel
theorem dX9_copyFrom_123 : decode cX9_copyFrom 123 = .ok (.getfield 47, 3) := by decide +kernel
theorem dX9_copyFrom_126 : decode cX9_copyFrom 126 = .ok (.iconst 0, 1) := by decide +kernel
theorem dX9_copyFrom_127 : decode cX9_copyFrom 127 = .ok (.aload_n 0, 1) := by decide +kernel
theorem dX9_copyFrom_128 : decode cX9_copyFrom 128 = .ok (.getfield 47, 3) := by decide +kernel
theorem dX9_copyFrom_131 : decode cX9_copyFrom 131 = .ok (.iconst 0, 1) := by decide +kernel
theorem dX9_copyFrom_132 : decode cX9_copyFrom 132 = .ok (.aload_n 0, 1) := by decide +kernel
theorem dX9_copyFrom_133 : decode cX9_copyFrom 133 = .ok (.getfield 47, 3) := by decide +kernel
theorem dX9_copyFrom_136 : decode cX9_copyFrom 136 = .ok (.arraylength, 1) := by decide +kernel
theorem dX9_copyFrom_137 : decode cX9_copyFrom 137 = .ok (.invokestatic 64, 3) := by decide +kernel
theorem dX9_copyFrom_140 : decode cX9_copyFrom 140 = .ok (.aload_n 1, 1) := by decide +kernel
theorem dX9_copyFrom_141 : decode cX9_copyFrom 141 = .ok (.getfield 51, 3) := by decide +kernel
theorem dX9_copyFrom_144 : decode cX9_copyFrom 144 = .ok (.iconst 0, 1) := by decide +kernel
theorem dX9_copyFrom_145 : decode cX9_copyFrom 145 = .ok (.aload_n 0, 1) := by decide +kernel
theorem dX9_copyFrom_146 : decode cX9_copyFrom 146 = .ok (.getfield 51, 3) := by decide +kernel
theorem dX9_copyFrom_149 : decode cX9_copyFrom 149 = .ok (.iconst 0, 1) := by decide +kernel
theorem dX9_copyFrom_150 : decode cX9_copyFrom 150 = .ok (.aload_n 0, 1) := by decide +kernel
theorem dX9_copyFrom_151 : decode cX9_copyFrom 151 = .ok (.getfield 51, 3) := by decide +kernel
theorem dX9_copyFrom_154 : decode cX9_copyFrom 154 = .ok (.arraylength, 1) := by decide +kernel
theorem dX9_copyFrom_155 : decode cX9_copyFrom 155 = .ok (.invokestatic 64, 3) := by decide +kernel
theorem dX9_copyFrom_158 : decode cX9_copyFrom 158 = .ok (.aload_n 0, 1) := by decide +kernel
theorem dX9_copyFrom_159 : decode cX9_copyFrom 159 = .ok (.aload_n 1, 1) := by decide +kernel
theorem dX9_copyFrom_160 : decode cX9_copyFrom 160 = .ok (.getfield 70, 3) := by decide +kernel
theorem dX9_copyFrom_163 : decode cX9_copyFrom 163 = .ok (.putfield 70, 3) := by decide +kernel
theorem dX9_copyFrom_166 : decode cX9_copyFrom 166 = .ok (.aload_n 0, 1) := by decide +kernel
theorem dX9_copyFrom_167 : decode cX9_copyFrom 167 = .ok (.aload_n 1, 1) := by decide +kernel
theorem dX9_copyFrom_168 : decode cX9_copyFrom 168 = .ok (.getfield 73, 3) := by decide +kernel
theorem dX9_copyFrom_171 : decode cX9_copyFrom 171 = .ok (.putfield 73, 3) := by decide +kernel
theorem dX9_copyFrom_174 : decode cX9_copyFrom 174 = .ok (.aload_n 0, 1) := by decide +kernel
theorem dX9_copyFrom_175 : decode cX9_copyFrom 175 = .ok (.aload_n 1, 1) := by decide +kernel
theorem dX9_copyFrom_176 : decode cX9_copyFrom 176 = .ok (.getfield 76, 3) := by decide +kernel
theorem dX9_copyFrom_179 : decode cX9_copyFrom 179 = .ok (.putfield 76, 3) := by decide +kernel
theorem dX9_copyFrom_182 : decode cX9_copyFrom 182 = .ok (.aload_n 0, 1) := by decide +kernel
theorem dX9_copyFrom_183 : decode cX9_copyFrom 183 = .ok (.aload_n 1, 1) := by decide +kernel
theorem dX9_copyFrom_184 : decode cX9_copyFrom 184 = .ok (.getfield 79, 3) := by decide +kernel
theorem dX9_copyFrom_187 : decode cX9_copyFrom 187 = .ok (.putfield 79, 3) := by decide +kernel
theorem dX9_copyFrom_190 : decode cX9_copyFrom 190 = .ok (.return_, 1) := by decide +kernel
theorem dX10_init_0 : decode cX10_init 0 = .ok (.aload_n 0, 1) := by decide +kernel
theorem dX10_init_1 : decode cX10_init 1 = .ok (.invokespecial 3, 3) := by decide +kernel
theorem dX10_init_4 : decode cX10_init 4 = .ok (.aload_n 0, 1) := by decide +kernel
theorem dX10_init_5 : decode cX10_init 5 = .ok (.iconst (-1), 1) := by decide +kernel
theorem dX10_init_6 : decode cX10_init 6 = .ok (.putfield 9, 3) := by decide +kernel
theorem dX10_init_9 : decode cX10_init 9 = .ok (.aload_n 0, 1) := by decide +kernel
theorem dX10_init_10 : decode cX10_init 10 = .ok (.iconst (-1), 1) := by decide +kernel
theorem dX10_init_11 : decode cX10_init 11 = .ok (.putfield 15, 3) := by decide +kernel
theorem dX10_init_14 : decode cX10_init 14 = .ok (.aload_n 0, 1) := by decide +kernel
theorem dX10_init_15 : decode cX10_init 15 = .ok (.iconst (-1), 1) := by decide +kernel
theorem dX10_init_16 : decode cX10_init 16 = .ok (.putfield 18, 3) := by decide +kernel
theorem dX10_init_19 : decode cX10_init 19 = .ok (.aload_n 0, 1) := by decide +kernel
theorem dX10_init_20 : decode cX10_init 20 = .ok (.sipush 1300, 3) := by decide +kernel
theorem dX10_init_23 : decode cX10_init 23 = .ok (.newarray .int, 2) := by decide +kernel
theorem dX10_init_25 : decode cX10_init 25 = .ok (.putfield 21, 3) := by decide +kernel
theorem dX10_init_28 : decode cX10_init 28 = .ok (.aload_n 0, 1) := by decide +kernel
theorem dX10_init_29 : decode cX10_init 29 = .ok (.sipush 1560, 3) := by decide +kernel
theorem dX10_init_32 : decode cX10_init 32 = .ok (.newarray .int, 2) := by decide +kernel
theorem dX10_init_34 : decode cX10_init 34 = .ok (.putfield 25, 3) := by decide +kernel
theorem dX10_init_37 : decode cX10_init 37 = .ok (.aload_n 0, 1) := by decide +kernel
theorem dX10_init_38 : decode cX10_init 38 = .ok (.bipush 6, 2) := by decide +kernel
theorem dX10_init_40 : decode cX10_init 40 = .ok (.newarray .int, 2) := by decide +kernel
theorem dX10_init_42 : decode cX10_init 42 = .ok (.putfield 28, 3) := by decide +kernel
theorem dX10_init_45 : decode cX10_init 45 = .ok (.aload_n 0, 1) := by decide +kernel
theorem dX10_init_46 : decode cX10_init 46 = .ok (.bipush 30, 2) := by decide +kernel
theorem dX10_init_48 : decode cX10_init 48 = .ok (.newarray .int, 2) := by decide +kernel
theorem dX10_init_50 : decode cX10_init 50 = .ok (.putfield 31, 3) := by decide +kernel
theorem dX10_init_53 : decode cX10_init 53 = .ok (.aload_n 0, 1) := by decide +kernel
theorem dX10_init_54 : decode cX10_init 54 = .ok (.sipush 260, 3) := by decide +kernel
theorem dX10_init_57 : decode cX10_init 57 = .ok (.newarray .int, 2) := by decide +kernel
theorem dX10_init_59 : decode cX10_init 59 = .ok (.putfield 34, 3) := by decide +kernel
theorem dX10_init_62 : decode cX10_init 62 = .ok (.aload_n 0, 1) := by decide +kernel
theorem dX10_init_63 : decode cX10_init 63 = .ok (.bipush 60, 2) := by decide +kernel
theorem dX10_init_65 : decode cX10_init 65 = .ok (.newarray .int, 2) := by decide +kernel
theorem dX10_init_67 : decode cX10_init 67 = .ok (.putfield 37, 3) := by decide +kernel
theorem dX10_init_70 : decode cX10_init 70 = .ok (.aload_n 0, 1) := by decide +kernel
theorem dX10_init_71 : decode cX10_init 71 = .ok (.sipush 260, 3) := by decide +kernel
theorem dX10_init_74 : decode cX10_init 74 = .ok (.newarray .int, 2) := by decide +kernel
theorem dX10_init_76 : decode cX10_init 76 = .ok (.putfield 40, 3) := by decide +kernel
theorem dX10_init_79 : decode cX10_init 79 = .ok (.aload_n 0, 1) := by decide +kernel
theorem dX10_init_80 : decode cX10_init 80 = .ok (.sipush 4212, 3) := by decide +kernel
theorem dX10_init_83 : decode cX10_init 83 = .ok (.newarray .int, 2) := by decide +kernel
theorem dX10_init_85 : decode cX10_init 85 = .ok (.putfield 43, 3) := by decide +kernel
theorem dX10_init_88 : decode cX10_init 88 = .ok (.aload_n 0, 1) := by decide +kernel
theorem dX10_init_89 : decode cX10_init 89 = .ok (.sipush 702, 3) := by decide +kernel
theorem dX10_init_92 : decode cX10_init 92 = .ok (.newarray .int, 2) := by decide +kernel
theorem dX10_init_94 : decode cX10_init 94 = .ok (.putfield 46, 3) := by decide +kernel
theorem dX10_init_97 : decode cX10_init 97 = .ok (.aload_n 0, 1) := by decide +kernel
theorem dX10_init_98 : decode cX10_init 98 = .ok (.aload_n 1, 1) := by decide +kernel
theorem dX10_init_99 : decode cX10_init 99 = .ok (.putfield 49, 3) := by decide +kernel
theorem dX10_init_102 : decode cX10_init 102 = .ok (.aload_n 0, 1) := by decide +kernel
theorem dX10_init_103 : decode cX10_init 103 = .ok (.aload_n 2, 1) := by decide +kernel
theorem dX10_init_104 : decode cX10_init 104 = .ok (.putfield 53, 3) := by decide +kernel
theorem dX10_init_107 : decode cX10_init 107 = .ok (.return_, 1) := by decide +kernel
theorem dX10_prepare_0 : decode cX10_prepare 0 = .ok (.aload_n 0, 1) := by decide +kernel
theorem dX10_prepare_1 : decode cX10_prepare 1 = .ok (.getfield 9, 3) := by decide +kernel
theorem dX10_prepare_4 : decode cX10_prepare 4 = .ok (.iload_n 1, 1) := by decide +kernel
theorem dX10_prepare_5 : decode cX10_prepare 5 = .ok (.if_icmp .ne 20, 3) := by decide +kernel
theorem dX10_prepare_8 : decode cX10_prepare 8 = .ok (.aload_n 0, 1) := by decide +kernel
theorem dX10_prepare_9 : decode cX10_prepare 9 = .ok (.getfield 15, 3) := by decide +kernel
theorem dX10_prepare_12 : decode cX10_prepare 12 = .ok (.iload_n 2, 1) := by decide +kernel
theorem dX10_prepare_13 : decode cX10_prepare 13 = .ok (.if_icmp .ne 12, 3) := by decide +kernel
theorem dX10_prepare_16 : decode cX10_prepare 16 = .ok (.aload_n 0, 1) := by decide +kernel
theorem dX10_prepare_17 : decode cX10_prepare 17 = .ok (.getfield 18, 3) := by decide +kernel
theorem dX10_prepare_20 : decode cX10_prepare 20 = .ok (.iload_n 3, 1) := by decide +kernel
theorem dX10_prepare_21 : decode cX10_prepare 21 = .ok (.if_icmp .ne 4, 3) := by decide +kernel
theorem dX10_prepare_24 : decode cX10_prepare 24 = .ok (.return_, 1) := by decide +kernel
theorem dX10_prepare_25 : decode cX10_prepare 25 = .ok (.aload_n 0, 1) := by decide +kernel
theorem dX10_prepare_26 : decode cX10_prepare 26 = .ok (.iload_n 1, 1) := by decide +kernel
theorem dX10_prepare_27 : decode cX10_prepare 27 = .ok (.putfield 9, 3) := by decide +kernel
theorem dX10_prepare_30 : decode cX10_prepare 30 = .ok (.aload_n 0, 1) := by decide +kernel
theorem dX10_prepare_31 : decode cX10_prepare 31 = .ok (.iload_n 2, 1) := by decide +kernel
theorem dX10_prepare_32 : decode cX10_prepare 32 = .ok (.putfield 15, 3) := by decide +kernel
theorem dX10_prepare_35 : decode cX10_prepare 35 = .ok (.aload_n 0, 1) := by decide +kernel
theorem dX10_prepare_36 : decode cX10_prepare 36 = .ok (.iload_n 3, 1) := by decide +kernel
theorem dX10_prepare_37 : decode cX10_prepare 37 = .ok (.putfield 18, 3) := by decide +kernel
theorem dX10_prepare_40 : decode cX10_prepare 40 = .ok (.aload_n 0, 1) := by decide +kernel
theorem dX10_prepare_41 : decode cX10_prepare 41 = .ok (.getfield 37, 3) := by decide +kernel
theorem dX10_prepare_44 : decode cX10_prepare 44 = .ok (.bipush (-2), 2) := by decide +kernel
theorem dX10_prepare_46 : decode cX10_prepare 46 = .ok (.invokestatic 57, 3) := by decide +kernel
theorem dX10_prepare_49 : decode cX10_prepare 49 = .ok (.aload_n 0, 1) := by decide +kernel
theorem dX10_prepare_50 : decode cX10_prepare 50 = .ok (.getfield 40, 3) := by decide +kernel
theorem dX10_prepare_53 : decode cX10_prepare 53 = .ok (.bipush (-2), 2) := by decide +kernel
theorem dX10_prepare_55 : decode cX10_prepare 55 = .ok (.invokestatic 57, 3) := by decide +kernel
theorem dX10_prepare_58 : decode cX10_prepare 58 = .ok (.aload_n 0, 1) := by decide +kernel
theorem dX10_prepare_59 : decode cX10_prepare 59 = .ok (.getfield 46, 3) := by decide +kernel
theorem dX10_prepare_62 : decode cX10_prepare 62 = .ok (.iconst (-1), 1) := by decide +kernel
theorem dX10_prepare_63 : decode cX10_prepare 63 = .ok (.invokestatic 57, 3) := by decide +kernel
theorem dX10_prepare_66 : decode cX10_prepare 66 = .ok (.aload_n 0, 1) := by decide +kernel
theorem dX10_prepare_67 : decode cX10_prepare 67 = .ok (.invokevirtual 63, 3) := by decide +kernel
theorem dX10_prepare_70 : decode cX10_prepare 70 = .ok (.aload_n 0, 1) := by decide +kernel
theorem dX10_prepare_71 : decode cX10_prepare 71 = .ok (.invokevirtual 66, 3) := by decide +kernel
theorem dX10_prepare_74 : decode cX10_prepare 74 = .ok (.aload_n 0, 1) := by decide +kernel
theorem dX10_prepare_75 : decode cX10_prepare 75 = .ok (.invokevirtual 69, 3) := by decide +kernel
theorem dX10_prepare_78 : decode cX10_prepare 78 = .ok (.return_, 1) := by decide +kernel
theorem dX10_bringDeliveries_0 : decode cX10_bringDeliveries 0 = .ok (.aload_n 0, 1) := by decide +kernel
theorem dX10_bringDeliveries_1 : decode cX10_bringDeliveries 1 = .ok (.getfield 21, 3) := by decide +kernel
theorem dX10_bringDeliveries_4 : decode cX10_bringDeliveries 4 = .ok (.iconst 0, 1) := by decide +kernel
theorem dX10_bringDeliveries_5 : decode cX10_bringDeliveries 5 = .ok (.invokestatic 57, 3) := by decide +kernel
theorem dX10_bringDeliveries_8 : decode cX10_bringDeliveries 8 = .ok (.iconst 0, 1) := by decide +kernel
theorem dX10_bringDeliveries_9 : decode cX10_bringDeliveries 9 = .ok (.istore_n 1, 1) := by decide +kernel
theorem dX10_bringDeliveries_10 : decode cX10_bringDeliveries 10 = .ok (.iload_n 1, 1) := by decide +kernel
theorem dX10_bringDeliveries_11 : decode cX10_bringDeliveries 11 = .ok (.aload_n 0, 1) := by decide +kernel
theorem dX10_bringDeliveries_12 : decode cX10_bringDeliveries 12 = .ok (.getfield 49, 3) := by decide +kernel
theorem dX10_bringDeliveries_15 : decode cX10_bringDeliveries 15 = .ok (.getfield 72, 3) := by decide +kernel
theorem dX10_bringDeliveries_18 : decode cX10_bringDeliveries 18 = .ok (.invokevirtual 78, 3) := by decide +kernel
theorem dX10_bringDeliveries_21 : decode cX10_bringDeliveries 21 = .ok (.if_icmp .ge 99, 3) := by decide +kernel
theorem dX10_bringDeliveries_24 : decode cX10_bringDeliveries 24 = .ok (.aload_n 0, 1) := by decide +kernel
theorem dX10_bringDeliveries_25 : decode cX10_bringDeliveries 25 = .ok (.getfield 49, 3) := by decide +kernel
theorem dX10_bringDeliveries_28 : decode cX10_bringDeliveries 28 = .ok (.getfield 72, 3) := by decide +kernel
theorem dX10_bringDeliveries_31 : decode cX10_bringDeliveries 31 = .ok (.iload_n 1, 1) := by decide +kernel
theorem dX10_bringDeliveries_32 : decode cX10_bringDeliveries 32 = .ok (.iconst 0, 1) := by decide +kernel
theorem dX10_bringDeliveries_33 : decode cX10_bringDeliveries 33 = .ok (.invokevirtual 84, 3) := by decide +kernel
theorem dX10_bringDeliveries_36 : decode cX10_bringDeliveries 36 = .ok (.istore_n 2, 1) := by decide +kernel
theorem dX10_bringDeliveries_37 : decode cX10_bringDeliveries 37 = .ok (.aload_n 0, 1) := by decide +kernel
theorem dX10_bringDeliveries_38 : decode cX10_bringDeliveries 38 = .ok (.getfield 49, 3) := by decide +kernel
theorem dX10_bringDeliveries_41 : decode cX10_bringDeliveries 41 = .ok (.getfield 72, 3) := by decide +kernel
theorem dX10_bringDeliveries_44 : decode cX10_bringDeliveries 44 = .ok (.iload_n 1, 1) := by decide +kernel
theorem dX10_bringDeliveries_45 : decode cX10_bringDeliveries 45 = .ok (.iconst 1, 1) := by decide +kernel
theorem dX10_bringDeliveries_46 : decode cX10_bringDeliveries 46 = .ok (.invokevirtual 84, 3) := by decide +kernel
theorem dX10_bringDeliveries_49 : decode cX10_bringDeliveries 49 = .ok (.iload_n 2, 1) := by decide +kernel
theorem dX10_bringDeliveries_50 : decode cX10_bringDeliveries 50 = .ok (.ifCond .ne 10, 3) := by decide +kernel
theorem dX10_bringDeliveries_53 : decode cX10_bringDeliveries 53 = .ok (.aload_n 0, 1) := by decide +kernel
theorem dX10_bringDeliveries_54 : decode cX10_bringDeliveries 54 = .ok (.getfield 15, 3) := by decide +kernel
theorem dX10_bringDeliveries_57 : decode cX10_bringDeliveries 57 = .ok (.goto 4, 3) := by decide +kernel
theorem dX10_bringDeliveries_60 : decode cX10_bringDeliveries 60 = .ok (.iconst 0, 1) := by decide +kernel
theorem dX10_bringDeliveries_61 : decode cX10_bringDeliveries 61 = .ok (.iadd, 1) := by decide +kernel
theorem dX10_bringDeliveries_62 : decode cX10_bringDeliveries 62 = .ok (.istore_n 3, 1) := by decide +kernel
theorem dX10_bringDeliveries_63 : decode cX10_bringDeliveries 63 = .ok (.aload_n 0, 1) := by decide +kernel
theorem dX10_bringDeliveries_64 : decode cX10_bringDeliveries 64 = .ok (.getfield 49, 3) := by decide +kernel
theorem dX10_bringDeliveries_67 : decode cX10_bringDeliveries 67 = .ok (.getfield 72, 3) := by decide +kernel
theorem dX10_bringDeliveries_70 : decode cX10_bringDeliveries 70 = .ok (.iload_n 1, 1) := by decide +kernel
theorem dX10_bringDeliveries_71 : decode cX10_bringDeliveries 71 = .ok (.iconst 3, 1) := by decide +kernel
theorem dX10_bringDeliveries_72 : decode cX10_bringDeliveries 72 = .ok (.invokevirtual 84, 3) := by decide +kernel
theorem dX10_bringDeliveries_75 : decode cX10_bringDeliveries 75 = .ok (.aload_n 0, 1) := by decide +kernel
theorem dX10_bringDeliveries_76 : decode cX10_bringDeliveries 76 = .ok (.getfield 9, 3) := by decide +kernel
theorem dX10_bringDeliveries_79 : decode cX10_bringDeliveries 79 = .ok (.if_icmp .gt 35, 3) := by decide +kernel
theorem dX10_bringDeliveries_82 : decode cX10_bringDeliveries 82 = .ok (.iload_n 3, 1) := by decide +kernel
theorem dX10_bringDeliveries_83 : decode cX10_bringDeliveries 83 = .ok (.sipush 260, 3) := by decide +kernel
theorem dX10_bringDeliveries_86 : decode cX10_bringDeliveries 86 = .ok (.if_icmp .ge 28, 3) := by decide +kernel
theorem dX10_bringDeliveries_89 : decode cX10_bringDeliveries 89 = .ok (.aload_n 0, 1) := by decide +kernel
theorem dX10_bringDeliveries_90 : decode cX10_bringDeliveries 90 = .ok (.getfield 21, 3) := by decide +kernel
theorem dX10_bringDeliveries_93 : decode cX10_bringDeliveries 93 = .ok (.iload_n 3, 1) := by decide +kernel
theorem dX10_bringDeliveries_94 : decode cX10_bringDeliveries 94 = .ok (.iconst 5, 1) := by decide +kernel
theorem dX10_bringDeliveries_95 : decode cX10_bringDeliveries 95 = .ok (.imul, 1) := by decide +kernel
theorem dX10_bringDeliveries_96 : decode cX10_bringDeliveries 96 = .ok (.iload_n 2, 1) := by decide +kernel
theorem dX10_bringDeliveries_97 : decode cX10_bringDeliveries 97 = .ok (.iadd, 1) := by decide +kernel
theorem dX10_bringDeliveries_98 : decode cX10_bringDeliveries 98 = .ok (.dup2, 1) := by decide +kernel
theorem dX10_bringDeliveries_99 : decode cX10_bringDeliveries 99 = .ok (.iaload, 1) := by decide +kernel
theorem dX10_bringDeliveries_100 : decode cX10_bringDeliveries 100 = .ok (.aload_n 0, 1) := by decide +kernel
theorem dX10_bringDeliveries_101 : decode cX10_bringDeliveries 101 = .ok (.getfield 49, 3) := by decide +kernel
theorem dX10_bringDeliveries_104 : decode cX10_bringDeliveries 104 = .ok (.getfield 72, 3) := by decide +kernel
theorem dX10_bringDeliveries_107 : decode cX10_bringDeliveries 107 = .ok (.iload_n 1, 1) := by decide +kernel
theorem dX10_bringDeliveries_108 : decode cX10_bringDeliveries 108 = .ok (.iconst 2, 1) := by decide +kernel
theorem dX10_bringDeliveries_109 : decode cX10_bringDeliveries 109 = .ok (.invokevirtual 84, 3) := by decide +kernel
theorem dX10_bringDeliveries_112 : decode cX10_bringDeliveries 112 = .ok (.iadd, 1) := by decide +kernel
theorem dX10_bringDeliveries_113 : decode cX10_bringDeliveries 113 = .ok (.iastore, 1) := by decide +kernel
theorem dX10_bringDeliveries_114 : decode cX10_bringDeliveries 114 = .ok (.iinc 1 1, 3) := by decide +kernel
theorem dX10_bringDeliveries_117 : decode cX10_bringDeliveries 117 = .ok (.goto (-107), 3) := by decide +kernel
theorem dX10_bringDeliveries_120 : decode cX10_bringDeliveries 120 = .ok (.return_, 1) := by decide +kernel
theorem dX10_bringGangs_0 : decode cX10_bringGangs 0 = .ok (.aload_n 0, 1) := by decide +kernel
theorem dX10_bringGangs_1 : decode cX10_bringGangs 1 = .ok (.getfield 25, 3) := by decide +kernel
theorem dX10_bringGangs_4 : decode cX10_bringGangs 4 = .ok (.iconst (-1), 1) := by decide +kernel
theorem dX10_bringGangs_5 : decode cX10_bringGangs 5 = .ok (.invokestatic 57, 3) := by decide +kernel
theorem dX10_bringGangs_8 : decode cX10_bringGangs 8 = .ok (.iconst 0, 1) := by decide +kernel
theorem dX10_bringGangs_9 : decode cX10_bringGangs 9 = .ok (.istore_n 1, 1) := by decide +kernel
theorem dX10_bringGangs_10 : decode cX10_bringGangs 10 = .ok (.iload_n 1, 1) := by decide +kernel
theorem dX10_bringGangs_11 : decode cX10_bringGangs 11 = .ok (.aload_n 0, 1) := by decide +kernel
theorem dX10_bringGangs_12 : decode cX10_bringGangs 12 = .ok (.getfield 49, 3) := by decide +kernel
theorem dX10_bringGangs_15 : decode cX10_bringGangs 15 = .ok (.getfield 88, 3) := by decide +kernel
theorem dX10_bringGangs_18 : decode cX10_bringGangs 18 = .ok (.invokevirtual 78, 3) := by decide +kernel
theorem dX10_bringGangs_21 : decode cX10_bringGangs 21 = .ok (.if_icmp .ge 75, 3) := by decide +kernel
theorem dX10_bringGangs_24 : decode cX10_bringGangs 24 = .ok (.aload_n 0, 1) := by decide +kernel
theorem dX10_bringGangs_25 : decode cX10_bringGangs 25 = .ok (.getfield 49, 3) := by decide +kernel
theorem dX10_bringGangs_28 : decode cX10_bringGangs 28 = .ok (.getfield 88, 3) := by decide +kernel
theorem dX10_bringGangs_31 : decode cX10_bringGangs 31 = .ok (.iload_n 1, 1) := by decide +kernel
theorem dX10_bringGangs_32 : decode cX10_bringGangs 32 = .ok (.iconst 3, 1) := by decide +kernel
theorem dX10_bringGangs_33 : decode cX10_bringGangs 33 = .ok (.invokevirtual 84, 3) := by decide +kernel
theorem dX10_bringGangs_36 : decode cX10_bringGangs 36 = .ok (.aload_n 0, 1) := by decide +kernel
theorem dX10_bringGangs_37 : decode cX10_bringGangs 37 = .ok (.getfield 9, 3) := by decide +kernel
theorem dX10_bringGangs_40 : decode cX10_bringGangs 40 = .ok (.if_icmp .gt 50, 3) := by decide +kernel
theorem dX10_bringGangs_43 : decode cX10_bringGangs 43 = .ok (.aload_n 0, 1) := by decide +kernel
theorem dX10_bringGangs_44 : decode cX10_bringGangs 44 = .ok (.getfield 49, 3) := by decide +kernel
theorem dX10_bringGangs_47 : decode cX10_bringGangs 47 = .ok (.getfield 88, 3) := by decide +kernel
theorem dX10_bringGangs_50 : decode cX10_bringGangs 50 = .ok (.iload_n 1, 1) := by decide +kernel
theorem dX10_bringGangs_51 : decode cX10_bringGangs 51 = .ok (.iconst 2, 1) := by decide +kernel
theorem dX10_bringGangs_52 : decode cX10_bringGangs 52 = .ok (.invokevirtual 84, 3) := by decide +kernel
theorem dX10_bringGangs_55 : decode cX10_bringGangs 55 = .ok (.bipush 6, 2) := by decide +kernel
theorem dX10_bringGangs_57 : decode cX10_bringGangs 57 = .ok (.imul, 1) := by decide +kernel
theorem dX10_bringGangs_58 : decode cX10_bringGangs 58 = .ok (.aload_n 0, 1) := by decide +kernel
theorem dX10_bringGangs_59 : decode cX10_bringGangs 59 = .ok (.getfield 49, 3) := by decide +kernel
theorem dX10_bringGangs_62 : decode cX10_bringGangs 62 = .ok (.getfield 88, 3) := by decide +kernel
theorem dX10_bringGangs_65 : decode cX10_bringGangs 65 = .ok (.iload_n 1, 1) := by decide +kernel
theorem dX10_bringGangs_66 : decode cX10_bringGangs 66 = .ok (.iconst 0, 1) := by decide +kernel
theorem dX10_bringGangs_67 : decode cX10_bringGangs 67 = .ok (.invokevirtual 84, 3) := by decide +kernel
theorem dX10_bringGangs_70 : decode cX10_bringGangs 70 = .ok (.iadd, 1) := by decide +kernel
theorem dX10_bringGangs_71 : decode cX10_bringGangs 71 = .ok (.istore_n 2, 1) := by decide +kernel
theorem dX10_bringGangs_72 : decode cX10_bringGangs 72 = .ok (.aload_n 0, 1) := by decide +kernel
theorem dX10_bringGangs_73 : decode cX10_bringGangs 73 = .ok (.getfield 25, 3) := by decide +kernel
theorem dX10_bringGangs_76 : decode cX10_bringGangs 76 = .ok (.iload_n 2, 1) := by decide +kernel
theorem dX10_bringGangs_77 : decode cX10_bringGangs 77 = .ok (.aload_n 0, 1) := by decide +kernel
theorem dX10_bringGangs_78 : decode cX10_bringGangs 78 = .ok (.getfield 49, 3) := by decide +kernel
theorem dX10_bringGangs_81 : decode cX10_bringGangs 81 = .ok (.getfield 88, 3) := by decide +kernel
theorem dX10_bringGangs_84 : decode cX10_bringGangs 84 = .ok (.iload_n 1, 1) := by decide +kernel
theorem dX10_bringGangs_85 : decode cX10_bringGangs 85 = .ok (.iconst 1, 1) := by decide +kernel
theorem dX10_bringGangs_86 : decode cX10_bringGangs 86 = .ok (.invokevirtual 84, 3) := by decide +kernel
theorem dX10_bringGangs_89 : decode cX10_bringGangs 89 = .ok (.iastore, 1) := by decide +kernel
theorem dX10_bringGangs_90 : decode cX10_bringGangs 90 = .ok (.iinc 1 1, 3) := by decide +kernel
theorem dX10_bringGangs_93 : decode cX10_bringGangs 93 = .ok (.goto (-83), 3) := by decide +kernel
theorem dX10_bringGangs_96 : decode cX10_bringGangs 96 = .ok (.iconst 0, 1) := by decide +kernel
theorem dX10_bringGangs_97 : decode cX10_bringGangs 97 = .ok (.istore_n 1, 1) := by decide +kernel
theorem dX10_bringGangs_98 : decode cX10_bringGangs 98 = .ok (.iload_n 1, 1) := by decide +kernel
theorem dX10_bringGangs_99 : decode cX10_bringGangs 99 = .ok (.aload_n 0, 1) := by decide +kernel
theorem dX10_bringGangs_100 : decode cX10_bringGangs 100 = .ok (.getfield 25, 3) := by decide +kernel
theorem dX10_bringGangs_103 : decode cX10_bringGangs 103 = .ok (.arraylength, 1) := by decide +kernel
theorem dX10_bringGangs_104 : decode cX10_bringGangs 104 = .ok (.if_icmp .ge 44, 3) := by decide +kernel
theorem dX10_bringGangs_107 : decode cX10_bringGangs 107 = .ok (.aload_n 0, 1) := by decide +kernel
theorem dX10_bringGangs_108 : decode cX10_bringGangs 108 = .ok (.getfield 25, 3) := by decide +kernel
theorem dX10_bringGangs_111 : decode cX10_bringGangs 111 = .ok (.iload_n 1, 1) := by decide +kernel
theorem dX10_bringGangs_112 : decode cX10_bringGangs 112 = .ok (.iaload, 1) := by decide +kernel
theorem dX10_bringGangs_113 : decode cX10_bringGangs 113 = .ok (.iconst (-1), 1) := by decide +kernel
theorem dX10_bringGangs_114 : decode cX10_bringGangs 114 = .ok (.if_icmp .ne 28, 3) := by decide +kernel
theorem dX10_bringGangs_117 : decode cX10_bringGangs 117 = .ok (.aload_n 0, 1) := by decide +kernel
theorem dX10_bringGangs_118 : decode cX10_bringGangs 118 = .ok (.getfield 25, 3) := by decide +kernel
theorem dX10_bringGangs_121 : decode cX10_bringGangs 121 = .ok (.iload_n 1, 1) := by decide +kernel
theorem dX10_bringGangs_122 : decode cX10_bringGangs 122 = .ok (.iload_n 1, 1) := by decide +kernel
theorem dX10_bringGangs_123 : decode cX10_bringGangs 123 = .ok (.bipush 6, 2) := by decide +kernel
theorem dX10_bringGangs_125 : decode cX10_bringGangs 125 = .ok (.if_icmp .ge 7, 3) := by decide +kernel
theorem dX10_bringGangs_128 : decode cX10_bringGangs 128 = .ok (.iconst 0, 1) := by decide +kernel
theorem dX10_bringGangs_129 : decode cX10_bringGangs 129 = .ok (.goto 12, 3) := by decide +kernel
theorem dX10_bringGangs_132 : decode cX10_bringGangs 132 = .ok (.aload_n 0, 1) := by decide +kernel
theorem dX10_bringGangs_133 : decode cX10_bringGangs 133 = .ok (.getfield 25, 3) := by decide +kernel
theorem dX10_bringGangs_136 : decode cX10_bringGangs 136 = .ok (.iload_n 1, 1) := by decide +kernel
theorem dX10_bringGangs_137 : decode cX10_bringGangs 137 = .ok (.bipush 6, 2) := by decide +kernel
theorem dX10_bringGangs_139 : decode cX10_bringGangs 139 = .ok (.isub, 1) := by decide +kernel
theorem dX10_bringGangs_140 : decode cX10_bringGangs 140 = .ok (.iaload, 1) := by decide +kernel
theorem dX10_bringGangs_141 : decode cX10_bringGangs 141 = .ok (.iastore, 1) := by decide +kernel
theorem dX10_bringGangs_142 : decode cX10_bringGangs 142 = .ok (.iinc 1 1, 3) := by decide +kernel
theorem dX10_bringGangs_145 : decode cX10_bringGangs 145 = .ok (.goto (-47), 3) := by decide +kernel
theorem dX10_bringGangs_148 : decode cX10_bringGangs 148 = .ok (.return_, 1) := by decide +kernel
theorem dX10_bringStarts_0 : decode cX10_bringStarts 0 = .ok (.aload_n 0, 1) := by decide +kernel
theorem dX10_bringStarts_1 : decode cX10_bringStarts 1 = .ok (.getfield 31, 3) := by decide +kernel
theorem dX10_bringStarts_4 : decode cX10_bringStarts 4 = .ok (.iconst (-1), 1) := by decide +kernel
theorem dX10_bringStarts_5 : decode cX10_bringStarts 5 = .ok (.invokestatic 57, 3) := by decide +kernel
theorem dX10_bringStarts_8 : decode cX10_bringStarts 8 = .ok (.aload_n 0, 1) := by decide +kernel
theorem dX10_bringStarts_9 : decode cX10_bringStarts 9 = .ok (.getfield 34, 3) := by decide +kernel
theorem dX10_bringStarts_12 : decode cX10_bringStarts 12 = .ok (.iconst 0, 1) := by decide +kernel
theorem dX10_bringStarts_13 : decode cX10_bringStarts 13 = .ok (.invokestatic 57, 3) := by decide +kernel
theorem dX10_bringStarts_16 : decode cX10_bringStarts 16 = .ok (.iconst 0, 1) := by decide +kernel
theorem dX10_bringStarts_17 : decode cX10_bringStarts 17 = .ok (.istore_n 1, 1) := by decide +kernel
theorem dX10_bringStarts_18 : decode cX10_bringStarts 18 = .ok (.iload_n 1, 1) := by decide +kernel
theorem dX10_bringStarts_19 : decode cX10_bringStarts 19 = .ok (.aload_n 0, 1) := by decide +kernel
theorem dX10_bringStarts_20 : decode cX10_bringStarts 20 = .ok (.getfield 49, 3) := by decide +kernel
theorem dX10_bringStarts_23 : decode cX10_bringStarts 23 = .ok (.getfield 90, 3) := by decide +kernel
theorem dX10_bringStarts_26 : decode cX10_bringStarts 26 = .ok (.invokevirtual 78, 3) := by decide +kernel
theorem dX10_bringStarts_29 : decode cX10_bringStarts 29 = .ok (.if_icmp .ge 68, 3) := by decide +kernel
theorem dX10_bringStarts_32 : decode cX10_bringStarts 32 = .ok (.aload_n 0, 1) := by decide +kernel
theorem dX10_bringStarts_33 : decode cX10_bringStarts 33 = .ok (.getfield 49, 3) := by decide +kernel
theorem dX10_bringStarts_36 : decode cX10_bringStarts 36 = .ok (.getfield 90, 3) := by decide +kernel
theorem dX10_bringStarts_39 : decode cX10_bringStarts 39 = .ok (.iload_n 1, 1) := by decide +kernel
theorem dX10_bringStarts_40 : decode cX10_bringStarts 40 = .ok (.iconst 0, 1) := by decide +kernel
theorem dX10_bringStarts_41 : decode cX10_bringStarts 41 = .ok (.invokevirtual 84, 3) := by decide +kernel
theorem dX10_bringStarts_44 : decode cX10_bringStarts 44 = .ok (.istore_n 2, 1) := by decide +kernel
theorem dX10_bringStarts_45 : decode cX10_bringStarts 45 = .ok (.aload_n 0, 1) := by decide +kernel
theorem dX10_bringStarts_46 : decode cX10_bringStarts 46 = .ok (.getfield 49, 3) := by decide +kernel
theorem dX10_bringStarts_49 : decode cX10_bringStarts 49 = .ok (.getfield 90, 3) := by decide +kernel
theorem dX10_bringStarts_52 : decode cX10_bringStarts 52 = .ok (.iload_n 1, 1) := by decide +kernel
theorem dX10_bringStarts_53 : decode cX10_bringStarts 53 = .ok (.iconst 2, 1) := by decide +kernel
theorem dX10_bringStarts_54 : decode cX10_bringStarts 54 = .ok (.invokevirtual 84, 3) := by decide +kernel
theorem dX10_bringStarts_57 : decode cX10_bringStarts 57 = .ok (.aload_n 0, 1) := by decide +kernel
theorem dX10_bringStarts_58 : decode cX10_bringStarts 58 = .ok (.getfield 9, 3) := by decide +kernel
theorem dX10_bringStarts_61 : decode cX10_bringStarts 61 = .ok (.if_icmp .gt 30, 3) := by decide +kernel
theorem dX10_bringStarts_64 : decode cX10_bringStarts 64 = .ok (.aload_n 0, 1) := by decide +kernel
theorem dX10_bringStarts_65 : decode cX10_bringStarts 65 = .ok (.getfield 31, 3) := by decide +kernel
theorem dX10_bringStarts_68 : decode cX10_bringStarts 68 = .ok (.iload_n 2, 1) := by decide +kernel
theorem dX10_bringStarts_69 : decode cX10_bringStarts 69 = .ok (.iaload, 1) := by decide +kernel
theorem dX10_bringStarts_70 : decode cX10_bringStarts 70 = .ok (.iconst (-1), 1) := by decide +kernel
theorem dX10_bringStarts_71 : decode cX10_bringStarts 71 = .ok (.if_icmp .ne 20, 3) := by decide +kernel
theorem dX10_bringStarts_74 : decode cX10_bringStarts 74 = .ok (.aload_n 0, 1) := by decide +kernel
theorem dX10_bringStarts_75 : decode cX10_bringStarts 75 = .ok (.iload_n 2, 1) := by decide +kernel
theorem dX10_bringStarts_76 : decode cX10_bringStarts 76 = .ok (.aload_n 0, 1) := by decide +kernel
theorem dX10_bringStarts_77 : decode cX10_bringStarts 77 = .ok (.getfield 49, 3) := by decide +kernel
theorem dX10_bringStarts_80 : decode cX10_bringStarts 80 = .ok (.getfield 90, 3) := by decide +kernel
theorem dX10_bringStarts_83 : decode cX10_bringStarts 83 = .ok (.iload_n 1, 1) := by decide +kernel
theorem dX10_bringStarts_84 : decode cX10_bringStarts 84 = .ok (.iconst 1, 1) := by decide +kernel
theorem dX10_bringStarts_85 : decode cX10_bringStarts 85 = .ok (.invokevirtual 84, 3) := by decide +kernel
theorem dX10_bringStarts_88 : decode cX10_bringStarts 88 = .ok (.invokevirtual 93, 3) := by decide +kernel
theorem dX10_bringStarts_91 : decode cX10_bringStarts 91 = .ok (.iinc 1 1, 3) := by decide +kernel
theorem dX10_bringStarts_94 : decode cX10_bringStarts 94 = .ok (.goto (-76), 3) := by decide +kernel
theorem dX10_bringStarts_97 : decode cX10_bringStarts 97 = .ok (.return_, 1) := by decide +kernel
theorem dX10_tellStart_0 : decode cX10_tellStart 0 = .ok (.aload_n 0, 1) := by decide +kernel
theorem dX10_tellStart_1 : decode cX10_tellStart 1 = .ok (.getfield 31, 3) := by decide +kernel
theorem dX10_tellStart_4 : decode cX10_tellStart 4 = .ok (.iload_n 1, 1) := by decide +kernel
theorem dX10_tellStart_5 : decode cX10_tellStart 5 = .ok (.iload_n 2, 1) := by decide +kernel
theorem dX10_tellStart_6 : decode cX10_tellStart 6 = .ok (.iastore, 1) := by decide +kernel
theorem dX10_tellStart_7 : decode cX10_tellStart 7 = .ok (.aload_n 0, 1) := by decide +kernel
theorem dX10_tellStart_8 : decode cX10_tellStart 8 = .ok (.getfield 34, 3) := by decide +kernel
theorem dX10_tellStart_11 : decode cX10_tellStart 11 = .ok (.iload_n 2, 1) := by decide +kernel
theorem dX10_tellStart_12 : decode cX10_tellStart 12 = .ok (.dup2, 1) := by decide +kernel
theorem dX10_tellStart_13 : decode cX10_tellStart 13 = .ok (.iaload, 1) := by decide +kernel
theorem dX10_tellStart_14 : decode cX10_tellStart 14 = .ok (.iconst 1, 1) := by decide +kernel
theorem dX10_tellStart_15 : decode cX10_tellStart 15 = .ok (.iadd, 1) := by decide +kernel
theorem dX10_tellStart_16 : decode cX10_tellStart 16 = .ok (.iastore, 1) := by decide +kernel
theorem dX10_tellStart_17 : decode cX10_tellStart 17 = .ok (.return_, 1) := by decide +kernel
theorem dX10_dropStart_0 : decode cX10_dropStart 0 = .ok (.aload_n 0, 1) := by decide +kernel
theorem dX10_dropStart_1 : decode cX10_dropStart 1 = .ok (.getfield 31, 3) := by decide +kernel
theorem dX10_dropStart_4 : decode cX10_dropStart 4 = .ok (.iload_n 1, 1) := by decide +kernel
theorem dX10_dropStart_5 : decode cX10_dropStart 5 = .ok (.iaload, 1) := by decide +kernel
theorem dX10_dropStart_6 : decode cX10_dropStart 6 = .ok (.iconst (-1), 1) := by decide +kernel
theorem dX10_dropStart_7 : decode cX10_dropStart 7 = .ok (.if_icmp .eq 25, 3) := by decide +kernel
theorem dX10_dropStart_10 : decode cX10_dropStart 10 = .ok (.aload_n 0, 1) := by decide +kernel
theorem dX10_dropStart_11 : decode cX10_dropStart 11 = .ok (.getfield 34, 3) := by decide +kernel
theorem dX10_dropStart_14 : decode cX10_dropStart 14 = .ok (.aload_n 0, 1) := by decide +kernel
theorem dX10_dropStart_15 : decode cX10_dropStart 15 = .ok (.getfield 31, 3) := by decide +kernel
theorem dX10_dropStart_18 : decode cX10_dropStart 18 = .ok (.iload_n 1, 1) := by decide +kernel
theorem dX10_dropStart_19 : decode cX10_dropStart 19 = .ok (.iaload, 1) := by decide +kernel
theorem dX10_dropStart_20 : decode cX10_dropStart 20 = .ok (.dup2, 1) := by decide +kernel
theorem dX10_dropStart_21 : decode cX10_dropStart 21 = .ok (.iaload, 1) := by decide +kernel
theorem dX10_dropStart_22 : decode cX10_dropStart 22 = .ok (.iconst 1, 1) := by decide +kernel
theorem dX10_dropStart_23 : decode cX10_dropStart 23 = .ok (.isub, 1) := by decide +kernel
theorem dX10_dropStart_24 : decode cX10_dropStart 24 = .ok (.iastore, 1) := by decide +kernel
theorem dX10_dropStart_25 : decode cX10_dropStart 25 = .ok (.aload_n 0, 1) := by decide +kernel
theorem dX10_dropStart_26 : decode cX10_dropStart 26 = .ok (.getfield 31, 3) := by decide +kernel
theorem dX10_dropStart_29 : decode cX10_dropStart 29 = .ok (.iload_n 1, 1) := by decide +kernel
theorem dX10_dropStart_30 : decode cX10_dropStart 30 = .ok (.iconst (-1), 1) := by decide +kernel
theorem dX10_dropStart_31 : decode cX10_dropStart 31 = .ok (.iastore, 1) := by decide +kernel
theorem dX10_dropStart_32 : decode cX10_dropStart 32 = .ok (.return_, 1) := by decide +kernel
theorem dX10_passWeek_0 : decode cX10_passWeek 0 = .ok (.iconst 0, 1) := by decide +kernel
theorem dX10_passWeek_1 : decode cX10_passWeek 1 = .ok (.istore_n 3, 1) := by decide +kernel
theorem dX10_passWeek_2 : decode cX10_passWeek 2 = .ok (.iload_n 3, 1) := by decide +kernel
theorem dX10_passWeek_3 : decode cX10_passWeek 3 = .ok (.iconst 5, 1) := by decide +kernel
theorem dX10_passWeek_4 : decode cX10_passWeek 4 = .ok (.if_icmp .ge 28, 3) := by decide +kernel
theorem dX10_passWeek_7 : decode cX10_passWeek 7 = .ok (.aload_n 1, 1) := by decide +kernel
theorem dX10_passWeek_8 : decode cX10_passWeek 8 = .ok (.getfield 97, 3) := by decide +kernel
theorem dX10_passWeek_11 : decode cX10_passWeek 11 = .ok (.iload_n 3, 1) := by decide +kernel
theorem dX10_passWeek_12 : decode cX10_passWeek 12 = .ok (.dup2, 1) := by decide +kernel
theorem dX10_passWeek_13 : decode cX10_passWeek 13 = .ok (.iaload, 1) := by decide +kernel
theorem dX10_passWeek_14 : decode cX10_passWeek 14 = .ok (.aload_n 0, 1) := by decide +kernel
theorem dX10_passWeek_15 : decode cX10_passWeek 15 = .ok (.getfield 21, 3) := by decide +kernel
theorem dX10_passWeek_18 : decode cX10_passWeek 18 = .ok (.iload_n 2, 1) := by decide +kernel
theorem dX10_passWeek_19 : decode cX10_passWeek 19 = .ok (.iconst 5, 1) := by decide +kernel
theorem dX10_passWeek_20 : decode cX10_passWeek 20 = .ok (.imul, 1) := by decide +kernel
theorem dX10_passWeek_21 : decode cX10_passWeek 21 = .ok (.iload_n 3, 1) := by decide +kernel
theorem dX10_passWeek_22 : decode cX10_passWeek 22 = .ok (.iadd, 1) := by decide +kernel
theorem dX10_passWeek_23 : decode cX10_passWeek 23 = .ok (.iaload, 1) := by decide +kernel
theorem dX10_passWeek_24 : decode cX10_passWeek 24 = .ok (.iadd, 1) := by decide +kernel
theorem dX10_passWeek_25 : decode cX10_passWeek 25 = .ok (.iastore, 1) := by decide +kernel
theorem dX10_passWeek_26 : decode cX10_passWeek 26 = .ok (.iinc 3 1, 3) := by decide +kernel
theorem dX10_passWeek_29 : decode cX10_passWeek 29 = .ok (.goto (-27), 3) := by decide +kernel
theorem dX10_passWeek_32 : decode cX10_passWeek 32 = .ok (.iconst 0, 1) := by decide +kernel
theorem dX10_passWeek_33 : decode cX10_passWeek 33 = .ok (.istore_n 3, 1) := by decide +kernel
theorem dX10_passWeek_34 : decode cX10_passWeek 34 = .ok (.iload_n 3, 1) := by decide +kernel
theorem dX10_passWeek_35 : decode cX10_passWeek 35 = .ok (.aload_n 0, 1) := by decide +kernel
theorem dX10_passWeek_36 : decode cX10_passWeek 36 = .ok (.getfield 49, 3) := by decide +kernel
theorem dX10_passWeek_39 : decode cX10_passWeek 39 = .ok (.getfield 102, 3) := by decide +kernel
theorem dX10_passWeek_42 : decode cX10_passWeek 42 = .ok (.invokevirtual 78, 3) := by decide +kernel
theorem dX10_passWeek_45 : decode cX10_passWeek 45 = .ok (.if_icmp .ge 35, 3) := by decide +kernel
theorem dX10_passWeek_48 : decode cX10_passWeek 48 = .ok (.aload_n 0, 1) := by decide +kernel
theorem dX10_passWeek_49 : decode cX10_passWeek 49 = .ok (.getfield 49, 3) := by decide +kernel
theorem dX10_passWeek_52 : decode cX10_passWeek 52 = .ok (.getfield 102, 3) := by decide +kernel
theorem dX10_passWeek_55 : decode cX10_passWeek 55 = .ok (.iload_n 3, 1) := by decide +kernel
theorem dX10_passWeek_56 : decode cX10_passWeek 56 = .ok (.bipush 7, 2) := by decide +kernel
theorem dX10_passWeek_58 : decode cX10_passWeek 58 = .ok (.invokevirtual 84, 3) := by decide +kernel
theorem dX10_passWeek_61 : decode cX10_passWeek 61 = .ok (.iload_n 2, 1) := by decide +kernel
theorem dX10_passWeek_62 : decode cX10_passWeek 62 = .ok (.if_icmp .gt 12, 3) := by decide +kernel
theorem dX10_passWeek_65 : decode cX10_passWeek 65 = .ok (.aload_n 0, 1) := by decide +kernel
theorem dX10_passWeek_66 : decode cX10_passWeek 66 = .ok (.aload_n 1, 1) := by decide +kernel
theorem dX10_passWeek_67 : decode cX10_passWeek 67 = .ok (.getfield 97, 3) := by decide +kernel
theorem dX10_passWeek_70 : decode cX10_passWeek 70 = .ok (.iload_n 3, 1) := by decide +kernel
theorem dX10_passWeek_71 : decode cX10_passWeek 71 = .ok (.invokevirtual 105, 3) := by decide +kernel
theorem dX10_passWeek_74 : decode cX10_passWeek 74 = .ok (.iinc 3 1, 3) := by decide +kernel
theorem dX10_passWeek_77 : decode cX10_passWeek 77 = .ok (.goto (-43), 3) := by decide +kernel
theorem dX10_passWeek_80 : decode cX10_passWeek 80 = .ok (.aload_n 0, 1) := by decide +kernel
theorem dX10_passWeek_81 : decode cX10_passWeek 81 = .ok (.aload_n 1, 1) := by decide +kernel
theorem dX10_passWeek_82 : decode cX10_passWeek 82 = .ok (.iload_n 2, 1) := by decide +kernel
theorem dX10_passWeek_83 : decode cX10_passWeek 83 = .ok (.invokevirtual 108, 3) := by decide +kernel
theorem dX10_passWeek_86 : decode cX10_passWeek 86 = .ok (.aload_n 1, 1) := by decide +kernel
theorem dX10_passWeek_87 : decode cX10_passWeek 87 = .ok (.getfield 112, 3) := by decide +kernel
theorem dX10_passWeek_90 : decode cX10_passWeek 90 = .ok (.ifCond .ne 4, 3) := by decide +kernel
theorem dX10_passWeek_93 : decode cX10_passWeek 93 = .ok (.return_, 1) := by decide +kernel
theorem dX10_passWeek_94 : decode cX10_passWeek 94 = .ok (.aload_n 0, 1) := by decide +kernel
theorem dX10_passWeek_95 : decode cX10_passWeek 95 = .ok (.getfield 25, 3) := by decide +kernel
theorem dX10_passWeek_98 : decode cX10_passWeek 98 = .ok (.iload_n 2, 1) := by decide +kernel
theorem dX10_passWeek_99 : decode cX10_passWeek 99 = .ok (.bipush 6, 2) := by decide +kernel
theorem dX10_passWeek_101 : decode cX10_passWeek 101 = .ok (.imul, 1) := by decide +kernel
theorem dX10_passWeek_102 : decode cX10_passWeek 102 = .ok (.aload_n 0, 1) := by decide +kernel
theorem dX10_passWeek_103 : decode cX10_passWeek 103 = .ok (.getfield 28, 3) := by decide +kernel
theorem dX10_passWeek_106 : decode cX10_passWeek 106 = .ok (.iconst 0, 1) := by decide +kernel
theorem dX10_passWeek_107 : decode cX10_passWeek 107 = .ok (.bipush 6, 2) := by decide +kernel
theorem dX10_passWeek_109 : decode cX10_passWeek 109 = .ok (.invokestatic 115, 3) := by decide +kernel
theorem dX10_passWeek_112 : decode cX10_passWeek 112 = .ok (.aload_n 0, 1) := by decide +kernel
theorem dX10_passWeek_113 : decode cX10_passWeek 113 = .ok (.iload_n 2, 1) := by decide +kernel
theorem dX10_passWeek_114 : decode cX10_passWeek 114 = .ok (.invokevirtual 121, 3) := by decide +kernel
theorem dX10_passWeek_117 : decode cX10_passWeek 117 = .ok (.istore_n 3, 1) := by decide +kernel
theorem dX10_passWeek_118 : decode cX10_passWeek 118 = .ok (.iconst 0, 1) := by decide +kernel
theorem dX10_passWeek_119 : decode cX10_passWeek 119 = .ok (.istore 4, 2) := by decide +kernel
theorem dX10_passWeek_121 : decode cX10_passWeek 121 = .ok (.iload 4, 2) := by decide +kernel
theorem dX10_passWeek_123 : decode cX10_passWeek 123 = .ok (.iconst 2, 1) := by decide +kernel
theorem dX10_passWeek_124 : decode cX10_passWeek 124 = .ok (.if_icmp .ge 88, 3) := by decide +kernel
theorem dX10_passWeek_127 : decode cX10_passWeek 127 = .ok (.iconst 0, 1) := by decide +kernel
theorem dX10_passWeek_128 : decode cX10_passWeek 128 = .ok (.istore 5, 2) := by decide +kernel
theorem dX10_passWeek_130 : decode cX10_passWeek 130 = .ok (.iload 5, 2) := by decide +kernel
theorem dX10_passWeek_132 : decode cX10_passWeek 132 = .ok (.aload_n 1, 1) := by decide +kernel
theorem dX10_passWeek_133 : decode cX10_passWeek 133 = .ok (.getfield 112, 3) := by decide +kernel
theorem dX10_passWeek_136 : decode cX10_passWeek 136 = .ok (.if_icmp .ge 70, 3) := by decide +kernel
theorem dX10_passWeek_139 : decode cX10_passWeek 139 = .ok (.aload_n 1, 1) := by decide +kernel
theorem dX10_passWeek_140 : decode cX10_passWeek 140 = .ok (.getfield 125, 3) := by decide +kernel
theorem dX10_passWeek_143 : decode cX10_passWeek 143 = .ok (.iload 5, 2) := by decide +kernel
theorem dX10_passWeek_145 : decode cX10_passWeek 145 = .ok (.iaload, 1) := by decide +kernel
theorem dX10_passWeek_146 : decode cX10_passWeek 146 = .ok (.istore 6, 2) := by decide +kernel
theorem dX10_passWeek_148 : decode cX10_passWeek 148 = .ok (.aload_n 0, 1) := by decide +kernel
theorem dX10_passWeek_149 : decode cX10_passWeek 149 = .ok (.getfield 49, 3) := by decide +kernel
theorem dX10_passWeek_152 : decode cX10_passWeek 152 = .ok (.getfield 128, 3) := by decide +kernel
theorem dX10_passWeek_155 : decode cX10_passWeek 155 = .ok (.iload 6, 2) := by decide +kernel
theorem dX10_passWeek_157 : decode cX10_passWeek 157 = .ok (.iconst 1, 1) := by decide +kernel
theorem dX10_passWeek_158 : decode cX10_passWeek 158 = .ok (.invokevirtual 84, 3) := by decide +kernel
theorem dX10_passWeek_161 : decode cX10_passWeek 161 = .ok (.iload_n 3, 1) := by decide +kernel
theorem dX10_passWeek_162 : decode cX10_passWeek 162 = .ok (.if_icmp .ne 7, 3) := by decide +kernel
theorem dX10_passWeek_165 : decode cX10_passWeek 165 = .ok (.iconst 1, 1) := by decide +kernel
theorem dX10_passWeek_166 : decode cX10_passWeek 166 = .ok (.goto 4, 3) := by decide +kernel
theorem dX10_passWeek_169 : decode cX10_passWeek 169 = .ok (.iconst 0, 1) := by decide +kernel
theorem dX10_passWeek_170 : decode cX10_passWeek 170 = .ok (.iload 4, 2) := by decide +kernel
theorem dX10_passWeek_172 : decode cX10_passWeek 172 = .ok (.ifCond .ne 7, 3) := by decide +kernel
theorem dX10_passWeek_175 : decode cX10_passWeek 175 = .ok (.iconst 1, 1) := by decide +kernel
theorem dX10_passWeek_176 : decode cX10_passWeek 176 = .ok (.goto 4, 3) := by decide +kernel
theorem dX10_passWeek_179 : decode cX10_passWeek 179 = .ok (.iconst 0, 1) := by decide +kernel
theorem dX10_passWeek_180 : decode cX10_passWeek 180 = .ok (.if_icmp .ne 20, 3) := by decide +kernel
theorem dX10_passWeek_183 : decode cX10_passWeek 183 = .ok (.aload_n 1, 1) := by decide +kernel
theorem dX10_passWeek_184 : decode cX10_passWeek 184 = .ok (.iload 6, 2) := by decide +kernel
theorem dX10_passWeek_186 : decode cX10_passWeek 186 = .ok (.invokevirtual 131, 3) := by decide +kernel
theorem dX10_passWeek_189 : decode cX10_passWeek 189 = .ok (.ifCond .ne 11, 3) := by decide +kernel
theorem dX10_passWeek_192 : decode cX10_passWeek 192 = .ok (.aload_n 0, 1) := by decide +kernel
theorem dX10_passWeek_193 : decode cX10_passWeek 193 = .ok (.aload_n 1, 1) := by decide +kernel
theorem dX10_passWeek_194 : decode cX10_passWeek 194 = .ok (.iload 6, 2) := by decide +kernel
theorem dX10_passWeek_196 : decode cX10_passWeek 196 = .ok (.iload_n 2, 1) := by decide +kernel
theorem dX10_passWeek_197 : decode cX10_passWeek 197 = .ok (.invokevirtual 135, 3) := by decide +kernel
theorem dX10_passWeek_200 : decode cX10_passWeek 200 = .ok (.iinc 5 1, 3) := by decide +kernel
theorem dX10_passWeek_203 : decode cX10_passWeek 203 = .ok (.goto (-73), 3) := by decide +kernel
theorem dX10_passWeek_206 : decode cX10_passWeek 206 = .ok (.iinc 4 1, 3) := by decide +kernel
theorem dX10_passWeek_209 : decode cX10_passWeek 209 = .ok (.goto (-88), 3) := by decide +kernel
theorem dX10_passWeek_212 : decode cX10_passWeek 212 = .ok (.return_, 1) := by decide +kernel
theorem dX10_doBatches_0 : decode cX10_doBatches 0 = .ok (.aload_n 0, 1) := by decide +kernel
theorem dX10_doBatches_1 : decode cX10_doBatches 1 = .ok (.getfield 49, 3) := by decide +kernel
theorem dX10_doBatches_4 : decode cX10_doBatches 4 = .ok (.getfield 102, 3) := by decide +kernel
theorem dX10_doBatches_7 : decode cX10_doBatches 7 = .ok (.iload_n 2, 1) := by decide +kernel
theorem dX10_doBatches_8 : decode cX10_doBatches 8 = .ok (.iconst 0, 1) := by decide +kernel
theorem dX10_doBatches_9 : decode cX10_doBatches 9 = .ok (.invokevirtual 84, 3) := by decide +kernel
theorem dX10_doBatches_12 : decode cX10_doBatches 12 = .ok (.istore_n 3, 1) := by decide +kernel
theorem dX10_doBatches_13 : decode cX10_doBatches 13 = .ok (.aload_n 0, 1) := by decide +kernel
theorem dX10_doBatches_14 : decode cX10_doBatches 14 = .ok (.getfield 49, 3) := by decide +kernel
theorem dX10_doBatches_17 : decode cX10_doBatches 17 = .ok (.getfield 102, 3) := by decide +kernel
theorem dX10_doBatches_20 : decode cX10_doBatches 20 = .ok (.iload_n 2, 1) := by decide +kernel
theorem dX10_doBatches_21 : decode cX10_doBatches 21 = .ok (.iconst 2, 1) := by decide +kernel
theorem dX10_doBatches_22 : decode cX10_doBatches 22 = .ok (.invokevirtual 84, 3) := by decide +kernel
theorem dX10_doBatches_25 : decode cX10_doBatches 25 = .ok (.istore 4, 2) := by decide +kernel
theorem dX10_doBatches_27 : decode cX10_doBatches 27 = .ok (.aload_n 0, 1) := by decide +kernel
theorem dX10_doBatches_28 : decode cX10_doBatches 28 = .ok (.getfield 49, 3) := by decide +kernel
theorem dX10_doBatches_31 : decode cX10_doBatches 31 = .ok (.getfield 102, 3) := by decide +kernel
theorem dX10_doBatches_34 : decode cX10_doBatches 34 = .ok (.iload_n 2, 1) := by decide +kernel
theorem dX10_doBatches_35 : decode cX10_doBatches 35 = .ok (.iconst 1, 1) := by decide +kernel
theorem dX10_doBatches_36 : decode cX10_doBatches 36 = .ok (.invokevirtual 84, 3) := by decide +kernel
theorem dX10_doBatches_39 : decode cX10_doBatches 39 = .ok (.istore 5, 2) := by decide +kernel
theorem dX10_doBatches_41 : decode cX10_doBatches 41 = .ok (.aload_n 0, 1) := by decide +kernel
theorem dX10_doBatches_42 : decode cX10_doBatches 42 = .ok (.getfield 49, 3) := by decide +kernel
theorem dX10_doBatches_45 : decode cX10_doBatches 45 = .ok (.getfield 102, 3) := by decide +kernel
theorem dX10_doBatches_48 : decode cX10_doBatches 48 = .ok (.iload_n 2, 1) := by decide +kernel
theorem dX10_doBatches_49 : decode cX10_doBatches 49 = .ok (.iconst 3, 1) := by decide +kernel
theorem dX10_doBatches_50 : decode cX10_doBatches 50 = .ok (.invokevirtual 84, 3) := by decide +kernel
theorem dX10_doBatches_53 : decode cX10_doBatches 53 = .ok (.istore 6, 2) := by decide +kernel
theorem dX10_doBatches_55 : decode cX10_doBatches 55 = .ok (.aload_n 0, 1) := by decide +kernel
theorem dX10_doBatches_56 : decode cX10_doBatches 56 = .ok (.getfield 49, 3) := by decide +kernel
theorem dX10_doBatches_59 : decode cX10_doBatches 59 = .ok (.getfield 102, 3) := by decide +kernel
theorem dX10_doBatches_62 : decode cX10_doBatches 62 = .ok (.iload_n 2, 1) := by decide +kernel
theorem dX10_doBatches_63 : decode cX10_doBatches 63 = .ok (.bipush 6, 2) := by decide +kernel
theorem dX10_doBatches_65 : decode cX10_doBatches 65 = .ok (.invokevirtual 84, 3) := by decide +kernel
theorem dX10_doBatches_68 : decode cX10_doBatches 68 = .ok (.istore 7, 2) := by decide +kernel
theorem dX10_doBatches_70 : decode cX10_doBatches 70 = .ok (.iload_n 3, 1) := by decide +kernel
theorem dX10_doBatches_71 : decode cX10_doBatches 71 = .ok (.iload 4, 2) := by decide +kernel
theorem dX10_doBatches_73 : decode cX10_doBatches 73 = .ok (.if_icmp .ne 13, 3) := by decide +kernel
theorem dX10_doBatches_76 : decode cX10_doBatches 76 = .ok (.iload 5, 2) := by decide +kernel
theorem dX10_doBatches_78 : decode cX10_doBatches 78 = .ok (.iload 6, 2) := by decide +kernel
theorem dX10_doBatches_80 : decode cX10_doBatches 80 = .ok (.iadd, 1) := by decide +kernel
theorem dX10_doBatches_81 : decode cX10_doBatches 81 = .ok (.istore 5, 2) := by decide +kernel
theorem dX10_doBatches_83 : decode cX10_doBatches 83 = .ok (.iconst 0, 1) := by decide +kernel
theorem dX10_doBatches_84 : decode cX10_doBatches 84 = .ok (.istore 6, 2) := by decide +kernel
theorem dX10_doBatches_86 : decode cX10_doBatches 86 = .ok (.iload 5, 2) := by decide +kernel
theorem dX10_doBatches_88 : decode cX10_doBatches 88 = .ok (.ifCond .le 16, 3) := by decide +kernel
theorem dX10_doBatches_91 : decode cX10_doBatches 91 = .ok (.iload 7, 2) := by decide +kernel
theorem dX10_doBatches_93 : decode cX10_doBatches 93 = .ok (.aload_n 1, 1) := by decide +kernel
theorem dX10_doBatches_94 : decode cX10_doBatches 94 = .ok (.iload_n 3, 1) := by decide +kernel
theorem dX10_doBatches_95 : decode cX10_doBatches 95 = .ok (.iaload, 1) := by decide +kernel
theorem dX10_doBatches_96 : decode cX10_doBatches 96 = .ok (.iload 5, 2) := by decide +kernel
theorem dX10_doBatches_98 : decode cX10_doBatches 98 = .ok (.idiv, 1) := by decide +kernel
theorem dX10_doBatches_99 : decode cX10_doBatches 99 = .ok (.invokestatic 139, 3) := by decide +kernel
theorem dX10_doBatches_102 : decode cX10_doBatches 102 = .ok (.istore 7, 2) := by decide +kernel
theorem dX10_doBatches_104 : decode cX10_doBatches 104 = .ok (.iload 6, 2) := by decide +kernel
theorem dX10_doBatches_106 : decode cX10_doBatches 106 = .ok (.ifCond .le 17, 3) := by decide +kernel
theorem dX10_doBatches_109 : decode cX10_doBatches 109 = .ok (.iload 7, 2) := by decide +kernel
theorem dX10_doBatches_111 : decode cX10_doBatches 111 = .ok (.aload_n 1, 1) := by decide +kernel
theorem dX10_doBatches_112 : decode cX10_doBatches 112 = .ok (.iload 4, 2) := by decide +kernel
theorem dX10_doBatches_114 : decode cX10_doBatches 114 = .ok (.iaload, 1) := by decide +kernel
theorem dX10_doBatches_115 : decode cX10_doBatches 115 = .ok (.iload 6, 2) := by decide +kernel
theorem dX10_doBatches_117 : decode cX10_doBatches 117 = .ok (.idiv, 1) := by decide +kernel
theorem dX10_doBatches_118 : decode cX10_doBatches 118 = .ok (.invokestatic 139, 3) := by decide +kernel
theorem dX10_doBatches_121 : decode cX10_doBatches 121 = .ok (.istore 7, 2) := by decide +kernel
theorem dX10_doBatches_123 : decode cX10_doBatches 123 = .ok (.aload_n 1, 1) := by decide +kernel
theorem dX10_doBatches_124 : decode cX10_doBatches 124 = .ok (.iload_n 3, 1) := by decide +kernel
theorem dX10_doBatches_125 : decode cX10_doBatches 125 = .ok (.dup2, 1) := by decide +kernel
theorem dX10_doBatches_126 : decode cX10_doBatches 126 = .ok (.iaload, 1) := by decide +kernel
theorem dX10_doBatches_127 : decode cX10_doBatches 127 = .ok (.iload 7, 2) := by decide +kernel
theorem dX10_doBatches_129 : decode cX10_doBatches 129 = .ok (.iload 5, 2) := by decide +kernel
theorem dX10_doBatches_131 : decode cX10_doBatches 131 = .ok (.imul, 1) := by decide +kernel
theorem dX10_doBatches_132 : decode cX10_doBatches 132 = .ok (.isub, 1) := by decide +kernel
theorem dX10_doBatches_133 : decode cX10_doBatches 133 = .ok (.iastore, 1) := by decide +kernel
theorem dX10_doBatches_134 : decode cX10_doBatches 134 = .ok (.aload_n 1, 1) := by decide +kernel
theorem dX10_doBatches_135 : decode cX10_doBatches 135 = .ok (.iload 4, 2) := by decide +kernel
theorem dX10_doBatches_137 : decode cX10_doBatches 137 = .ok (.dup2, 1) := by decide +kernel
theorem dX10_doBatches_138 : decode cX10_doBatches 138 = .ok (.iaload, 1) := by decide +kernel
theorem dX10_doBatches_139 : decode cX10_doBatches 139 = .ok (.iload 7, 2) := by decide +kernel
theorem dX10_doBatches_141 : decode cX10_doBatches 141 = .ok (.iload 6, 2) := by decide +kernel
theorem dX10_doBatches_143 : decode cX10_doBatches 143 = .ok (.imul, 1) := by decide +kernel
theorem dX10_doBatches_144 : decode cX10_doBatches 144 = .ok (.isub, 1) := by decide +kernel
theorem dX10_doBatches_145 : decode cX10_doBatches 145 = .ok (.iastore, 1) := by decide +kernel
theorem dX10_doBatches_146 : decode cX10_doBatches 146 = .ok (.aload_n 1, 1) := by decide +kernel
theorem dX10_doBatches_147 : decode cX10_doBatches 147 = .ok (.aload_n 0, 1) := by decide +kernel
theorem dX10_doBatches_148 : decode cX10_doBatches 148 = .ok (.getfield 49, 3) := by decide +kernel
theorem dX10_doBatches_151 : decode cX10_doBatches 151 = .ok (.getfield 102, 3) := by decide +kernel
theorem dX10_doBatches_154 : decode cX10_doBatches 154 = .ok (.iload_n 2, 1) := by decide +kernel
theorem dX10_doBatches_155 : decode cX10_doBatches 155 = .ok (.iconst 4, 1) := by decide +kernel
theorem dX10_doBatches_156 : decode cX10_doBatches 156 = .ok (.invokevirtual 84, 3) := by decide +kernel
theorem dX10_doBatches_159 : decode cX10_doBatches 159 = .ok (.dup2, 1) := by decide +kernel
theorem dX10_doBatches_160 : decode cX10_doBatches 160 = .ok (.iaload, 1) := by decide +kernel
theorem dX10_doBatches_161 : decode cX10_doBatches 161 = .ok (.iload 7, 2) := by decide +kernel
theorem dX10_doBatches_163 : decode cX10_doBatches 163 = .ok (.aload_n 0, 1) := by decide +kernel
theorem dX10_doBatches_164 : decode cX10_doBatches 164 = .ok (.getfield 49, 3) := by decide +kernel
theorem dX10_doBatches_167 : decode cX10_doBatches 167 = .ok (.getfield 102, 3) := by decide +kernel
theorem dX10_doBatches_170 : decode cX10_doBatches 170 = .ok (.iload_n 2, 1) := by decide +kernel
theorem dX10_doBatches_171 : decode cX10_doBatches 171 = .ok (.iconst 5, 1) := by decide +kernel
theorem dX10_doBatches_172 : decode cX10_doBatches 172 = .ok (.invokevirtual 84, 3) := by decide +kernel
theorem dX10_doBatches_175 : decode cX10_doBatches 175 = .ok (.imul, 1) := by decide +kernel
theorem dX10_doBatches_176 : decode cX10_doBatches 176 = .ok (.iadd, 1) := by decide +kernel
theorem dX10_doBatches_177 : decode cX10_doBatches 177 = .ok (.iastore, 1) := by decide +kernel
theorem dX10_doBatches_178 : decode cX10_doBatches 178 = .ok (.return_, 1) := by decide +kernel
theorem dX10_lineUp_0 : decode cX10_lineUp 0 = .ok (.iload_n 2, 1) := by decide +kernel
theorem dX10_lineUp_1 : decode cX10_lineUp 1 = .ok (.bipush 13, 2) := by decide +kernel
theorem dX10_lineUp_3 : decode cX10_lineUp 3 = .ok (.irem, 1) := by decide +kernel
theorem dX10_lineUp_4 : decode cX10_lineUp 4 = .ok (.ifCond .ne 11, 3) := by decide +kernel
theorem dX10_lineUp_7 : decode cX10_lineUp 7 = .ok (.aload_n 1, 1) := by decide +kernel
theorem dX10_lineUp_8 : decode cX10_lineUp 8 = .ok (.getfield 144, 3) := by decide +kernel
theorem dX10_lineUp_11 : decode cX10_lineUp 11 = .ok (.iconst 0, 1) := by decide +kernel
theorem dX10_lineUp_12 : decode cX10_lineUp 12 = .ok (.invokestatic 57, 3) := by decide +kernel
theorem dX10_lineUp_15 : decode cX10_lineUp 15 = .ok (.iconst 0, 1) := by decide +kernel
theorem dX10_lineUp_16 : decode cX10_lineUp 16 = .ok (.istore_n 3, 1) := by decide +kernel
theorem dX10_lineUp_17 : decode cX10_lineUp 17 = .ok (.aload_n 0, 1) := by decide +kernel
theorem dX10_lineUp_18 : decode cX10_lineUp 18 = .ok (.getfield 34, 3) := by decide +kernel
theorem dX10_lineUp_21 : decode cX10_lineUp 21 = .ok (.iload_n 2, 1) := by decide +kernel
theorem dX10_lineUp_22 : decode cX10_lineUp 22 = .ok (.iaload, 1) := by decide +kernel
theorem dX10_lineUp_23 : decode cX10_lineUp 23 = .ok (.ifCond .le 143, 3) := by decide +kernel
theorem dX10_lineUp_26 : decode cX10_lineUp 26 = .ok (.iload_n 3, 1) := by decide +kernel
theorem dX10_lineUp_27 : decode cX10_lineUp 27 = .ok (.aload_n 0, 1) := by decide +kernel
theorem dX10_lineUp_28 : decode cX10_lineUp 28 = .ok (.getfield 49, 3) := by decide +kernel
theorem dX10_lineUp_31 : decode cX10_lineUp 31 = .ok (.getfield 128, 3) := by decide +kernel
theorem dX10_lineUp_34 : decode cX10_lineUp 34 = .ok (.invokevirtual 78, 3) := by decide +kernel
theorem dX10_lineUp_37 : decode cX10_lineUp 37 = .ok (.if_icmp .ge 129, 3) := by decide +kernel
theorem dX10_lineUp_40 : decode cX10_lineUp 40 = .ok (.aload_n 0, 1) := by decide +kernel
theorem dX10_lineUp_41 : decode cX10_lineUp 41 = .ok (.getfield 31, 3) := by decide +kernel
theorem dX10_lineUp_44 : decode cX10_lineUp 44 = .ok (.iload_n 3, 1) := by decide +kernel
theorem dX10_lineUp_45 : decode cX10_lineUp 45 = .ok (.iaload, 1) := by decide +kernel
theorem dX10_lineUp_46 : decode cX10_lineUp 46 = .ok (.iload_n 2, 1) := by decide +kernel
theorem dX10_lineUp_47 : decode cX10_lineUp 47 = .ok (.if_icmp .ne 113, 3) := by decide +kernel
theorem dX10_lineUp_50 : decode cX10_lineUp 50 = .ok (.aload_n 1, 1) := by decide +kernel
theorem dX10_lineUp_51 : decode cX10_lineUp 51 = .ok (.getfield 112, 3) := by decide +kernel
theorem dX10_lineUp_54 : decode cX10_lineUp 54 = .ok (.bipush 30, 2) := by decide +kernel
theorem dX10_lineUp_56 : decode cX10_lineUp 56 = .ok (.if_icmp .ge 104, 3) := by decide +kernel
theorem dX10_lineUp_59 : decode cX10_lineUp 59 = .ok (.aload_n 0, 1) := by decide +kernel
theorem dX10_lineUp_60 : decode cX10_lineUp 60 = .ok (.getfield 49, 3) := by decide +kernel
theorem dX10_lineUp_63 : decode cX10_lineUp 63 = .ok (.getfield 128, 3) := by decide +kernel
theorem dX10_lineUp_66 : decode cX10_lineUp 66 = .ok (.iload_n 3, 1) := by decide +kernel
theorem dX10_lineUp_67 : decode cX10_lineUp 67 = .ok (.iconst 1, 1) := by decide +kernel
theorem dX10_lineUp_68 : decode cX10_lineUp 68 = .ok (.invokevirtual 84, 3) := by decide +kernel
theorem dX10_lineUp_71 : decode cX10_lineUp 71 = .ok (.istore 4, 2) := by decide +kernel
theorem dX10_lineUp_73 : decode cX10_lineUp 73 = .ok (.aload_n 0, 1) := by decide +kernel
theorem dX10_lineUp_74 : decode cX10_lineUp 74 = .ok (.getfield 49, 3) := by decide +kernel
theorem dX10_lineUp_77 : decode cX10_lineUp 77 = .ok (.getfield 128, 3) := by decide +kernel
theorem dX10_lineUp_80 : decode cX10_lineUp 80 = .ok (.iload_n 3, 1) := by decide +kernel
theorem dX10_lineUp_81 : decode cX10_lineUp 81 = .ok (.iconst 0, 1) := by decide +kernel
theorem dX10_lineUp_82 : decode cX10_lineUp 82 = .ok (.invokevirtual 84, 3) := by decide +kernel
theorem dX10_lineUp_85 : decode cX10_lineUp 85 = .ok (.iconst 3, 1) := by decide +kernel
theorem dX10_lineUp_86 : decode cX10_lineUp 86 = .ok (.imul, 1) := by decide +kernel
theorem dX10_lineUp_87 : decode cX10_lineUp 87 = .ok (.iload 4, 2) := by decide +kernel
theorem dX10_lineUp_89 : decode cX10_lineUp 89 = .ok (.iadd, 1) := by decide +kernel
theorem dX10_lineUp_90 : decode cX10_lineUp 90 = .ok (.istore 5, 2) := by decide +kernel
theorem dX10_lineUp_92 : decode cX10_lineUp 92 = .ok (.aload_n 0, 1) := by decide +kernel
theorem dX10_lineUp_93 : decode cX10_lineUp 93 = .ok (.iload 4, 2) := by decide +kernel
theorem dX10_lineUp_95 : decode cX10_lineUp 95 = .ok (.iload_n 2, 1) := by decide +kernel
theorem dX10_lineUp_96 : decode cX10_lineUp 96 = .ok (.bipush 13, 2) := by decide +kernel
theorem dX10_lineUp_98 : decode cX10_lineUp 98 = .ok (.idiv, 1) := by decide +kernel
theorem dX10_lineUp_99 : decode cX10_lineUp 99 = .ok (.invokevirtual 147, 3) := by decide +kernel
theorem dX10_lineUp_102 : decode cX10_lineUp 102 = .ok (.istore 6, 2) := by decide +kernel
theorem dX10_lineUp_104 : decode cX10_lineUp 104 = .ok (.iload 6, 2) := by decide +kernel
theorem dX10_lineUp_106 : decode cX10_lineUp 106 = .ok (.iconst (-1), 1) := by decide +kernel
theorem dX10_lineUp_107 : decode cX10_lineUp 107 = .ok (.if_icmp .eq 15, 3) := by decide +kernel
theorem dX10_lineUp_110 : decode cX10_lineUp 110 = .ok (.aload_n 1, 1) := by decide +kernel
theorem dX10_lineUp_111 : decode cX10_lineUp 111 = .ok (.getfield 144, 3) := by decide +kernel
theorem dX10_lineUp_114 : decode cX10_lineUp 114 = .ok (.iload 5, 2) := by decide +kernel
theorem dX10_lineUp_116 : decode cX10_lineUp 116 = .ok (.iaload, 1) := by decide +kernel
theorem dX10_lineUp_117 : decode cX10_lineUp 117 = .ok (.iload 6, 2) := by decide +kernel
theorem dX10_lineUp_119 : decode cX10_lineUp 119 = .ok (.if_icmp .ge 41, 3) := by decide +kernel
theorem dX10_lineUp_122 : decode cX10_lineUp 122 = .ok (.aload_n 1, 1) := by decide +kernel
theorem dX10_lineUp_123 : decode cX10_lineUp 123 = .ok (.getfield 144, 3) := by decide +kernel
theorem dX10_lineUp_126 : decode cX10_lineUp 126 = .ok (.iload 5, 2) := by decide +kernel
theorem dX10_lineUp_128 : decode cX10_lineUp 128 = .ok (.dup2, 1) := by decide +kernel
theorem dX10_lineUp_129 : decode cX10_lineUp 129 = .ok (.iaload, 1) := by decide +kernel
theorem dX10_lineUp_130 : decode cX10_lineUp 130 = .ok (.iconst 1, 1) := by decide +kernel
theorem dX10_lineUp_131 : decode cX10_lineUp 131 = .ok (.iadd, 1) := by decide +kernel
theorem dX10_lineUp_132 : decode cX10_lineUp 132 = .ok (.iastore, 1) := by decide +kernel
theorem dX10_lineUp_133 : decode cX10_lineUp 133 = .ok (.aload_n 1, 1) := by decide +kernel
theorem dX10_lineUp_134 : decode cX10_lineUp 134 = .ok (.getfield 150, 3) := by decide +kernel
theorem dX10_lineUp_137 : decode cX10_lineUp 137 = .ok (.iload_n 3, 1) := by decide +kernel
theorem dX10_lineUp_138 : decode cX10_lineUp 138 = .ok (.iconst 1, 1) := by decide +kernel
theorem dX10_lineUp_139 : decode cX10_lineUp 139 = .ok (.iastore, 1) := by decide +kernel
theorem dX10_lineUp_140 : decode cX10_lineUp 140 = .ok (.aload_n 1, 1) := by decide +kernel
theorem dX10_lineUp_141 : decode cX10_lineUp 141 = .ok (.getfield 125, 3) := by decide +kernel
theorem dX10_lineUp_144 : decode cX10_lineUp 144 = .ok (.aload_n 1, 1) := by decide +kernel
theorem dX10_lineUp_145 : decode cX10_lineUp 145 = .ok (.getfield 112, 3) := by decide +kernel
theorem dX10_lineUp_148 : decode cX10_lineUp 148 = .ok (.iload_n 3, 1) := by decide +kernel
theorem dX10_lineUp_149 : decode cX10_lineUp 149 = .ok (.iastore, 1) := by decide +kernel
theorem dX10_lineUp_150 : decode cX10_lineUp 150 = .ok (.aload_n 1, 1) := by decide +kernel
theorem dX10_lineUp_151 : decode cX10_lineUp 151 = .ok (.dup, 1) := by decide +kernel
theorem dX10_lineUp_152 : decode cX10_lineUp 152 = .ok (.getfield 112, 3) := by decide +kernel
theorem dX10_lineUp_155 : decode cX10_lineUp 155 = .ok (.iconst 1, 1) := by decide +kernel
theorem dX10_lineUp_156 : decode cX10_lineUp 156 = .ok (.iadd, 1) := by decide +kernel
theorem dX10_lineUp_157 : decode cX10_lineUp 157 = .ok (.putfield 112, 3) := by decide +kernel
theorem dX10_lineUp_160 : decode cX10_lineUp 160 = .ok (.iinc 3 1, 3) := by decide +kernel
theorem dX10_lineUp_163 : decode cX10_lineUp 163 = .ok (.goto (-146), 3) := by decide +kernel
theorem dX10_lineUp_166 : decode cX10_lineUp 166 = .ok (.return_, 1) := by decide +kernel
theorem dX10_licencesFor_0 : decode cX10_licencesFor 0 = .ok (.iload_n 2, 1) := by decide +kernel
theorem dX10_licencesFor_1 : decode cX10_licencesFor 1 = .ok (.iconst 3, 1) := by decide +kernel
theorem dX10_licencesFor_2 : decode cX10_licencesFor 2 = .ok (.imul, 1) := by decide +kernel
theorem dX10_licencesFor_3 : decode cX10_licencesFor 3 = .ok (.iload_n 1, 1) := by decide +kernel
theorem dX10_licencesFor_4 : decode cX10_licencesFor 4 = .ok (.iadd, 1) := by decide +kernel
theorem dX10_licencesFor_5 : decode cX10_licencesFor 5 = .ok (.istore_n 3, 1) := by decide +kernel
theorem dX10_licencesFor_6 : decode cX10_licencesFor 6 = .ok (.aload_n 0, 1) := by decide +kernel
theorem dX10_licencesFor_7 : decode cX10_licencesFor 7 = .ok (.getfield 37, 3) := by decide +kernel
theorem dX10_licencesFor_10 : decode cX10_licencesFor 10 = .ok (.iload_n 3, 1) := by decide +kernel
theorem dX10_licencesFor_11 : decode cX10_licencesFor 11 = .ok (.iaload, 1) := by decide +kernel
theorem dX10_licencesFor_12 : decode cX10_licencesFor 12 = .ok (.bipush (-2), 2) := by decide +kernel
theorem dX10_licencesFor_14 : decode cX10_licencesFor 14 = .ok (.if_icmp .ne 47, 3) := by decide +kernel
theorem dX10_licencesFor_17 : decode cX10_licencesFor 17 = .ok (.aload_n 0, 1) := by decide +kernel
theorem dX10_licencesFor_18 : decode cX10_licencesFor 18 = .ok (.getfield 53, 3) := by decide +kernel
theorem dX10_licencesFor_21 : decode cX10_licencesFor 21 = .ok (.iload_n 2, 1) := by decide +kernel
theorem dX10_licencesFor_22 : decode cX10_licencesFor 22 = .ok (.bipush 13, 2) := by decide +kernel
theorem dX10_licencesFor_24 : decode cX10_licencesFor 24 = .ok (.imul, 1) := by decide +kernel
theorem dX10_licencesFor_25 : decode cX10_licencesFor 25 = .ok (.aload_n 0, 1) := by decide +kernel
theorem dX10_licencesFor_26 : decode cX10_licencesFor 26 = .ok (.getfield 9, 3) := by decide +kernel
theorem dX10_licencesFor_29 : decode cX10_licencesFor 29 = .ok (.invokevirtual 153, 3) := by decide +kernel
theorem dX10_licencesFor_32 : decode cX10_licencesFor 32 = .ok (.aload_n 0, 1) := by decide +kernel
theorem dX10_licencesFor_33 : decode cX10_licencesFor 33 = .ok (.getfield 53, 3) := by decide +kernel
theorem dX10_licencesFor_36 : decode cX10_licencesFor 36 = .ok (.iconst 0, 1) := by decide +kernel
theorem dX10_licencesFor_37 : decode cX10_licencesFor 37 = .ok (.iload_n 2, 1) := by decide +kernel
theorem dX10_licencesFor_38 : decode cX10_licencesFor 38 = .ok (.bipush 13, 2) := by decide +kernel
theorem dX10_licencesFor_40 : decode cX10_licencesFor 40 = .ok (.imul, 1) := by decide +kernel
theorem dX10_licencesFor_41 : decode cX10_licencesFor 41 = .ok (.invokevirtual 158, 3) := by decide +kernel
theorem dX10_licencesFor_44 : decode cX10_licencesFor 44 = .ok (.aload_n 0, 1) := by decide +kernel
theorem dX10_licencesFor_45 : decode cX10_licencesFor 45 = .ok (.getfield 37, 3) := by decide +kernel
theorem dX10_licencesFor_48 : decode cX10_licencesFor 48 = .ok (.iload_n 3, 1) := by decide +kernel
theorem dX10_licencesFor_49 : decode cX10_licencesFor 49 = .ok (.aload_n 0, 1) := by decide +kernel
theorem dX10_licencesFor_50 : decode cX10_licencesFor 50 = .ok (.getfield 53, 3) := by decide +kernel
theorem dX10_licencesFor_53 : decode cX10_licencesFor 53 = .ok (.bipush 55, 2) := by decide +kernel
theorem dX10_licencesFor_55 : decode cX10_licencesFor 55 = .ok (.iload_n 1, 1) := by decide +kernel
theorem dX10_licencesFor_56 : decode cX10_licencesFor 56 = .ok (.iadd, 1) := by decide +kernel
theorem dX10_licencesFor_57 : decode cX10_licencesFor 57 = .ok (.invokevirtual 161, 3) := by decide +kernel
theorem dX10_licencesFor_60 : decode cX10_licencesFor 60 = .ok (.iastore, 1) := by decide +kernel
theorem dX10_licencesFor_61 : decode cX10_licencesFor 61 = .ok (.aload_n 0, 1) := by decide +kernel
theorem dX10_licencesFor_62 : decode cX10_licencesFor 62 = .ok (.getfield 37, 3) := by decide +kernel
theorem dX10_licencesFor_65 : decode cX10_licencesFor 65 = .ok (.iload_n 3, 1) := by decide +kernel
theorem dX10_licencesFor_66 : decode cX10_licencesFor 66 = .ok (.iaload, 1) := by decide +kernel
theorem dX10_licencesFor_67 : decode cX10_licencesFor 67 = .ok (.ireturn, 1) := by decide +kernel
theorem dX10_firstKind_0 : decode cX10_firstKind 0 = .ok (.aload_n 0, 1) := by decide +kernel
theorem dX10_firstKind_1 : decode cX10_firstKind 1 = .ok (.getfield 40, 3) := by decide +kernel
theorem dX10_firstKind_4 : decode cX10_firstKind 4 = .ok (.iload_n 1, 1) := by decide +kernel
theorem dX10_firstKind_5 : decode cX10_firstKind 5 = .ok (.iaload, 1) := by decide +kernel
theorem dX10_firstKind_6 : decode cX10_firstKind 6 = .ok (.bipush (-2), 2) := by decide +kernel
theorem dX10_firstKind_8 : decode cX10_firstKind 8 = .ok (.if_icmp .ne 39, 3) := by decide +kernel
theorem dX10_firstKind_11 : decode cX10_firstKind 11 = .ok (.aload_n 0, 1) := by decide +kernel
theorem dX10_firstKind_12 : decode cX10_firstKind 12 = .ok (.getfield 53, 3) := by decide +kernel
theorem dX10_firstKind_15 : decode cX10_firstKind 15 = .ok (.iload_n 1, 1) := by decide +kernel
theorem dX10_firstKind_16 : decode cX10_firstKind 16 = .ok (.aload_n 0, 1) := by decide +kernel
theorem dX10_firstKind_17 : decode cX10_firstKind 17 = .ok (.getfield 9, 3) := by decide +kernel
theorem dX10_firstKind_20 : decode cX10_firstKind 20 = .ok (.invokevirtual 153, 3) := by decide +kernel
theorem dX10_firstKind_23 : decode cX10_firstKind 23 = .ok (.aload_n 0, 1) := by decide +kernel
theorem dX10_firstKind_24 : decode cX10_firstKind 24 = .ok (.getfield 53, 3) := by decide +kernel
theorem dX10_firstKind_27 : decode cX10_firstKind 27 = .ok (.iconst 0, 1) := by decide +kernel
theorem dX10_firstKind_28 : decode cX10_firstKind 28 = .ok (.iload_n 1, 1) := by decide +kernel
theorem dX10_firstKind_29 : decode cX10_firstKind 29 = .ok (.invokevirtual 158, 3) := by decide +kernel
theorem dX10_firstKind_32 : decode cX10_firstKind 32 = .ok (.aload_n 0, 1) := by decide +kernel
theorem dX10_firstKind_33 : decode cX10_firstKind 33 = .ok (.getfield 40, 3) := by decide +kernel
theorem dX10_firstKind_36 : decode cX10_firstKind 36 = .ok (.iload_n 1, 1) := by decide +kernel
theorem dX10_firstKind_37 : decode cX10_firstKind 37 = .ok (.aload_n 0, 1) := by decide +kernel
theorem dX10_firstKind_38 : decode cX10_firstKind 38 = .ok (.getfield 53, 3) := by decide +kernel
theorem dX10_firstKind_41 : decode cX10_firstKind 41 = .ok (.bipush 61, 2) := by decide +kernel
theorem dX10_firstKind_43 : decode cX10_firstKind 43 = .ok (.invokevirtual 161, 3) := by decide +kernel
theorem dX10_firstKind_46 : decode cX10_firstKind 46 = .ok (.iastore, 1) := by decide +kernel
theorem dX10_firstKind_47 : decode cX10_firstKind 47 = .ok (.aload_n 0, 1) := by decide +kernel
theorem dX10_firstKind_48 : decode cX10_firstKind 48 = .ok (.getfield 40, 3) := by decide +kernel
theorem dX10_firstKind_51 : decode cX10_firstKind 51 = .ok (.iload_n 1, 1) := by decide +kernel
theorem dX10_firstKind_52 : decode cX10_firstKind 52 = .ok (.iaload, 1) := by decide +kernel
theorem dX10_firstKind_53 : decode cX10_firstKind 53 = .ok (.ireturn, 1) := by decide +kernel
theorem dX10_serve_0 : decode cX10_serve 0 = .ok (.aload_n 0, 1) := by decide +kernel
theorem dX10_serve_1 : decode cX10_serve 1 = .ok (.getfield 49, 3) := by decide +kernel
theorem dX10_serve_4 : decode cX10_serve 4 = .ok (.getfield 128, 3) := by decide +kernel
theorem dX10_serve_7 : decode cX10_serve 7 = .ok (.iload_n 2, 1) := by decide +kernel
theorem dX10_serve_8 : decode cX10_serve 8 = .ok (.iconst 3, 1) := by decide +kernel
theorem dX10_serve_9 : decode cX10_serve 9 = .ok (.invokevirtual 84, 3) := by decide +kernel
theorem dX10_serve_12 : decode cX10_serve 12 = .ok (.iload_n 3, 1) := by decide +kernel
theorem dX10_serve_13 : decode cX10_serve 13 = .ok (.if_icmp .le 4, 3) := by decide +kernel
theorem dX10_serve_16 : decode cX10_serve 16 = .ok (.return_, 1) := by decide +kernel
theorem dX10_serve_17 : decode cX10_serve 17 = .ok (.aload_n 0, 1) := by decide +kernel
theorem dX10_serve_18 : decode cX10_serve 18 = .ok (.getfield 49, 3) := by decide +kernel
theorem dX10_serve_21 : decode cX10_serve 21 = .ok (.getfield 128, 3) := by decide +kernel
theorem dX10_serve_24 : decode cX10_serve 24 = .ok (.iload_n 2, 1) := by decide +kernel
theorem dX10_serve_25 : decode cX10_serve 25 = .ok (.iconst 0, 1) := by decide +kernel
theorem dX10_serve_26 : decode cX10_serve 26 = .ok (.invokevirtual 84, 3) := by decide +kernel
theorem dX10_serve_29 : decode cX10_serve 29 = .ok (.istore 4, 2) := by decide +kernel
theorem dX10_serve_31 : decode cX10_serve 31 = .ok (.aload_n 0, 1) := by decide +kernel
theorem dX10_serve_32 : decode cX10_serve 32 = .ok (.getfield 49, 3) := by decide +kernel
theorem dX10_serve_35 : decode cX10_serve 35 = .ok (.getfield 128, 3) := by decide +kernel
theorem dX10_serve_38 : decode cX10_serve 38 = .ok (.iload_n 2, 1) := by decide +kernel
theorem dX10_serve_39 : decode cX10_serve 39 = .ok (.iconst 1, 1) := by decide +kernel
theorem dX10_serve_40 : decode cX10_serve 40 = .ok (.invokevirtual 84, 3) := by decide +kernel
theorem dX10_serve_43 : decode cX10_serve 43 = .ok (.istore 5, 2) := by decide +kernel
theorem dX10_serve_45 : decode cX10_serve 45 = .ok (.aload_n 0, 1) := by decide +kernel
theorem dX10_serve_46 : decode cX10_serve 46 = .ok (.getfield 49, 3) := by decide +kernel
theorem dX10_serve_49 : decode cX10_serve 49 = .ok (.getfield 128, 3) := by decide +kernel
theorem dX10_serve_52 : decode cX10_serve 52 = .ok (.iload_n 2, 1) := by decide +kernel
theorem dX10_serve_53 : decode cX10_serve 53 = .ok (.iconst 2, 1) := by decide +kernel
theorem dX10_serve_54 : decode cX10_serve 54 = .ok (.invokevirtual 84, 3) := by decide +kernel
theorem dX10_serve_57 : decode cX10_serve 57 = .ok (.istore 6, 2) := by decide +kernel
theorem dX10_serve_59 : decode cX10_serve 59 = .ok (.aload_n 1, 1) := by decide +kernel
theorem dX10_serve_60 : decode cX10_serve 60 = .ok (.getfield 164, 3) := by decide +kernel
theorem dX10_serve_63 : decode cX10_serve 63 = .ok (.iload_n 2, 1) := by decide +kernel
theorem dX10_serve_64 : decode cX10_serve 64 = .ok (.iaload, 1) := by decide +kernel
theorem dX10_serve_65 : decode cX10_serve 65 = .ok (.istore 7, 2) := by decide +kernel
theorem dX10_serve_67 : decode cX10_serve 67 = .ok (.iload 7, 2) := by decide +kernel
theorem dX10_serve_69 : decode cX10_serve 69 = .ok (.iconst 3, 1) := by decide +kernel
theorem dX10_serve_70 : decode cX10_serve 70 = .ok (.if_icmp .ge 103, 3) := by decide +kernel
theorem dX10_serve_73 : decode cX10_serve 73 = .ok (.aload_n 1, 1) := by decide +kernel
theorem dX10_serve_74 : decode cX10_serve 74 = .ok (.getfield 167, 3) := by decide +kernel
theorem dX10_serve_77 : decode cX10_serve 77 = .ok (.iload_n 2, 1) := by decide +kernel
theorem dX10_serve_78 : decode cX10_serve 78 = .ok (.iaload, 1) := by decide +kernel
theorem dX10_serve_79 : decode cX10_serve 79 = .ok (.iconst (-1), 1) := by decide +kernel
theorem dX10_serve_80 : decode cX10_serve 80 = .ok (.if_icmp .ne 25, 3) := by decide +kernel
theorem dX10_serve_83 : decode cX10_serve 83 = .ok (.aload_n 0, 1) := by decide +kernel
theorem dX10_serve_84 : decode cX10_serve 84 = .ok (.aload_n 1, 1) := by decide +kernel
theorem dX10_serve_85 : decode cX10_serve 85 = .ok (.iload_n 2, 1) := by decide +kernel
theorem dX10_serve_86 : decode cX10_serve 86 = .ok (.iload_n 3, 1) := by decide +kernel
theorem dX10_serve_87 : decode cX10_serve 87 = .ok (.aload_n 0, 1) := by decide +kernel
theorem dX10_serve_88 : decode cX10_serve 88 = .ok (.iload 5, 2) := by decide +kernel
theorem dX10_serve_90 : decode cX10_serve 90 = .ok (.iload 7, 2) := by decide +kernel
theorem dX10_serve_92 : decode cX10_serve 92 = .ok (.iload 6, 2) := by decide +kernel
theorem dX10_serve_94 : decode cX10_serve 94 = .ok (.iload_n 3, 1) := by decide +kernel
theorem dX10_serve_95 : decode cX10_serve 95 = .ok (.invokevirtual 170, 3) := by decide +kernel
theorem dX10_serve_98 : decode cX10_serve 98 = .ok (.invokevirtual 174, 3) := by decide +kernel
theorem dX10_serve_101 : decode cX10_serve 101 = .ok (.ifCond .ne 4, 3) := by decide +kernel
theorem dX10_serve_104 : decode cX10_serve 104 = .ok (.return_, 1) := by decide +kernel
theorem dX10_serve_105 : decode cX10_serve 105 = .ok (.aload_n 1, 1) := by decide +kernel
theorem dX10_serve_106 : decode cX10_serve 106 = .ok (.getfield 167, 3) := by decide +kernel
theorem dX10_serve_109 : decode cX10_serve 109 = .ok (.iload_n 2, 1) := by decide +kernel
theorem dX10_serve_110 : decode cX10_serve 110 = .ok (.iaload, 1) := by decide +kernel
theorem dX10_serve_111 : decode cX10_serve 111 = .ok (.ifCond .le 50, 3) := by decide +kernel
theorem dX10_serve_114 : decode cX10_serve 114 = .ok (.aload_n 0, 1) := by decide +kernel
theorem dX10_serve_115 : decode cX10_serve 115 = .ok (.getfield 28, 3) := by decide +kernel
theorem dX10_serve_118 : decode cX10_serve 118 = .ok (.iload 4, 2) := by decide +kernel
theorem dX10_serve_120 : decode cX10_serve 120 = .ok (.iaload, 1) := by decide +kernel
theorem dX10_serve_121 : decode cX10_serve 121 = .ok (.ifCond .le 39, 3) := by decide +kernel
theorem dX10_serve_124 : decode cX10_serve 124 = .ok (.aload_n 0, 1) := by decide +kernel
theorem dX10_serve_125 : decode cX10_serve 125 = .ok (.getfield 28, 3) := by decide +kernel
theorem dX10_serve_128 : decode cX10_serve 128 = .ok (.iload 4, 2) := by decide +kernel
theorem dX10_serve_130 : decode cX10_serve 130 = .ok (.dup2, 1) := by decide +kernel
theorem dX10_serve_131 : decode cX10_serve 131 = .ok (.iaload, 1) := by decide +kernel
theorem dX10_serve_132 : decode cX10_serve 132 = .ok (.iconst 1, 1) := by decide +kernel
theorem dX10_serve_133 : decode cX10_serve 133 = .ok (.isub, 1) := by decide +kernel
theorem dX10_serve_134 : decode cX10_serve 134 = .ok (.iastore, 1) := by decide +kernel
theorem dX10_serve_135 : decode cX10_serve 135 = .ok (.aload_n 1, 1) := by decide +kernel
theorem dX10_serve_136 : decode cX10_serve 136 = .ok (.getfield 167, 3) := by decide +kernel
theorem dX10_serve_139 : decode cX10_serve 139 = .ok (.iload_n 2, 1) := by decide +kernel
theorem dX10_serve_140 : decode cX10_serve 140 = .ok (.dup2, 1) := by decide +kernel
theorem dX10_serve_141 : decode cX10_serve 141 = .ok (.iaload, 1) := by decide +kernel
theorem dX10_serve_142 : decode cX10_serve 142 = .ok (.iconst 1, 1) := by decide +kernel
theorem dX10_serve_143 : decode cX10_serve 143 = .ok (.isub, 1) := by decide +kernel
theorem dX10_serve_144 : decode cX10_serve 144 = .ok (.iastore, 1) := by decide +kernel
theorem dX10_serve_145 : decode cX10_serve 145 = .ok (.aload_n 1, 1) := by decide +kernel
theorem dX10_serve_146 : decode cX10_serve 146 = .ok (.getfield 167, 3) := by decide +kernel
theorem dX10_serve_149 : decode cX10_serve 149 = .ok (.iload_n 2, 1) := by decide +kernel
theorem dX10_serve_150 : decode cX10_serve 150 = .ok (.iaload, 1) := by decide +kernel
theorem dX10_serve_151 : decode cX10_serve 151 = .ok (.ifCond .ne 9, 3) := by decide +kernel
theorem dX10_serve_154 : decode cX10_serve 154 = .ok (.aload_n 1, 1) := by decide +kernel
theorem dX10_serve_155 : decode cX10_serve 155 = .ok (.iload_n 2, 1) := by decide +kernel
theorem dX10_serve_156 : decode cX10_serve 156 = .ok (.iload_n 3, 1) := by decide +kernel
theorem dX10_serve_157 : decode cX10_serve 157 = .ok (.invokevirtual 178, 3) := by decide +kernel
theorem dX10_serve_160 : decode cX10_serve 160 = .ok (.return_, 1) := by decide +kernel
theorem dX10_serve_161 : decode cX10_serve 161 = .ok (.aload_n 1, 1) := by decide +kernel
theorem dX10_serve_162 : decode cX10_serve 162 = .ok (.iload_n 2, 1) := by decide +kernel
theorem dX10_serve_163 : decode cX10_serve 163 = .ok (.iload_n 3, 1) := by decide +kernel
theorem dX10_serve_164 : decode cX10_serve 164 = .ok (.invokevirtual 178, 3) := by decide +kernel
theorem dX10_serve_167 : decode cX10_serve 167 = .ok (.iinc 7 1, 3) := by decide +kernel
theorem dX10_serve_170 : decode cX10_serve 170 = .ok (.goto (-103), 3) := by decide +kernel
theorem dX10_serve_173 : decode cX10_serve 173 = .ok (.return_, 1) := by decide +kernel
theorem dX10_takeNeeds_0 : decode cX10_takeNeeds 0 = .ok (.iload_n 2, 1) := by decide +kernel
theorem dX10_takeNeeds_1 : decode cX10_takeNeeds 1 = .ok (.iconst 3, 1) := by decide +kernel
theorem dX10_takeNeeds_2 : decode cX10_takeNeeds 2 = .ok (.imul, 1) := by decide +kernel
theorem dX10_takeNeeds_3 : decode cX10_takeNeeds 3 = .ok (.aload_n 1, 1) := by decide +kernel
theorem dX10_takeNeeds_4 : decode cX10_takeNeeds 4 = .ok (.getfield 164, 3) := by decide +kernel
theorem dX10_takeNeeds_7 : decode cX10_takeNeeds 7 = .ok (.iload_n 2, 1) := by decide +kernel
theorem dX10_takeNeeds_8 : decode cX10_takeNeeds 8 = .ok (.iaload, 1) := by decide +kernel
theorem dX10_takeNeeds_9 : decode cX10_takeNeeds 9 = .ok (.iadd, 1) := by decide +kernel
theorem dX10_takeNeeds_10 : decode cX10_takeNeeds 10 = .ok (.istore 5, 2) := by decide +kernel
theorem dX10_takeNeeds_12 : decode cX10_takeNeeds 12 = .ok (.aload_n 1, 1) := by decide +kernel
theorem dX10_takeNeeds_13 : decode cX10_takeNeeds 13 = .ok (.getfield 181, 3) := by decide +kernel
theorem dX10_takeNeeds_16 : decode cX10_takeNeeds 16 = .ok (.iload 5, 2) := by decide +kernel
theorem dX10_takeNeeds_18 : decode cX10_takeNeeds 18 = .ok (.iaload, 1) := by decide +kernel
theorem dX10_takeNeeds_19 : decode cX10_takeNeeds 19 = .ok (.iconst (-1), 1) := by decide +kernel
theorem dX10_takeNeeds_20 : decode cX10_takeNeeds 20 = .ok (.if_icmp .ne 11, 3) := by decide +kernel
theorem dX10_takeNeeds_23 : decode cX10_takeNeeds 23 = .ok (.aload_n 1, 1) := by decide +kernel
theorem dX10_takeNeeds_24 : decode cX10_takeNeeds 24 = .ok (.getfield 181, 3) := by decide +kernel
theorem dX10_takeNeeds_27 : decode cX10_takeNeeds 27 = .ok (.iload 5, 2) := by decide +kernel
theorem dX10_takeNeeds_29 : decode cX10_takeNeeds 29 = .ok (.iload_n 3, 1) := by decide +kernel
theorem dX10_takeNeeds_30 : decode cX10_takeNeeds 30 = .ok (.iastore, 1) := by decide +kernel
theorem dX10_takeNeeds_31 : decode cX10_takeNeeds 31 = .ok (.iconst 0, 1) := by decide +kernel
theorem dX10_takeNeeds_32 : decode cX10_takeNeeds 32 = .ok (.istore 6, 2) := by decide +kernel
theorem dX10_takeNeeds_34 : decode cX10_takeNeeds 34 = .ok (.iload 6, 2) := by decide +kernel
theorem dX10_takeNeeds_36 : decode cX10_takeNeeds 36 = .ok (.iconst 5, 1) := by decide +kernel
theorem dX10_takeNeeds_37 : decode cX10_takeNeeds 37 = .ok (.if_icmp .ge 31, 3) := by decide +kernel
theorem dX10_takeNeeds_40 : decode cX10_takeNeeds 40 = .ok (.aload_n 1, 1) := by decide +kernel
theorem dX10_takeNeeds_41 : decode cX10_takeNeeds 41 = .ok (.getfield 97, 3) := by decide +kernel
theorem dX10_takeNeeds_44 : decode cX10_takeNeeds 44 = .ok (.iload 6, 2) := by decide +kernel
theorem dX10_takeNeeds_46 : decode cX10_takeNeeds 46 = .ok (.iaload, 1) := by decide +kernel
theorem dX10_takeNeeds_47 : decode cX10_takeNeeds 47 = .ok (.aload_n 0, 1) := by decide +kernel
theorem dX10_takeNeeds_48 : decode cX10_takeNeeds 48 = .ok (.getfield 43, 3) := by decide +kernel
theorem dX10_takeNeeds_51 : decode cX10_takeNeeds 51 = .ok (.iload 4, 2) := by decide +kernel
theorem dX10_takeNeeds_53 : decode cX10_takeNeeds 53 = .ok (.iload 6, 2) := by decide +kernel
theorem dX10_takeNeeds_55 : decode cX10_takeNeeds 55 = .ok (.iadd, 1) := by decide +kernel
theorem dX10_takeNeeds_56 : decode cX10_takeNeeds 56 = .ok (.iaload, 1) := by decide +kernel
theorem dX10_takeNeeds_57 : decode cX10_takeNeeds 57 = .ok (.if_icmp .ge 5, 3) := by decide +kernel
theorem dX10_takeNeeds_60 : decode cX10_takeNeeds 60 = .ok (.iconst 0, 1) := by decide +kernel
theorem dX10_takeNeeds_61 : decode cX10_takeNeeds 61 = .ok (.ireturn, 1) := by decide +kernel
theorem dX10_takeNeeds_62 : decode cX10_takeNeeds 62 = .ok (.iinc 6 1, 3) := by decide +kernel
theorem dX10_takeNeeds_65 : decode cX10_takeNeeds 65 = .ok (.goto (-31), 3) := by decide +kernel
theorem dX10_takeNeeds_68 : decode cX10_takeNeeds 68 = .ok (.iconst 0, 1) := by decide +kernel
theorem dX10_takeNeeds_69 : decode cX10_takeNeeds 69 = .ok (.istore 6, 2) := by decide +kernel
theorem dX10_takeNeeds_71 : decode cX10_takeNeeds 71 = .ok (.iload 6, 2) := by decide +kernel
theorem dX10_takeNeeds_73 : decode cX10_takeNeeds 73 = .ok (.iconst 5, 1) := by decide +kernel
theorem dX10_takeNeeds_74 : decode cX10_takeNeeds 74 = .ok (.if_icmp .ge 29, 3) := by decide +kernel
theorem dX10_takeNeeds_77 : decode cX10_takeNeeds 77 = .ok (.aload_n 1, 1) := by decide +kernel
theorem dX10_takeNeeds_78 : decode cX10_takeNeeds 78 = .ok (.getfield 97, 3) := by decide +kernel
theorem dX10_takeNeeds_81 : decode cX10_takeNeeds 81 = .ok (.iload 6, 2) := by decide +kernel
theorem dX10_takeNeeds_83 : decode cX10_takeNeeds 83 = .ok (.dup2, 1) := by decide +kernel
theorem dX10_takeNeeds_84 : decode cX10_takeNeeds 84 = .ok (.iaload, 1) := by decide +kernel
theorem dX10_takeNeeds_85 : decode cX10_takeNeeds 85 = .ok (.aload_n 0, 1) := by decide +kernel
theorem dX10_takeNeeds_86 : decode cX10_takeNeeds 86 = .ok (.getfield 43, 3) := by decide +kernel
theorem dX10_takeNeeds_89 : decode cX10_takeNeeds 89 = .ok (.iload 4, 2) := by decide +kernel
theorem dX10_takeNeeds_91 : decode cX10_takeNeeds 91 = .ok (.iload 6, 2) := by decide +kernel
theorem dX10_takeNeeds_93 : decode cX10_takeNeeds 93 = .ok (.iadd, 1) := by decide +kernel
theorem dX10_takeNeeds_94 : decode cX10_takeNeeds 94 = .ok (.iaload, 1) := by decide +kernel
theorem dX10_takeNeeds_95 : decode cX10_takeNeeds 95 = .ok (.isub, 1) := by decide +kernel
theorem dX10_takeNeeds_96 : decode cX10_takeNeeds 96 = .ok (.iastore, 1) := by decide +kernel
theorem dX10_takeNeeds_97 : decode cX10_takeNeeds 97 = .ok (.iinc 6 1, 3) := by decide +kernel
theorem dX10_takeNeeds_100 : decode cX10_takeNeeds 100 = .ok (.goto (-29), 3) := by decide +kernel
theorem dX10_takeNeeds_103 : decode cX10_takeNeeds 103 = .ok (.aload_n 1, 1) := by decide +kernel
theorem dX10_takeNeeds_104 : decode cX10_takeNeeds 104 = .ok (.getfield 184, 3) := by decide +kernel
theorem dX10_takeNeeds_107 : decode cX10_takeNeeds 107 = .ok (.iload 5, 2) := by decide +kernel
theorem dX10_takeNeeds_109 : decode cX10_takeNeeds 109 = .ok (.iload_n 3, 1) := by decide +kernel
theorem dX10_takeNeeds_110 : decode cX10_takeNeeds 110 = .ok (.iastore, 1) := by decide +kernel
theorem dX10_takeNeeds_111 : decode cX10_takeNeeds 111 = .ok (.aload_n 1, 1) := by decide +kernel
theorem dX10_takeNeeds_112 : decode cX10_takeNeeds 112 = .ok (.getfield 167, 3) := by decide +kernel
theorem dX10_takeNeeds_115 : decode cX10_takeNeeds 115 = .ok (.iload_n 2, 1) := by decide +kernel
theorem dX10_takeNeeds_116 : decode cX10_takeNeeds 116 = .ok (.aload_n 0, 1) := by decide +kernel
theorem dX10_takeNeeds_117 : decode cX10_takeNeeds 117 = .ok (.getfield 43, 3) := by decide +kernel
theorem dX10_takeNeeds_120 : decode cX10_takeNeeds 120 = .ok (.iload 4, 2) := by decide +kernel
theorem dX10_takeNeeds_122 : decode cX10_takeNeeds 122 = .ok (.iconst 5, 1) := by decide +kernel
theorem dX10_takeNeeds_123 : decode cX10_takeNeeds 123 = .ok (.iadd, 1) := by decide +kernel
theorem dX10_takeNeeds_124 : decode cX10_takeNeeds 124 = .ok (.iaload, 1) := by decide +kernel
theorem dX10_takeNeeds_125 : decode cX10_takeNeeds 125 = .ok (.iastore, 1) := by decide +kernel
theorem dX10_takeNeeds_126 : decode cX10_takeNeeds 126 = .ok (.iconst 1, 1) := by decide +kernel
theorem dX10_takeNeeds_127 : decode cX10_takeNeeds 127 = .ok (.ireturn, 1) := by decide +kernel
def W_X9_copyFrom_0 (X : Sx) (l : Launch) (D : Nat) (x0 : Nat) (x1 : Nat) (σ : AH) (r : Option Value) (σ' : AH) : Prop := kd σ x0 = (9, NO 9) ∧ x0 < nx σ ∧ kd σ x1 = (9, NO 9) ∧ x1 < nx σ ∧ E X l m_X9_copyFrom D 2 [(0, .ref x0), (1, .ref x1), (2, .int (0 : Int32))] [] σ r σ'
set_option maxRecDepth 100000 in
theorem w_X9_copyFrom_0 {X : Sx} {l : Launch} {D : Nat} {x0 : Nat} {x1 : Nat} {σ : AH} {r : Option Value} {σ' : AH} (h : W_X9_copyFrom_0 X l D x0 x1 σ r σ') : E X l m_X9_copyFrom D 0 [(0, .ref x0), (1, .ref x1)] [] σ r σ' := by
  unfold W_X9_copyFrom_0 at h
  obtain ⟨hkx0, hbx0, h⟩ := h
  obtain ⟨hkx1, hbx1, h⟩ := h
  refine E_iconst (0 : Int32) dX9_copyFrom_0 (by decide) ?_
  refine E_istore_n [(2, .int (0 : Int32)), (0, .ref x0), (1, .ref x1)] dX9_copyFrom_1 rfl (by decide) rfl ?_
  exact E_lv [1, 2, 0] rfl h
def W_X9_copyFrom_2 (X : Sx) (l : Launch) (D : Nat) (x0 : Nat) (x1 : Nat) (x2 : Int32) (σ : AH) (r : Option Value) (σ' : AH) : Prop := kd σ x0 = (9, NO 9) ∧ x0 < nx σ ∧ kd σ x1 = (9, NO 9) ∧ x1 < nx σ ∧ (if (24 : Int32) ≤ x2 then al m_X9_copyFrom x0 ∧ ∃ b2 : Nat, gR (sI σ x0 1 (gI σ x1 1)) x0 2 = some b2 ∧ kd (sI σ x0 1 (gI σ x1 1)) b2 = (8, NO 8) ∧ b2 < nx (sI σ x0 1 (gI σ x1 1)) ∧ ∃ b6 : Nat, gR (sI σ x0 1 (gI σ x1 1)) x1 2 = some b6 ∧ kd (sI σ x0 1 (gI σ x1 1)) b6 = (8, NO 8) ∧ b6 < nx (sI σ x0 1 (gI σ x1 1)) ∧ ∃ d10 : Nat, ∃ σ11 : AH, d10 + 1 ≤ D ∧ Call X l m_X8_copyFrom d10 [.ref b2, .ref b6] (sI σ x0 1 (gI σ x1 1)) none σ11 ∧ ∃ b19 : Nat, gR σ11 x0 3 = some b19 ∧ kd σ11 b19 = (8, NO 8) ∧ b19 < nx σ11 ∧ ∃ b23 : Nat, gR σ11 x1 3 = some b23 ∧ kd σ11 b23 = (8, NO 8) ∧ b23 < nx σ11 ∧ ∃ d27 : Nat, ∃ σ28 : AH, d27 + 1 ≤ D ∧ Call X l m_X8_copyFrom d27 [.ref b19, .ref b23] σ11 none σ28 ∧ ∃ b36 : Nat, gR σ28 x0 4 = some b36 ∧ kd σ28 b36 = (8, NO 8) ∧ b36 < nx σ28 ∧ ∃ b40 : Nat, gR σ28 x1 4 = some b40 ∧ kd σ28 b40 = (8, NO 8) ∧ b40 < nx σ28 ∧ ∃ d44 : Nat, ∃ σ45 : AH, d44 + 1 ≤ D ∧ Call X l m_X8_copyFrom d44 [.ref b36, .ref b40] σ28 none σ45 ∧ ∃ b53 : Nat, gR σ45 x0 5 = some b53 ∧ kd σ45 b53 = (8, NO 8) ∧ b53 < nx σ45 ∧ ∃ b57 : Nat, gR σ45 x1 5 = some b57 ∧ kd σ45 b57 = (8, NO 8) ∧ b57 < nx σ45 ∧ ∃ d61 : Nat, ∃ σ62 : AH, d61 + 1 ≤ D ∧ Call X l m_X8_copyFrom d61 [.ref b53, .ref b57] σ45 none σ62 ∧ ∃ b70 : Nat, gR σ62 x0 6 = some b70 ∧ kd σ62 b70 = (8, NO 8) ∧ b70 < nx σ62 ∧ ∃ b74 : Nat, gR σ62 x1 6 = some b74 ∧ kd σ62 b74 = (8, NO 8) ∧ b74 < nx σ62 ∧ ∃ d78 : Nat, ∃ σ79 : AH, d78 + 1 ≤ D ∧ Call X l m_X8_copyFrom d78 [.ref b70, .ref b74] σ62 none σ79 ∧ ∃ b87 : Nat, gR σ79 x0 7 = some b87 ∧ kd σ79 b87 = (8, NO 8) ∧ b87 < nx σ79 ∧ ∃ b91 : Nat, gR σ79 x1 7 = some b91 ∧ kd σ79 b91 = (8, NO 8) ∧ b91 < nx σ79 ∧ ∃ d95 : Nat, ∃ σ96 : AH, d95 + 1 ≤ D ∧ Call X l m_X8_copyFrom d95 [.ref b87, .ref b91] σ79 none σ96 ∧ ∃ b104 : Nat, gR σ96 x0 8 = some b104 ∧ kd σ96 b104 = (8, NO 8) ∧ b104 < nx σ96 ∧ ∃ b108 : Nat, gR σ96 x1 8 = some b108 ∧ kd σ96 b108 = (8, NO 8) ∧ b108 < nx σ96 ∧ ∃ d112 : Nat, ∃ σ113 : AH, d112 + 1 ≤ D ∧ Call X l m_X8_copyFrom d112 [.ref b104, .ref b108] σ96 none σ113 ∧ ∃ b121 : Nat, gR σ113 x0 9 = some b121 ∧ kd σ113 b121 = (8, NO 8) ∧ b121 < nx σ113 ∧ ∃ b125 : Nat, gR σ113 x1 9 = some b125 ∧ kd σ113 b125 = (8, NO 8) ∧ b125 < nx σ113 ∧ ∃ d129 : Nat, ∃ σ130 : AH, d129 + 1 ≤ D ∧ Call X l m_X8_copyFrom d129 [.ref b121, .ref b125] σ113 none σ130 ∧ ∃ b138 n142 : Nat, gR σ130 x1 10 = some b138 ∧ kd σ130 b138 = (100, n142) ∧ b138 < nx σ130 ∧ ∃ b143 n147 : Nat, gR σ130 x0 10 = some b143 ∧ kd σ130 b143 = (100, n147) ∧ b143 < nx σ130 ∧ ∃ b148 n152 : Nat, gR σ130 x0 10 = some b148 ∧ kd σ130 b148 = (100, n152) ∧ b148 < nx σ130 ∧ ¬ (Int32.ofNat n152) < 0 ∧ 0 + (Int32.ofNat n152).toNatClampNeg ≤ n142 ∧ 0 + (Int32.ofNat n152).toNatClampNeg ≤ n147 ∧ 1 ≤ D ∧ al m_X9_copyFrom b143 ∧ (∀ τ160 : AH, τ160 = (sA σ130 b143 (va_cpy (gI σ130 b138) (gI σ130 b143) 0 0 ((Int32.ofNat n152).toNatClampNeg))) → ∃ b167 n171 : Nat, gR τ160 x1 11 = some b167 ∧ kd τ160 b167 = (100, n171) ∧ b167 < nx τ160 ∧ ∃ b172 n176 : Nat, gR τ160 x0 11 = some b172 ∧ kd τ160 b172 = (100, n176) ∧ b172 < nx τ160 ∧ ∃ b177 n181 : Nat, gR τ160 x0 11 = some b177 ∧ kd τ160 b177 = (100, n181) ∧ b177 < nx τ160 ∧ ¬ (Int32.ofNat n181) < 0 ∧ 0 + (Int32.ofNat n181).toNatClampNeg ≤ n171 ∧ 0 + (Int32.ofNat n181).toNatClampNeg ≤ n176 ∧ 1 ≤ D ∧ al m_X9_copyFrom b172 ∧ (∀ τ189 : AH, τ189 = (sA τ160 b172 (va_cpy (gI τ160 b167) (gI τ160 b172) 0 0 ((Int32.ofNat n181).toNatClampNeg))) → al m_X9_copyFrom x0 ∧ al m_X9_copyFrom x0 ∧ al m_X9_copyFrom x0 ∧ (∀ τ199 : AH, τ199 = (sI (sI (sI τ189 x0 12 (gI τ189 x1 12)) x0 13 (gI (sI τ189 x0 12 (gI τ189 x1 12)) x1 13)) x0 14 (gI (sI (sI τ189 x0 12 (gI τ189 x1 12)) x0 13 (gI (sI τ189 x0 12 (gI τ189 x1 12)) x1 13)) x1 14)) → al m_X9_copyFrom x0 ∧ (r = none ∧ σ' = (sI τ199 x0 15 (gI τ199 x1 15)))))) else ∃ b207 n211 : Nat, gR σ x0 0 = some b207 ∧ kd σ b207 = (103, n211) ∧ b207 < nx σ ∧ ∃ b212 n216 : Nat, gR σ x1 0 = some b212 ∧ kd σ b212 = (103, n216) ∧ b212 < nx σ ∧ vp_in x2 n216 ∧ (gR σ b212 x2.toNatClampNeg = none → al m_X9_copyFrom b207 ∧ vp_in x2 n211 ∧ (Sh σ → Sh (sR σ b207 x2.toNatClampNeg none)) ∧ (∀ τ236 : AH, τ236 = (sR σ b207 x2.toNatClampNeg none) → E X l m_X9_copyFrom D 2 [(0, .ref x0), (1, .ref x1), (2, .int (x2 + 1))] [] τ236 r σ')) ∧ ∀ b217 : Nat, gR σ b212 x2.toNatClampNeg = some b217 → kd σ b217 = (0, NO 0) ∧ b217 < nx σ ∧ al m_X9_copyFrom b207 ∧ vp_in x2 n211 ∧ (Sh σ → Sh (sR σ b207 x2.toNatClampNeg (some b217))) ∧ (∀ τ226 : AH, τ226 = (sR σ b207 x2.toNatClampNeg (some b217)) → E X l m_X9_copyFrom D 2 [(0, .ref x0), (1, .ref x1), (2, .int (x2 + 1))] [] τ226 r σ'))
set_option maxRecDepth 100000 in
theorem w_X9_copyFrom_2 {X : Sx} {l : Launch} {D : Nat} {x0 : Nat} {x1 : Nat} {x2 : Int32} {σ : AH} {r : Option Value} {σ' : AH} (h : W_X9_copyFrom_2 X l D x0 x1 x2 σ r σ') : E X l m_X9_copyFrom D 2 [(0, .ref x0), (1, .ref x1), (2, .int x2)] [] σ r σ' := by
  unfold W_X9_copyFrom_2 at h
  obtain ⟨hkx0, hbx0, h⟩ := h
  obtain ⟨hkx1, hbx1, h⟩ := h
  refine E_iload_n 2 dX9_copyFrom_2 rfl rfl ?_
  refine E_bipush (24 : Int32) dX9_copyFrom_3 (by decide) ?_
  refine E_icmp_ge 26 dX9_copyFrom_5 (by decide) (fun c => ?_) (fun c => ?_)
  · rw [if_pos c] at h
    refine E_aload_n 0 dX9_copyFrom_26 rfl rfl ?_
    refine E_aload_n 1 dX9_copyFrom_27 rfl rfl ?_
    refine E_getI dX9_copyFrom_28 fl_X9_56 rfl hkx1 hbx1 ?_
    obtain ⟨ga1, h⟩ := h
    refine E_putI dX9_copyFrom_31 fl_X9_56 rfl (Or.inl rfl) hkx0 hbx0 ga1 rfl rfl ?_
    refine E_aload_n 0 dX9_copyFrom_34 rfl rfl ?_
    obtain ⟨b2, g3, hk4, hb5, h⟩ := h
    refine E_getR b2 dX9_copyFrom_35 fl_X9_22 rfl hkx0 hbx0 g3 ?_
    refine E_aload_n 1 dX9_copyFrom_38 rfl rfl ?_
    obtain ⟨b6, g7, hk8, hb9, h⟩ := h
    refine E_getR b6 dX9_copyFrom_39 fl_X9_22 rfl hkx1 hbx1 g7 ?_
    obtain ⟨d10, σ11, hD12, hC13, h⟩ := h
    have hk15 := (hC13.1.2.2.1 _ hbx0).trans hkx0
    have hb16 := Nat.lt_of_lt_of_le hbx0 hC13.1.1
    have hk17 := (hC13.1.2.2.1 _ hbx1).trans hkx1
    have hb18 := Nat.lt_of_lt_of_le hbx1 hC13.1.1
    refine E_callV (As := [.ref b6]) (rest := []) (r1 := none) (b := b2) dX9_copyFrom_42 ok_X8_copyFrom in_X8_copyFrom se_X8_copyFrom ml_X9_60 hD12 rfl rfl (Nat.le_of_ble_eq_true rfl) hk4 hb5 (by decide) rfl (by decide +kernel) hC13 ?_
    refine E_aload_n 0 dX9_copyFrom_45 rfl rfl ?_
    obtain ⟨b19, g20, hk21, hb22, h⟩ := h
    refine E_getR b19 dX9_copyFrom_46 fl_X9_26 rfl hk15 hb16 g20 ?_
    refine E_aload_n 1 dX9_copyFrom_49 rfl rfl ?_
    obtain ⟨b23, g24, hk25, hb26, h⟩ := h
    refine E_getR b23 dX9_copyFrom_50 fl_X9_26 rfl hk17 hb18 g24 ?_
    obtain ⟨d27, σ28, hD29, hC30, h⟩ := h
    have hk32 := (hC30.1.2.2.1 _ hb16).trans hk15
    have hb33 := Nat.lt_of_lt_of_le hb16 hC30.1.1
    have hk34 := (hC30.1.2.2.1 _ hb18).trans hk17
    have hb35 := Nat.lt_of_lt_of_le hb18 hC30.1.1
    refine E_callV (As := [.ref b23]) (rest := []) (r1 := none) (b := b19) dX9_copyFrom_53 ok_X8_copyFrom in_X8_copyFrom se_X8_copyFrom ml_X9_60 hD29 rfl rfl (Nat.le_of_ble_eq_true rfl) hk21 hb22 (by decide) rfl (by decide +kernel) hC30 ?_
    refine E_aload_n 0 dX9_copyFrom_56 rfl rfl ?_
    obtain ⟨b36, g37, hk38, hb39, h⟩ := h
    refine E_getR b36 dX9_copyFrom_57 fl_X9_29 rfl hk32 hb33 g37 ?_
    refine E_aload_n 1 dX9_copyFrom_60 rfl rfl ?_
    obtain ⟨b40, g41, hk42, hb43, h⟩ := h
    refine E_getR b40 dX9_copyFrom_61 fl_X9_29 rfl hk34 hb35 g41 ?_
    obtain ⟨d44, σ45, hD46, hC47, h⟩ := h
    have hk49 := (hC47.1.2.2.1 _ hb33).trans hk32
    have hb50 := Nat.lt_of_lt_of_le hb33 hC47.1.1
    have hk51 := (hC47.1.2.2.1 _ hb35).trans hk34
    have hb52 := Nat.lt_of_lt_of_le hb35 hC47.1.1
    refine E_callV (As := [.ref b40]) (rest := []) (r1 := none) (b := b36) dX9_copyFrom_64 ok_X8_copyFrom in_X8_copyFrom se_X8_copyFrom ml_X9_60 hD46 rfl rfl (Nat.le_of_ble_eq_true rfl) hk38 hb39 (by decide) rfl (by decide +kernel) hC47 ?_
    refine E_aload_n 0 dX9_copyFrom_67 rfl rfl ?_
    obtain ⟨b53, g54, hk55, hb56, h⟩ := h
    refine E_getR b53 dX9_copyFrom_68 fl_X9_32 rfl hk49 hb50 g54 ?_
    refine E_aload_n 1 dX9_copyFrom_71 rfl rfl ?_
    obtain ⟨b57, g58, hk59, hb60, h⟩ := h
    refine E_getR b57 dX9_copyFrom_72 fl_X9_32 rfl hk51 hb52 g58 ?_
    obtain ⟨d61, σ62, hD63, hC64, h⟩ := h
    have hk66 := (hC64.1.2.2.1 _ hb50).trans hk49
    have hb67 := Nat.lt_of_lt_of_le hb50 hC64.1.1
    have hk68 := (hC64.1.2.2.1 _ hb52).trans hk51
    have hb69 := Nat.lt_of_lt_of_le hb52 hC64.1.1
    refine E_callV (As := [.ref b57]) (rest := []) (r1 := none) (b := b53) dX9_copyFrom_75 ok_X8_copyFrom in_X8_copyFrom se_X8_copyFrom ml_X9_60 hD63 rfl rfl (Nat.le_of_ble_eq_true rfl) hk55 hb56 (by decide) rfl (by decide +kernel) hC64 ?_
    refine E_aload_n 0 dX9_copyFrom_78 rfl rfl ?_
    obtain ⟨b70, g71, hk72, hb73, h⟩ := h
    refine E_getR b70 dX9_copyFrom_79 fl_X9_35 rfl hk66 hb67 g71 ?_
    refine E_aload_n 1 dX9_copyFrom_82 rfl rfl ?_
    obtain ⟨b74, g75, hk76, hb77, h⟩ := h
    refine E_getR b74 dX9_copyFrom_83 fl_X9_35 rfl hk68 hb69 g75 ?_
    obtain ⟨d78, σ79, hD80, hC81, h⟩ := h
    have hk83 := (hC81.1.2.2.1 _ hb67).trans hk66
    have hb84 := Nat.lt_of_lt_of_le hb67 hC81.1.1
    have hk85 := (hC81.1.2.2.1 _ hb69).trans hk68
    have hb86 := Nat.lt_of_lt_of_le hb69 hC81.1.1
    refine E_callV (As := [.ref b74]) (rest := []) (r1 := none) (b := b70) dX9_copyFrom_86 ok_X8_copyFrom in_X8_copyFrom se_X8_copyFrom ml_X9_60 hD80 rfl rfl (Nat.le_of_ble_eq_true rfl) hk72 hb73 (by decide) rfl (by decide +kernel) hC81 ?_
    refine E_aload_n 0 dX9_copyFrom_89 rfl rfl ?_
    obtain ⟨b87, g88, hk89, hb90, h⟩ := h
    refine E_getR b87 dX9_copyFrom_90 fl_X9_38 rfl hk83 hb84 g88 ?_
    refine E_aload_n 1 dX9_copyFrom_93 rfl rfl ?_
    obtain ⟨b91, g92, hk93, hb94, h⟩ := h
    refine E_getR b91 dX9_copyFrom_94 fl_X9_38 rfl hk85 hb86 g92 ?_
    obtain ⟨d95, σ96, hD97, hC98, h⟩ := h
    have hk100 := (hC98.1.2.2.1 _ hb84).trans hk83
    have hb101 := Nat.lt_of_lt_of_le hb84 hC98.1.1
    have hk102 := (hC98.1.2.2.1 _ hb86).trans hk85
    have hb103 := Nat.lt_of_lt_of_le hb86 hC98.1.1
    refine E_callV (As := [.ref b91]) (rest := []) (r1 := none) (b := b87) dX9_copyFrom_97 ok_X8_copyFrom in_X8_copyFrom se_X8_copyFrom ml_X9_60 hD97 rfl rfl (Nat.le_of_ble_eq_true rfl) hk89 hb90 (by decide) rfl (by decide +kernel) hC98 ?_
    refine E_aload_n 0 dX9_copyFrom_100 rfl rfl ?_
    obtain ⟨b104, g105, hk106, hb107, h⟩ := h
    refine E_getR b104 dX9_copyFrom_101 fl_X9_41 rfl hk100 hb101 g105 ?_
    refine E_aload_n 1 dX9_copyFrom_104 rfl rfl ?_
    obtain ⟨b108, g109, hk110, hb111, h⟩ := h
    refine E_getR b108 dX9_copyFrom_105 fl_X9_41 rfl hk102 hb103 g109 ?_
    obtain ⟨d112, σ113, hD114, hC115, h⟩ := h
    have hk117 := (hC115.1.2.2.1 _ hb101).trans hk100
    have hb118 := Nat.lt_of_lt_of_le hb101 hC115.1.1
    have hk119 := (hC115.1.2.2.1 _ hb103).trans hk102
    have hb120 := Nat.lt_of_lt_of_le hb103 hC115.1.1
    refine E_callV (As := [.ref b108]) (rest := []) (r1 := none) (b := b104) dX9_copyFrom_108 ok_X8_copyFrom in_X8_copyFrom se_X8_copyFrom ml_X9_60 hD114 rfl rfl (Nat.le_of_ble_eq_true rfl) hk106 hb107 (by decide) rfl (by decide +kernel) hC115 ?_
    refine E_aload_n 0 dX9_copyFrom_111 rfl rfl ?_
    obtain ⟨b121, g122, hk123, hb124, h⟩ := h
    refine E_getR b121 dX9_copyFrom_112 fl_X9_44 rfl hk117 hb118 g122 ?_
    refine E_aload_n 1 dX9_copyFrom_115 rfl rfl ?_
    obtain ⟨b125, g126, hk127, hb128, h⟩ := h
    refine E_getR b125 dX9_copyFrom_116 fl_X9_44 rfl hk119 hb120 g126 ?_
    obtain ⟨d129, σ130, hD131, hC132, h⟩ := h
    have hk134 := (hC132.1.2.2.1 _ hb118).trans hk117
    have hb135 := Nat.lt_of_lt_of_le hb118 hC132.1.1
    have hk136 := (hC132.1.2.2.1 _ hb120).trans hk119
    have hb137 := Nat.lt_of_lt_of_le hb120 hC132.1.1
    refine E_callV (As := [.ref b125]) (rest := []) (r1 := none) (b := b121) dX9_copyFrom_119 ok_X8_copyFrom in_X8_copyFrom se_X8_copyFrom ml_X9_60 hD131 rfl rfl (Nat.le_of_ble_eq_true rfl) hk123 hb124 (by decide) rfl (by decide +kernel) hC132 ?_
    refine E_aload_n 1 dX9_copyFrom_122 rfl rfl ?_
    obtain ⟨b138, n142, g139, hk140, hb141, h⟩ := h
    refine E_getR b138 dX9_copyFrom_123 fl_X9_47 rfl hk136 hb137 g139 ?_
    refine E_iconst (0 : Int32) dX9_copyFrom_126 (by decide) ?_
    refine E_aload_n 0 dX9_copyFrom_127 rfl rfl ?_
    obtain ⟨b143, n147, g144, hk145, hb146, h⟩ := h
    refine E_getR b143 dX9_copyFrom_128 fl_X9_47 rfl hk134 hb135 g144 ?_
    refine E_iconst (0 : Int32) dX9_copyFrom_131 (by decide) ?_
    refine E_aload_n 0 dX9_copyFrom_132 rfl rfl ?_
    obtain ⟨b148, n152, g149, hk150, hb151, h⟩ := h
    refine E_getR b148 dX9_copyFrom_133 fl_X9_47 rfl hk134 hb135 g149 ?_
    refine E_alen dX9_copyFrom_136 hk150 hb151 (by decide) (by decide) ?_
    obtain ⟨g155, g156, g157, g158, ga159, h⟩ := h
    refine E_copy2 (0) (0) ((Int32.ofNat n152).toNatClampNeg) dX9_copyFrom_137 ma_X9_64 hk140 hb141 hk145 hb146 (by decide) (by decide) g155 (by decide) (by decide) rfl g156 g157 g158 (Nat.le_of_ble_eq_true rfl) ga159 ?_
    obtain ⟨τ160, e161⟩ : ∃ τ : AH, τ = (sA σ130 b143 (va_cpy (gI σ130 b138) (gI σ130 b143) 0 0 ((Int32.ofNat n152).toNatClampNeg))) := ⟨_, rfl⟩
    replace h := h τ160 e161
    rw [← e161]
    have hk163 : kd _ x0 = (9, NO 9) := (congrFun (congrArg kd e161) _).trans hk134
    have hb164 := Nat.lt_of_lt_of_eq hb135 (congrArg nx e161).symm
    have hk165 : kd _ x1 = (9, NO 9) := (congrFun (congrArg kd e161) _).trans hk136
    have hb166 := Nat.lt_of_lt_of_eq hb137 (congrArg nx e161).symm
    refine E_aload_n 1 dX9_copyFrom_140 rfl rfl ?_
    obtain ⟨b167, n171, g168, hk169, hb170, h⟩ := h
    refine E_getR b167 dX9_copyFrom_141 fl_X9_51 rfl hk165 hb166 g168 ?_
    refine E_iconst (0 : Int32) dX9_copyFrom_144 (by decide) ?_
    refine E_aload_n 0 dX9_copyFrom_145 rfl rfl ?_
    obtain ⟨b172, n176, g173, hk174, hb175, h⟩ := h
    refine E_getR b172 dX9_copyFrom_146 fl_X9_51 rfl hk163 hb164 g173 ?_
    refine E_iconst (0 : Int32) dX9_copyFrom_149 (by decide) ?_
    refine E_aload_n 0 dX9_copyFrom_150 rfl rfl ?_
    obtain ⟨b177, n181, g178, hk179, hb180, h⟩ := h
    refine E_getR b177 dX9_copyFrom_151 fl_X9_51 rfl hk163 hb164 g178 ?_
    refine E_alen dX9_copyFrom_154 hk179 hb180 (by decide) (by decide) ?_
    obtain ⟨g184, g185, g186, g187, ga188, h⟩ := h
    refine E_copy2 (0) (0) ((Int32.ofNat n181).toNatClampNeg) dX9_copyFrom_155 ma_X9_64 hk169 hb170 hk174 hb175 (by decide) (by decide) g184 (by decide) (by decide) rfl g185 g186 g187 (Nat.le_of_ble_eq_true rfl) ga188 ?_
    obtain ⟨τ189, e190⟩ : ∃ τ : AH, τ = (sA τ160 b172 (va_cpy (gI τ160 b167) (gI τ160 b172) 0 0 ((Int32.ofNat n181).toNatClampNeg))) := ⟨_, rfl⟩
    replace h := h τ189 e190
    rw [← e190]
    have hk192 : kd _ x0 = (9, NO 9) := (congrFun (congrArg kd e190) _).trans hk163
    have hb193 := Nat.lt_of_lt_of_eq hb164 (congrArg nx e190).symm
    have hk194 : kd _ x1 = (9, NO 9) := (congrFun (congrArg kd e190) _).trans hk165
    have hb195 := Nat.lt_of_lt_of_eq hb166 (congrArg nx e190).symm
    refine E_aload_n 0 dX9_copyFrom_158 rfl rfl ?_
    refine E_aload_n 1 dX9_copyFrom_159 rfl rfl ?_
    refine E_getI dX9_copyFrom_160 fl_X9_70 rfl hk194 hb195 ?_
    obtain ⟨ga196, h⟩ := h
    refine E_putI dX9_copyFrom_163 fl_X9_70 rfl (Or.inl rfl) hk192 hb193 ga196 rfl rfl ?_
    refine E_aload_n 0 dX9_copyFrom_166 rfl rfl ?_
    refine E_aload_n 1 dX9_copyFrom_167 rfl rfl ?_
    refine E_getI dX9_copyFrom_168 fl_X9_73 rfl hk194 hb195 ?_
    obtain ⟨ga197, h⟩ := h
    refine E_putI dX9_copyFrom_171 fl_X9_73 rfl (Or.inl rfl) hk192 hb193 ga197 rfl rfl ?_
    refine E_aload_n 0 dX9_copyFrom_174 rfl rfl ?_
    refine E_aload_n 1 dX9_copyFrom_175 rfl rfl ?_
    refine E_getI dX9_copyFrom_176 fl_X9_76 rfl hk194 hb195 ?_
    obtain ⟨ga198, h⟩ := h
    refine E_putI dX9_copyFrom_179 fl_X9_76 rfl (Or.inl rfl) hk192 hb193 ga198 rfl rfl ?_
    obtain ⟨τ199, e200⟩ : ∃ τ : AH, τ = (sI (sI (sI τ189 x0 12 (gI τ189 x1 12)) x0 13 (gI (sI τ189 x0 12 (gI τ189 x1 12)) x1 13)) x0 14 (gI (sI (sI τ189 x0 12 (gI τ189 x1 12)) x0 13 (gI (sI τ189 x0 12 (gI τ189 x1 12)) x1 13)) x1 14)) := ⟨_, rfl⟩
    replace h := h τ199 e200
    rw [← e200]
    have hk202 : kd _ x0 = (9, NO 9) := (congrFun (congrArg kd e200) _).trans hk192
    have hb203 := Nat.lt_of_lt_of_eq hb193 (congrArg nx e200).symm
    have hk204 : kd _ x1 = (9, NO 9) := (congrFun (congrArg kd e200) _).trans hk194
    have hb205 := Nat.lt_of_lt_of_eq hb195 (congrArg nx e200).symm
    refine E_aload_n 0 dX9_copyFrom_182 rfl rfl ?_
    refine E_aload_n 1 dX9_copyFrom_183 rfl rfl ?_
    refine E_getI dX9_copyFrom_184 fl_X9_79 rfl hk204 hb205 ?_
    obtain ⟨ga206, h⟩ := h
    refine E_putI dX9_copyFrom_187 fl_X9_79 rfl (Or.inl rfl) hk202 hb203 ga206 rfl rfl ?_
    obtain ⟨rfl, rfl⟩ := h
    exact E_vret dX9_copyFrom_190 rfl
  · rw [if_neg c] at h
    refine E_aload_n 0 dX9_copyFrom_8 rfl rfl ?_
    obtain ⟨b207, n211, g208, hk209, hb210, h⟩ := h
    refine E_getR b207 dX9_copyFrom_9 fl_X9_13 rfl hkx0 hbx0 g208 ?_
    refine E_iload_n 2 dX9_copyFrom_12 rfl rfl ?_
    refine E_aload_n 1 dX9_copyFrom_13 rfl rfl ?_
    obtain ⟨b212, n216, g213, hk214, hb215, h⟩ := h
    refine E_getR b212 dX9_copyFrom_14 fl_X9_13 rfl hkx1 hbx1 g213 ?_
    refine E_iload_n 2 dX9_copyFrom_17 rfl rfl ?_
    obtain ⟨g221, h0, h1⟩ := h
    rcases q222 : gR σ b212 x2.toNatClampNeg with _ | b217
    · have h := h0 q222
      refine E_aaldN dX9_copyFrom_18 hk214 hb215 (Or.inl rfl) g221 q222 ?_
      obtain ⟨ga235, h⟩ := h
      obtain ⟨g233, g234, h⟩ := h
      refine E_aastN dX9_copyFrom_19 hk209 hb210 (Or.inl rfl) g233 ga235 g234 ?_
      obtain ⟨τ236, e237⟩ : ∃ τ : AH, τ = (sR σ b207 x2.toNatClampNeg none) := ⟨_, rfl⟩
      replace h := h τ236 e237
      rw [← e237]
      have hk239 : kd _ x0 = (9, NO 9) := (congrFun (congrArg kd e237) _).trans hkx0
      have hb240 := Nat.lt_of_lt_of_eq hbx0 (congrArg nx e237).symm
      have hk241 : kd _ x1 = (9, NO 9) := (congrFun (congrArg kd e237) _).trans hkx1
      have hb242 := Nat.lt_of_lt_of_eq hbx1 (congrArg nx e237).symm
      refine E_iinc 2 (x2 + 1) [(2, .int (x2 + 1)), (0, .ref x0), (1, .ref x1)] dX9_copyFrom_20 rfl (congrArg (x2 + ·) (by decide : Int32.ofInt 1 = 1)) (by decide) rfl ?_
      refine E_goto 2 dX9_copyFrom_23 (by decide) ?_
      exact E_lv [1, 2, 0] rfl h
    · obtain ⟨hk219, hb220, h⟩ := h1 b217 q222
      refine E_aald b217 dX9_copyFrom_18 hk214 hb215 (Or.inl rfl) g221 q222 ?_
      obtain ⟨ga225, h⟩ := h
      obtain ⟨g223, g224, h⟩ := h
      refine E_aast dX9_copyFrom_19 hk209 hb210 (Or.inl rfl) g223 hk219 hb220 (by decide) rfl ga225 g224 ?_
      obtain ⟨τ226, e227⟩ : ∃ τ : AH, τ = (sR σ b207 x2.toNatClampNeg (some b217)) := ⟨_, rfl⟩
      replace h := h τ226 e227
      rw [← e227]
      have hk229 : kd _ x0 = (9, NO 9) := (congrFun (congrArg kd e227) _).trans hkx0
      have hb230 := Nat.lt_of_lt_of_eq hbx0 (congrArg nx e227).symm
      have hk231 : kd _ x1 = (9, NO 9) := (congrFun (congrArg kd e227) _).trans hkx1
      have hb232 := Nat.lt_of_lt_of_eq hbx1 (congrArg nx e227).symm
      refine E_iinc 2 (x2 + 1) [(2, .int (x2 + 1)), (0, .ref x0), (1, .ref x1)] dX9_copyFrom_20 rfl (congrArg (x2 + ·) (by decide : Int32.ofInt 1 = 1)) (by decide) rfl ?_
      refine E_goto 2 dX9_copyFrom_23 (by decide) ?_
      exact E_lv [1, 2, 0] rfl h
def W_X10_init_0 (X : Sx) (l : Launch) (D : Nat) (x0 : Nat) (x1 : Nat) (x2 : Nat) (σ : AH) (r : Option Value) (σ' : AH) : Prop := kd σ x0 = (10, NO 10) ∧ x0 < nx σ ∧ kd σ x1 = (9, NO 9) ∧ x1 < nx σ ∧ 1 ≤ D ∧ al m_X10_init x0 ∧ al m_X10_init x0 ∧ al m_X10_init x0 ∧ (∀ τ4 : AH, τ4 = (aw (sI (sI (sI σ x0 2 (-1 : Int32)) x0 3 (-1 : Int32)) x0 4 (-1 : Int32)) 100 1300) → al m_X10_init x0 ∧ (Sh τ4 → Sh (sR τ4 x0 5 (some (nx (sI (sI (sI σ x0 2 (-1 : Int32)) x0 3 (-1 : Int32)) x0 4 (-1 : Int32)))))) ∧ (∀ τ15 : AH, τ15 = (sR τ4 x0 5 (some (nx (sI (sI (sI σ x0 2 (-1 : Int32)) x0 3 (-1 : Int32)) x0 4 (-1 : Int32))))) → (∀ τ22 : AH, τ22 = (aw τ15 100 1560) → al m_X10_init x0 ∧ (Sh τ22 → Sh (sR τ22 x0 6 (some (nx τ15)))) ∧ (∀ τ33 : AH, τ33 = (sR τ22 x0 6 (some (nx τ15))) → (∀ τ40 : AH, τ40 = (aw τ33 100 6) → al m_X10_init x0 ∧ (Sh τ40 → Sh (sR τ40 x0 7 (some (nx τ33)))) ∧ (∀ τ51 : AH, τ51 = (sR τ40 x0 7 (some (nx τ33))) → (∀ τ58 : AH, τ58 = (aw τ51 100 30) → al m_X10_init x0 ∧ (Sh τ58 → Sh (sR τ58 x0 8 (some (nx τ51)))) ∧ (∀ τ69 : AH, τ69 = (sR τ58 x0 8 (some (nx τ51))) → (∀ τ76 : AH, τ76 = (aw τ69 100 260) → al m_X10_init x0 ∧ (Sh τ76 → Sh (sR τ76 x0 9 (some (nx τ69)))) ∧ (∀ τ87 : AH, τ87 = (sR τ76 x0 9 (some (nx τ69))) → (∀ τ94 : AH, τ94 = (aw τ87 100 60) → al m_X10_init x0 ∧ (Sh τ94 → Sh (sR τ94 x0 10 (some (nx τ87)))) ∧ (∀ τ105 : AH, τ105 = (sR τ94 x0 10 (some (nx τ87))) → (∀ τ112 : AH, τ112 = (aw τ105 100 260) → al m_X10_init x0 ∧ (Sh τ112 → Sh (sR τ112 x0 11 (some (nx τ105)))) ∧ (∀ τ123 : AH, τ123 = (sR τ112 x0 11 (some (nx τ105))) → (∀ τ130 : AH, τ130 = (aw τ123 100 4212) → al m_X10_init x0 ∧ (Sh τ130 → Sh (sR τ130 x0 12 (some (nx τ123)))) ∧ (∀ τ141 : AH, τ141 = (sR τ130 x0 12 (some (nx τ123))) → (∀ τ148 : AH, τ148 = (aw τ141 100 702) → al m_X10_init x0 ∧ (Sh τ148 → Sh (sR τ148 x0 13 (some (nx τ141)))) ∧ (∀ τ159 : AH, τ159 = (sR τ148 x0 13 (some (nx τ141))) → al m_X10_init x0 ∧ (Sh τ159 → Sh (sR τ159 x0 0 (some x1))) ∧ (∀ τ168 : AH, τ168 = (sR τ159 x0 0 (some x1)) → al m_X10_init x0 ∧ (Sh τ168 → Sh (sR τ168 x0 1 (some x2))) ∧ (∀ τ177 : AH, τ177 = (sR τ168 x0 1 (some x2)) → (r = none ∧ σ' = τ177)))))))))))))))))))))
set_option maxRecDepth 100000 in
theorem w_X10_init_0 {X : Sx} {l : Launch} {D : Nat} {x0 : Nat} {x1 : Nat} {x2 : Nat} {σ : AH} {r : Option Value} {σ' : AH} (h : W_X10_init_0 X l D x0 x1 x2 σ r σ') : E X l m_X10_init D 0 [(0, .ref x0), (1, .ref x1), (2, .ref x2)] [] σ r σ' := by
  unfold W_X10_init_0 at h
  obtain ⟨hkx0, hbx0, h⟩ := h
  obtain ⟨hkx1, hbx1, h⟩ := h
  refine E_aload_n 0 dX10_init_0 rfl rfl ?_
  obtain ⟨g184, h⟩ := h
  refine E_objInit dX10_init_1 mo_X10_3 g184 (Nat.le_of_ble_eq_true rfl) ?_
  refine E_aload_n 0 dX10_init_4 rfl rfl ?_
  refine E_iconst (-1 : Int32) dX10_init_5 (by decide) ?_
  obtain ⟨ga1, h⟩ := h
  refine E_putI dX10_init_6 fl_X10_9 rfl (Or.inl rfl) hkx0 hbx0 ga1 rfl rfl ?_
  refine E_aload_n 0 dX10_init_9 rfl rfl ?_
  refine E_iconst (-1 : Int32) dX10_init_10 (by decide) ?_
  obtain ⟨ga2, h⟩ := h
  refine E_putI dX10_init_11 fl_X10_15 rfl (Or.inl rfl) hkx0 hbx0 ga2 rfl rfl ?_
  refine E_aload_n 0 dX10_init_14 rfl rfl ?_
  refine E_iconst (-1 : Int32) dX10_init_15 (by decide) ?_
  obtain ⟨ga3, h⟩ := h
  refine E_putI dX10_init_16 fl_X10_18 rfl (Or.inl rfl) hkx0 hbx0 ga3 rfl rfl ?_
  refine E_aload_n 0 dX10_init_19 rfl rfl ?_
  refine E_sipush (1300 : Int32) dX10_init_20 (by decide) ?_
  refine E_newaI 1300 dX10_init_23 ac_int (by decide) (by decide) (by decide) ?_
  obtain ⟨τ4, e5⟩ : ∃ τ : AH, τ = (aw (sI (sI (sI σ x0 2 (-1 : Int32)) x0 3 (-1 : Int32)) x0 4 (-1 : Int32)) 100 1300) := ⟨_, rfl⟩
  replace h := h τ4 e5
  rw [← e5]
  have hk7 : kd _ x0 = (10, NO 10) := (congrFun (congrArg kd e5) _).trans ((up_ne _ _ _ (Nat.ne_of_lt hbx0)).trans hkx0)
  have hb8 := Nat.lt_of_lt_of_eq (Nat.lt_succ_of_lt hbx0) (congrArg nx e5).symm
  have hk9 : kd _ x1 = (9, NO 9) := (congrFun (congrArg kd e5) _).trans ((up_ne _ _ _ (Nat.ne_of_lt hbx1)).trans hkx1)
  have hb10 := Nat.lt_of_lt_of_eq (Nat.lt_succ_of_lt hbx1) (congrArg nx e5).symm
  have hk11 : kd _ (nx (sI (sI (sI σ x0 2 (-1 : Int32)) x0 3 (-1 : Int32)) x0 4 (-1 : Int32))) = (100, 1300) := (congrFun (congrArg kd e5) _).trans (up_same _ _ _)
  have hb12 := Nat.lt_of_lt_of_eq (Nat.lt_succ_self _) (congrArg nx e5).symm
  obtain ⟨ga13, h⟩ := h
  obtain ⟨g14, h⟩ := h
  refine E_putR dX10_init_25 fl_X10_21 rfl (Or.inr ⟨rfl, rfl, rfl⟩) hk7 hb8 ga13 g14 ?_
  obtain ⟨τ15, e16⟩ : ∃ τ : AH, τ = (sR τ4 x0 5 (some (nx (sI (sI (sI σ x0 2 (-1 : Int32)) x0 3 (-1 : Int32)) x0 4 (-1 : Int32))))) := ⟨_, rfl⟩
  replace h := h τ15 e16
  rw [← e16]
  have hk18 : kd _ x0 = (10, NO 10) := (congrFun (congrArg kd e16) _).trans hk7
  have hb19 := Nat.lt_of_lt_of_eq hb8 (congrArg nx e16).symm
  have hk20 : kd _ x1 = (9, NO 9) := (congrFun (congrArg kd e16) _).trans hk9
  have hb21 := Nat.lt_of_lt_of_eq hb10 (congrArg nx e16).symm
  refine E_aload_n 0 dX10_init_28 rfl rfl ?_
  refine E_sipush (1560 : Int32) dX10_init_29 (by decide) ?_
  refine E_newaI 1560 dX10_init_32 ac_int (by decide) (by decide) (by decide) ?_
  obtain ⟨τ22, e23⟩ : ∃ τ : AH, τ = (aw τ15 100 1560) := ⟨_, rfl⟩
  replace h := h τ22 e23
  rw [← e23]
  have hk25 : kd _ x0 = (10, NO 10) := (congrFun (congrArg kd e23) _).trans ((up_ne _ _ _ (Nat.ne_of_lt hb19)).trans hk18)
  have hb26 := Nat.lt_of_lt_of_eq (Nat.lt_succ_of_lt hb19) (congrArg nx e23).symm
  have hk27 : kd _ x1 = (9, NO 9) := (congrFun (congrArg kd e23) _).trans ((up_ne _ _ _ (Nat.ne_of_lt hb21)).trans hk20)
  have hb28 := Nat.lt_of_lt_of_eq (Nat.lt_succ_of_lt hb21) (congrArg nx e23).symm
  have hk29 : kd _ (nx τ15) = (100, 1560) := (congrFun (congrArg kd e23) _).trans (up_same _ _ _)
  have hb30 := Nat.lt_of_lt_of_eq (Nat.lt_succ_self _) (congrArg nx e23).symm
  obtain ⟨ga31, h⟩ := h
  obtain ⟨g32, h⟩ := h
  refine E_putR dX10_init_34 fl_X10_25 rfl (Or.inr ⟨rfl, rfl, rfl⟩) hk25 hb26 ga31 g32 ?_
  obtain ⟨τ33, e34⟩ : ∃ τ : AH, τ = (sR τ22 x0 6 (some (nx τ15))) := ⟨_, rfl⟩
  replace h := h τ33 e34
  rw [← e34]
  have hk36 : kd _ x0 = (10, NO 10) := (congrFun (congrArg kd e34) _).trans hk25
  have hb37 := Nat.lt_of_lt_of_eq hb26 (congrArg nx e34).symm
  have hk38 : kd _ x1 = (9, NO 9) := (congrFun (congrArg kd e34) _).trans hk27
  have hb39 := Nat.lt_of_lt_of_eq hb28 (congrArg nx e34).symm
  refine E_aload_n 0 dX10_init_37 rfl rfl ?_
  refine E_bipush (6 : Int32) dX10_init_38 (by decide) ?_
  refine E_newaI 6 dX10_init_40 ac_int (by decide) (by decide) (by decide) ?_
  obtain ⟨τ40, e41⟩ : ∃ τ : AH, τ = (aw τ33 100 6) := ⟨_, rfl⟩
  replace h := h τ40 e41
  rw [← e41]
  have hk43 : kd _ x0 = (10, NO 10) := (congrFun (congrArg kd e41) _).trans ((up_ne _ _ _ (Nat.ne_of_lt hb37)).trans hk36)
  have hb44 := Nat.lt_of_lt_of_eq (Nat.lt_succ_of_lt hb37) (congrArg nx e41).symm
  have hk45 : kd _ x1 = (9, NO 9) := (congrFun (congrArg kd e41) _).trans ((up_ne _ _ _ (Nat.ne_of_lt hb39)).trans hk38)
  have hb46 := Nat.lt_of_lt_of_eq (Nat.lt_succ_of_lt hb39) (congrArg nx e41).symm
  have hk47 : kd _ (nx τ33) = (100, 6) := (congrFun (congrArg kd e41) _).trans (up_same _ _ _)
  have hb48 := Nat.lt_of_lt_of_eq (Nat.lt_succ_self _) (congrArg nx e41).symm
  obtain ⟨ga49, h⟩ := h
  obtain ⟨g50, h⟩ := h
  refine E_putR dX10_init_42 fl_X10_28 rfl (Or.inr ⟨rfl, rfl, rfl⟩) hk43 hb44 ga49 g50 ?_
  obtain ⟨τ51, e52⟩ : ∃ τ : AH, τ = (sR τ40 x0 7 (some (nx τ33))) := ⟨_, rfl⟩
  replace h := h τ51 e52
  rw [← e52]
  have hk54 : kd _ x0 = (10, NO 10) := (congrFun (congrArg kd e52) _).trans hk43
  have hb55 := Nat.lt_of_lt_of_eq hb44 (congrArg nx e52).symm
  have hk56 : kd _ x1 = (9, NO 9) := (congrFun (congrArg kd e52) _).trans hk45
  have hb57 := Nat.lt_of_lt_of_eq hb46 (congrArg nx e52).symm
  refine E_aload_n 0 dX10_init_45 rfl rfl ?_
  refine E_bipush (30 : Int32) dX10_init_46 (by decide) ?_
  refine E_newaI 30 dX10_init_48 ac_int (by decide) (by decide) (by decide) ?_
  obtain ⟨τ58, e59⟩ : ∃ τ : AH, τ = (aw τ51 100 30) := ⟨_, rfl⟩
  replace h := h τ58 e59
  rw [← e59]
  have hk61 : kd _ x0 = (10, NO 10) := (congrFun (congrArg kd e59) _).trans ((up_ne _ _ _ (Nat.ne_of_lt hb55)).trans hk54)
  have hb62 := Nat.lt_of_lt_of_eq (Nat.lt_succ_of_lt hb55) (congrArg nx e59).symm
  have hk63 : kd _ x1 = (9, NO 9) := (congrFun (congrArg kd e59) _).trans ((up_ne _ _ _ (Nat.ne_of_lt hb57)).trans hk56)
  have hb64 := Nat.lt_of_lt_of_eq (Nat.lt_succ_of_lt hb57) (congrArg nx e59).symm
  have hk65 : kd _ (nx τ51) = (100, 30) := (congrFun (congrArg kd e59) _).trans (up_same _ _ _)
  have hb66 := Nat.lt_of_lt_of_eq (Nat.lt_succ_self _) (congrArg nx e59).symm
  obtain ⟨ga67, h⟩ := h
  obtain ⟨g68, h⟩ := h
  refine E_putR dX10_init_50 fl_X10_31 rfl (Or.inr ⟨rfl, rfl, rfl⟩) hk61 hb62 ga67 g68 ?_
  obtain ⟨τ69, e70⟩ : ∃ τ : AH, τ = (sR τ58 x0 8 (some (nx τ51))) := ⟨_, rfl⟩
  replace h := h τ69 e70
  rw [← e70]
  have hk72 : kd _ x0 = (10, NO 10) := (congrFun (congrArg kd e70) _).trans hk61
  have hb73 := Nat.lt_of_lt_of_eq hb62 (congrArg nx e70).symm
  have hk74 : kd _ x1 = (9, NO 9) := (congrFun (congrArg kd e70) _).trans hk63
  have hb75 := Nat.lt_of_lt_of_eq hb64 (congrArg nx e70).symm
  refine E_aload_n 0 dX10_init_53 rfl rfl ?_
  refine E_sipush (260 : Int32) dX10_init_54 (by decide) ?_
  refine E_newaI 260 dX10_init_57 ac_int (by decide) (by decide) (by decide) ?_
  obtain ⟨τ76, e77⟩ : ∃ τ : AH, τ = (aw τ69 100 260) := ⟨_, rfl⟩
  replace h := h τ76 e77
  rw [← e77]
  have hk79 : kd _ x0 = (10, NO 10) := (congrFun (congrArg kd e77) _).trans ((up_ne _ _ _ (Nat.ne_of_lt hb73)).trans hk72)
  have hb80 := Nat.lt_of_lt_of_eq (Nat.lt_succ_of_lt hb73) (congrArg nx e77).symm
  have hk81 : kd _ x1 = (9, NO 9) := (congrFun (congrArg kd e77) _).trans ((up_ne _ _ _ (Nat.ne_of_lt hb75)).trans hk74)
  have hb82 := Nat.lt_of_lt_of_eq (Nat.lt_succ_of_lt hb75) (congrArg nx e77).symm
  have hk83 : kd _ (nx τ69) = (100, 260) := (congrFun (congrArg kd e77) _).trans (up_same _ _ _)
  have hb84 := Nat.lt_of_lt_of_eq (Nat.lt_succ_self _) (congrArg nx e77).symm
  obtain ⟨ga85, h⟩ := h
  obtain ⟨g86, h⟩ := h
  refine E_putR dX10_init_59 fl_X10_34 rfl (Or.inr ⟨rfl, rfl, rfl⟩) hk79 hb80 ga85 g86 ?_
  obtain ⟨τ87, e88⟩ : ∃ τ : AH, τ = (sR τ76 x0 9 (some (nx τ69))) := ⟨_, rfl⟩
  replace h := h τ87 e88
  rw [← e88]
  have hk90 : kd _ x0 = (10, NO 10) := (congrFun (congrArg kd e88) _).trans hk79
  have hb91 := Nat.lt_of_lt_of_eq hb80 (congrArg nx e88).symm
  have hk92 : kd _ x1 = (9, NO 9) := (congrFun (congrArg kd e88) _).trans hk81
  have hb93 := Nat.lt_of_lt_of_eq hb82 (congrArg nx e88).symm
  refine E_aload_n 0 dX10_init_62 rfl rfl ?_
  refine E_bipush (60 : Int32) dX10_init_63 (by decide) ?_
  refine E_newaI 60 dX10_init_65 ac_int (by decide) (by decide) (by decide) ?_
  obtain ⟨τ94, e95⟩ : ∃ τ : AH, τ = (aw τ87 100 60) := ⟨_, rfl⟩
  replace h := h τ94 e95
  rw [← e95]
  have hk97 : kd _ x0 = (10, NO 10) := (congrFun (congrArg kd e95) _).trans ((up_ne _ _ _ (Nat.ne_of_lt hb91)).trans hk90)
  have hb98 := Nat.lt_of_lt_of_eq (Nat.lt_succ_of_lt hb91) (congrArg nx e95).symm
  have hk99 : kd _ x1 = (9, NO 9) := (congrFun (congrArg kd e95) _).trans ((up_ne _ _ _ (Nat.ne_of_lt hb93)).trans hk92)
  have hb100 := Nat.lt_of_lt_of_eq (Nat.lt_succ_of_lt hb93) (congrArg nx e95).symm
  have hk101 : kd _ (nx τ87) = (100, 60) := (congrFun (congrArg kd e95) _).trans (up_same _ _ _)
  have hb102 := Nat.lt_of_lt_of_eq (Nat.lt_succ_self _) (congrArg nx e95).symm
  obtain ⟨ga103, h⟩ := h
  obtain ⟨g104, h⟩ := h
  refine E_putR dX10_init_67 fl_X10_37 rfl (Or.inr ⟨rfl, rfl, rfl⟩) hk97 hb98 ga103 g104 ?_
  obtain ⟨τ105, e106⟩ : ∃ τ : AH, τ = (sR τ94 x0 10 (some (nx τ87))) := ⟨_, rfl⟩
  replace h := h τ105 e106
  rw [← e106]
  have hk108 : kd _ x0 = (10, NO 10) := (congrFun (congrArg kd e106) _).trans hk97
  have hb109 := Nat.lt_of_lt_of_eq hb98 (congrArg nx e106).symm
  have hk110 : kd _ x1 = (9, NO 9) := (congrFun (congrArg kd e106) _).trans hk99
  have hb111 := Nat.lt_of_lt_of_eq hb100 (congrArg nx e106).symm
  refine E_aload_n 0 dX10_init_70 rfl rfl ?_
  refine E_sipush (260 : Int32) dX10_init_71 (by decide) ?_
  refine E_newaI 260 dX10_init_74 ac_int (by decide) (by decide) (by decide) ?_
  obtain ⟨τ112, e113⟩ : ∃ τ : AH, τ = (aw τ105 100 260) := ⟨_, rfl⟩
  replace h := h τ112 e113
  rw [← e113]
  have hk115 : kd _ x0 = (10, NO 10) := (congrFun (congrArg kd e113) _).trans ((up_ne _ _ _ (Nat.ne_of_lt hb109)).trans hk108)
  have hb116 := Nat.lt_of_lt_of_eq (Nat.lt_succ_of_lt hb109) (congrArg nx e113).symm
  have hk117 : kd _ x1 = (9, NO 9) := (congrFun (congrArg kd e113) _).trans ((up_ne _ _ _ (Nat.ne_of_lt hb111)).trans hk110)
  have hb118 := Nat.lt_of_lt_of_eq (Nat.lt_succ_of_lt hb111) (congrArg nx e113).symm
  have hk119 : kd _ (nx τ105) = (100, 260) := (congrFun (congrArg kd e113) _).trans (up_same _ _ _)
  have hb120 := Nat.lt_of_lt_of_eq (Nat.lt_succ_self _) (congrArg nx e113).symm
  obtain ⟨ga121, h⟩ := h
  obtain ⟨g122, h⟩ := h
  refine E_putR dX10_init_76 fl_X10_40 rfl (Or.inr ⟨rfl, rfl, rfl⟩) hk115 hb116 ga121 g122 ?_
  obtain ⟨τ123, e124⟩ : ∃ τ : AH, τ = (sR τ112 x0 11 (some (nx τ105))) := ⟨_, rfl⟩
  replace h := h τ123 e124
  rw [← e124]
  have hk126 : kd _ x0 = (10, NO 10) := (congrFun (congrArg kd e124) _).trans hk115
  have hb127 := Nat.lt_of_lt_of_eq hb116 (congrArg nx e124).symm
  have hk128 : kd _ x1 = (9, NO 9) := (congrFun (congrArg kd e124) _).trans hk117
  have hb129 := Nat.lt_of_lt_of_eq hb118 (congrArg nx e124).symm
  refine E_aload_n 0 dX10_init_79 rfl rfl ?_
  refine E_sipush (4212 : Int32) dX10_init_80 (by decide) ?_
  refine E_newaI 4212 dX10_init_83 ac_int (by decide) (by decide) (by decide) ?_
  obtain ⟨τ130, e131⟩ : ∃ τ : AH, τ = (aw τ123 100 4212) := ⟨_, rfl⟩
  replace h := h τ130 e131
  rw [← e131]
  have hk133 : kd _ x0 = (10, NO 10) := (congrFun (congrArg kd e131) _).trans ((up_ne _ _ _ (Nat.ne_of_lt hb127)).trans hk126)
  have hb134 := Nat.lt_of_lt_of_eq (Nat.lt_succ_of_lt hb127) (congrArg nx e131).symm
  have hk135 : kd _ x1 = (9, NO 9) := (congrFun (congrArg kd e131) _).trans ((up_ne _ _ _ (Nat.ne_of_lt hb129)).trans hk128)
  have hb136 := Nat.lt_of_lt_of_eq (Nat.lt_succ_of_lt hb129) (congrArg nx e131).symm
  have hk137 : kd _ (nx τ123) = (100, 4212) := (congrFun (congrArg kd e131) _).trans (up_same _ _ _)
  have hb138 := Nat.lt_of_lt_of_eq (Nat.lt_succ_self _) (congrArg nx e131).symm
  obtain ⟨ga139, h⟩ := h
  obtain ⟨g140, h⟩ := h
  refine E_putR dX10_init_85 fl_X10_43 rfl (Or.inr ⟨rfl, rfl, rfl⟩) hk133 hb134 ga139 g140 ?_
  obtain ⟨τ141, e142⟩ : ∃ τ : AH, τ = (sR τ130 x0 12 (some (nx τ123))) := ⟨_, rfl⟩
  replace h := h τ141 e142
  rw [← e142]
  have hk144 : kd _ x0 = (10, NO 10) := (congrFun (congrArg kd e142) _).trans hk133
  have hb145 := Nat.lt_of_lt_of_eq hb134 (congrArg nx e142).symm
  have hk146 : kd _ x1 = (9, NO 9) := (congrFun (congrArg kd e142) _).trans hk135
  have hb147 := Nat.lt_of_lt_of_eq hb136 (congrArg nx e142).symm
  refine E_aload_n 0 dX10_init_88 rfl rfl ?_
  refine E_sipush (702 : Int32) dX10_init_89 (by decide) ?_
  refine E_newaI 702 dX10_init_92 ac_int (by decide) (by decide) (by decide) ?_
  obtain ⟨τ148, e149⟩ : ∃ τ : AH, τ = (aw τ141 100 702) := ⟨_, rfl⟩
  replace h := h τ148 e149
  rw [← e149]
  have hk151 : kd _ x0 = (10, NO 10) := (congrFun (congrArg kd e149) _).trans ((up_ne _ _ _ (Nat.ne_of_lt hb145)).trans hk144)
  have hb152 := Nat.lt_of_lt_of_eq (Nat.lt_succ_of_lt hb145) (congrArg nx e149).symm
  have hk153 : kd _ x1 = (9, NO 9) := (congrFun (congrArg kd e149) _).trans ((up_ne _ _ _ (Nat.ne_of_lt hb147)).trans hk146)
  have hb154 := Nat.lt_of_lt_of_eq (Nat.lt_succ_of_lt hb147) (congrArg nx e149).symm
  have hk155 : kd _ (nx τ141) = (100, 702) := (congrFun (congrArg kd e149) _).trans (up_same _ _ _)
  have hb156 := Nat.lt_of_lt_of_eq (Nat.lt_succ_self _) (congrArg nx e149).symm
  obtain ⟨ga157, h⟩ := h
  obtain ⟨g158, h⟩ := h
  refine E_putR dX10_init_94 fl_X10_46 rfl (Or.inr ⟨rfl, rfl, rfl⟩) hk151 hb152 ga157 g158 ?_
  obtain ⟨τ159, e160⟩ : ∃ τ : AH, τ = (sR τ148 x0 13 (some (nx τ141))) := ⟨_, rfl⟩
  replace h := h τ159 e160
  rw [← e160]
  have hk162 : kd _ x0 = (10, NO 10) := (congrFun (congrArg kd e160) _).trans hk151
  have hb163 := Nat.lt_of_lt_of_eq hb152 (congrArg nx e160).symm
  have hk164 : kd _ x1 = (9, NO 9) := (congrFun (congrArg kd e160) _).trans hk153
  have hb165 := Nat.lt_of_lt_of_eq hb154 (congrArg nx e160).symm
  refine E_aload_n 0 dX10_init_97 rfl rfl ?_
  refine E_aload_n 1 dX10_init_98 rfl rfl ?_
  obtain ⟨ga166, h⟩ := h
  obtain ⟨g167, h⟩ := h
  refine E_putR dX10_init_99 fl_X10_49 rfl (Or.inr ⟨rfl, rfl, rfl⟩) hk162 hb163 ga166 g167 ?_
  obtain ⟨τ168, e169⟩ : ∃ τ : AH, τ = (sR τ159 x0 0 (some x1)) := ⟨_, rfl⟩
  replace h := h τ168 e169
  rw [← e169]
  have hk171 : kd _ x0 = (10, NO 10) := (congrFun (congrArg kd e169) _).trans hk162
  have hb172 := Nat.lt_of_lt_of_eq hb163 (congrArg nx e169).symm
  have hk173 : kd _ x1 = (9, NO 9) := (congrFun (congrArg kd e169) _).trans hk164
  have hb174 := Nat.lt_of_lt_of_eq hb165 (congrArg nx e169).symm
  refine E_aload_n 0 dX10_init_102 rfl rfl ?_
  refine E_aload_n 2 dX10_init_103 rfl rfl ?_
  obtain ⟨ga175, h⟩ := h
  obtain ⟨g176, h⟩ := h
  refine E_putR dX10_init_104 fl_X10_53 rfl (Or.inr ⟨rfl, rfl, rfl⟩) hk171 hb172 ga175 g176 ?_
  obtain ⟨τ177, e178⟩ : ∃ τ : AH, τ = (sR τ168 x0 1 (some x2)) := ⟨_, rfl⟩
  replace h := h τ177 e178
  rw [← e178]
  have hk180 : kd _ x0 = (10, NO 10) := (congrFun (congrArg kd e178) _).trans hk171
  have hb181 := Nat.lt_of_lt_of_eq hb172 (congrArg nx e178).symm
  have hk182 : kd _ x1 = (9, NO 9) := (congrFun (congrArg kd e178) _).trans hk173
  have hb183 := Nat.lt_of_lt_of_eq hb174 (congrArg nx e178).symm
  obtain ⟨rfl, rfl⟩ := h
  exact E_vret dX10_init_107 rfl
def W_X10_prepare_25 (X : Sx) (l : Launch) (D : Nat) (x1 : Int32) (x2 : Int32) (x3 : Int32) (σ : AH) (r : Option Value) (σ' : AH) : Prop := 1 ≤ D ∧ (∀ τ2 : AH, τ2 = (sA (sI (sI (sI σ 34 2 x1) 34 3 x2) 34 4 x3) 40 (filln (gI (sI (sI (sI σ 34 2 x1) 34 3 x2) 34 4 x3) 40) 60 (-2 : Int32))) → 1 ≤ D ∧ (∀ τ6 : AH, τ6 = (sA τ2 41 (filln (gI τ2 41) 260 (-2 : Int32))) → 1 ≤ D ∧ (∀ τ10 : AH, τ10 = (sA τ6 43 (filln (gI τ6 43) 702 (-1 : Int32))) → ∃ d13 : Nat, ∃ σ14 : AH, d13 + 1 ≤ D ∧ Call X l m_X10_bringDeliveries d13 [.ref 34] τ10 none σ14 ∧ ∃ d18 : Nat, ∃ σ19 : AH, d18 + 1 ≤ D ∧ Call X l m_X10_bringGangs d18 [.ref 34] σ14 none σ19 ∧ ∃ d23 : Nat, ∃ σ24 : AH, d23 + 1 ≤ D ∧ Call X l m_X10_bringStarts d23 [.ref 34] σ19 none σ24 ∧ (r = none ∧ σ' = σ24))))
set_option maxRecDepth 100000 in
theorem w_X10_prepare_25 {X : Sx} {l : Launch} {D : Nat} {x1 : Int32} {x2 : Int32} {x3 : Int32} {σ : AH} {r : Option Value} {σ' : AH} (hs : Sh σ) (h : W_X10_prepare_25 X l D x1 x2 x3 σ r σ') : E X l m_X10_prepare D 25 [(0, .ref 34), (1, .int x1), (2, .int x2), (3, .int x3)] [] σ r σ' := by
  unfold W_X10_prepare_25 at h
  refine E_aload_n 0 dX10_prepare_25 rfl rfl ?_
  refine E_iload_n 1 dX10_prepare_26 rfl rfl ?_
  refine E_putI dX10_prepare_27 fl_X10_9 rfl (Or.inl rfl) (sk_34 hs) (sn hs (by decide)) (Or.inl (by decide)) rfl rfl ?_
  refine E_aload_n 0 dX10_prepare_30 rfl rfl ?_
  refine E_iload_n 2 dX10_prepare_31 rfl rfl ?_
  refine E_putI dX10_prepare_32 fl_X10_15 rfl (Or.inl rfl) (sk_34 hs) (sn hs (by decide)) (Or.inl (by decide)) rfl rfl ?_
  refine E_aload_n 0 dX10_prepare_35 rfl rfl ?_
  refine E_iload_n 3 dX10_prepare_36 rfl rfl ?_
  refine E_putI dX10_prepare_37 fl_X10_18 rfl (Or.inl rfl) (sk_34 hs) (sn hs (by decide)) (Or.inl (by decide)) rfl rfl ?_
  refine E_aload_n 0 dX10_prepare_40 rfl rfl ?_
  refine E_getR 40 dX10_prepare_41 fl_X10_37 rfl (sk_34 hs) (sn hs (by decide)) (sr_34_10 hs) ?_
  refine E_bipush (-2 : Int32) dX10_prepare_44 (by decide) ?_
  obtain ⟨g1, h⟩ := h
  refine E_fill dX10_prepare_46 ml_X10_57 (sk_40 hs) (sn hs (by decide)) (Or.inl (by decide)) g1 (by decide) (Nat.le_of_ble_eq_true rfl) ?_
  obtain ⟨τ2, e3⟩ : ∃ τ : AH, τ = (sA (sI (sI (sI σ 34 2 x1) 34 3 x2) 34 4 x3) 40 (filln (gI (sI (sI (sI σ 34 2 x1) 34 3 x2) 34 4 x3) 40) 60 (-2 : Int32))) := ⟨_, rfl⟩
  replace h := h τ2 e3
  rw [← e3]
  have hs4 : Sh τ2 := by rw [e3]; exact hs
  refine E_aload_n 0 dX10_prepare_49 rfl rfl ?_
  refine E_getR 41 dX10_prepare_50 fl_X10_40 rfl (sk_34 hs4) (sn hs4 (by decide)) (sr_34_11 hs4) ?_
  refine E_bipush (-2 : Int32) dX10_prepare_53 (by decide) ?_
  obtain ⟨g5, h⟩ := h
  refine E_fill dX10_prepare_55 ml_X10_57 (sk_41 hs4) (sn hs4 (by decide)) (Or.inl (by decide)) g5 (by decide) (Nat.le_of_ble_eq_true rfl) ?_
  obtain ⟨τ6, e7⟩ : ∃ τ : AH, τ = (sA τ2 41 (filln (gI τ2 41) 260 (-2 : Int32))) := ⟨_, rfl⟩
  replace h := h τ6 e7
  rw [← e7]
  have hs8 : Sh τ6 := by rw [e7]; exact hs4
  refine E_aload_n 0 dX10_prepare_58 rfl rfl ?_
  refine E_getR 43 dX10_prepare_59 fl_X10_46 rfl (sk_34 hs8) (sn hs8 (by decide)) (sr_34_13 hs8) ?_
  refine E_iconst (-1 : Int32) dX10_prepare_62 (by decide) ?_
  obtain ⟨g9, h⟩ := h
  refine E_fill dX10_prepare_63 ml_X10_57 (sk_43 hs8) (sn hs8 (by decide)) (Or.inl (by decide)) g9 (by decide) (Nat.le_of_ble_eq_true rfl) ?_
  obtain ⟨τ10, e11⟩ : ∃ τ : AH, τ = (sA τ6 43 (filln (gI τ6 43) 702 (-1 : Int32))) := ⟨_, rfl⟩
  replace h := h τ10 e11
  rw [← e11]
  have hs12 : Sh τ10 := by rw [e11]; exact hs8
  refine E_aload_n 0 dX10_prepare_66 rfl rfl ?_
  obtain ⟨d13, σ14, hD15, hC16, h⟩ := h
  have hs17 := hC16.1.2.2.2.1 hs12
  refine E_callV (As := []) (rest := []) (r1 := none) (b := 34) dX10_prepare_67 ok_X10_bringDeliveries in_X10_bringDeliveries se_X10_bringDeliveries ml_X10_63 hD15 rfl rfl (Nat.le_of_ble_eq_true rfl) (sk_34 hs12) (sn hs12 (by decide)) (by decide) rfl (by decide +kernel) hC16 ?_
  refine E_aload_n 0 dX10_prepare_70 rfl rfl ?_
  obtain ⟨d18, σ19, hD20, hC21, h⟩ := h
  have hs22 := hC21.1.2.2.2.1 hs17
  refine E_callV (As := []) (rest := []) (r1 := none) (b := 34) dX10_prepare_71 ok_X10_bringGangs in_X10_bringGangs se_X10_bringGangs ml_X10_66 hD20 rfl rfl (Nat.le_of_ble_eq_true rfl) (sk_34 hs17) (sn hs17 (by decide)) (by decide) rfl (by decide +kernel) hC21 ?_
  refine E_aload_n 0 dX10_prepare_74 rfl rfl ?_
  obtain ⟨d23, σ24, hD25, hC26, h⟩ := h
  have hs27 := hC26.1.2.2.2.1 hs22
  refine E_callV (As := []) (rest := []) (r1 := none) (b := 34) dX10_prepare_75 ok_X10_bringStarts in_X10_bringStarts se_X10_bringStarts ml_X10_69 hD25 rfl rfl (Nat.le_of_ble_eq_true rfl) (sk_34 hs22) (sn hs22 (by decide)) (by decide) rfl (by decide +kernel) hC26 ?_
  obtain ⟨rfl, rfl⟩ := h
  exact E_vret dX10_prepare_78 rfl
def W_X10_prepare_0 (X : Sx) (l : Launch) (D : Nat) (x1 : Int32) (x2 : Int32) (x3 : Int32) (σ : AH) (r : Option Value) (σ' : AH) : Prop := (if (gI σ 34 2) = x1 then (if (gI σ 34 3) = x2 then (if (gI σ 34 4) = x3 then (r = none ∧ σ' = σ) else W_X10_prepare_25 X l D x1 x2 x3 σ r σ') else W_X10_prepare_25 X l D x1 x2 x3 σ r σ') else W_X10_prepare_25 X l D x1 x2 x3 σ r σ')
set_option maxRecDepth 100000 in
theorem w_X10_prepare_0 {X : Sx} {l : Launch} {D : Nat} {x1 : Int32} {x2 : Int32} {x3 : Int32} {σ : AH} {r : Option Value} {σ' : AH} (hs : Sh σ) (h : W_X10_prepare_0 X l D x1 x2 x3 σ r σ') : E X l m_X10_prepare D 0 [(0, .ref 34), (1, .int x1), (2, .int x2), (3, .int x3)] [] σ r σ' := by
  unfold W_X10_prepare_0 at h
  refine E_aload_n 0 dX10_prepare_0 rfl rfl ?_
  refine E_getI dX10_prepare_1 fl_X10_9 rfl (sk_34 hs) (sn hs (by decide)) ?_
  refine E_iload_n 1 dX10_prepare_4 rfl rfl ?_
  refine E_icmp_ne 25 dX10_prepare_5 (by decide) (fun c => ?_) (fun c => ?_)
  · rw [if_neg c] at h
    exact E_lv [0, 1, 2, 3] rfl (w_X10_prepare_25 hs h)
  · rw [if_pos c] at h
    refine E_aload_n 0 dX10_prepare_8 rfl rfl ?_
    refine E_getI dX10_prepare_9 fl_X10_15 rfl (sk_34 hs) (sn hs (by decide)) ?_
    refine E_iload_n 2 dX10_prepare_12 rfl rfl ?_
    refine E_icmp_ne 25 dX10_prepare_13 (by decide) (fun c => ?_) (fun c => ?_)
    · rw [if_neg c] at h
      exact E_lv [0, 1, 2, 3] rfl (w_X10_prepare_25 hs h)
    · rw [if_pos c] at h
      refine E_aload_n 0 dX10_prepare_16 rfl rfl ?_
      refine E_getI dX10_prepare_17 fl_X10_18 rfl (sk_34 hs) (sn hs (by decide)) ?_
      refine E_iload_n 3 dX10_prepare_20 rfl rfl ?_
      refine E_icmp_ne 25 dX10_prepare_21 (by decide) (fun c => ?_) (fun c => ?_)
      · rw [if_neg c] at h
        exact E_lv [0, 1, 2, 3] rfl (w_X10_prepare_25 hs h)
      · rw [if_pos c] at h
        obtain ⟨rfl, rfl⟩ := h
        exact E_vret dX10_prepare_24 rfl
def W_X10_bringDeliveries_0 (X : Sx) (l : Launch) (D : Nat) (σ : AH) (r : Option Value) (σ' : AH) : Prop := 1 ≤ D ∧ (∀ τ2 : AH, τ2 = (sA σ 35 (filln (gI σ 35) 1300 (0 : Int32))) → E X l m_X10_bringDeliveries D 10 [(0, .ref 34), (1, .int (0 : Int32))] [] τ2 r σ')
set_option maxRecDepth 100000 in
theorem w_X10_bringDeliveries_0 {X : Sx} {l : Launch} {D : Nat} {σ : AH} {r : Option Value} {σ' : AH} (hs : Sh σ) (h : W_X10_bringDeliveries_0 X l D σ r σ') : E X l m_X10_bringDeliveries D 0 [(0, .ref 34)] [] σ r σ' := by
  unfold W_X10_bringDeliveries_0 at h
  refine E_aload_n 0 dX10_bringDeliveries_0 rfl rfl ?_
  refine E_getR 35 dX10_bringDeliveries_1 fl_X10_21 rfl (sk_34 hs) (sn hs (by decide)) (sr_34_5 hs) ?_
  refine E_iconst (0 : Int32) dX10_bringDeliveries_4 (by decide) ?_
  obtain ⟨g1, h⟩ := h
  refine E_fill dX10_bringDeliveries_5 ml_X10_57 (sk_35 hs) (sn hs (by decide)) (Or.inl (by decide)) g1 (by decide) (Nat.le_of_ble_eq_true rfl) ?_
  obtain ⟨τ2, e3⟩ : ∃ τ : AH, τ = (sA σ 35 (filln (gI σ 35) 1300 (0 : Int32))) := ⟨_, rfl⟩
  replace h := h τ2 e3
  rw [← e3]
  have hs4 : Sh τ2 := by rw [e3]; exact hs
  refine E_iconst (0 : Int32) dX10_bringDeliveries_8 (by decide) ?_
  refine E_istore_n [(1, .int (0 : Int32)), (0, .ref 34)] dX10_bringDeliveries_9 rfl (by decide) rfl ?_
  exact E_lv [1, 0] rfl h
def W_X10_bringDeliveries_114 (X : Sx) (l : Launch) (D : Nat) (x1 : Int32) (σ : AH) (r : Option Value) (σ' : AH) : Prop := E X l m_X10_bringDeliveries D 10 [(0, .ref 34), (1, .int (x1 + 1))] [] σ r σ'
set_option maxRecDepth 100000 in
theorem w_X10_bringDeliveries_114 {X : Sx} {l : Launch} {D : Nat} {x1 : Int32} {σ : AH} {r : Option Value} {σ' : AH} (hs : Sh σ) (h : W_X10_bringDeliveries_114 X l D x1 σ r σ') : E X l m_X10_bringDeliveries D 114 [(0, .ref 34), (1, .int x1)] [] σ r σ' := by
  unfold W_X10_bringDeliveries_114 at h
  refine E_iinc 1 (x1 + 1) [(1, .int (x1 + 1)), (0, .ref 34)] dX10_bringDeliveries_114 rfl (congrArg (x1 + ·) (by decide : Int32.ofInt 1 = 1)) (by decide) rfl ?_
  refine E_goto 10 dX10_bringDeliveries_117 (by decide) ?_
  exact E_lv [1, 0] rfl h
def W_X10_bringDeliveries_61 (X : Sx) (l : Launch) (D : Nat) (x1 : Int32) (x2 : Int32) (y0 : Int32) (y1 : Int32) (σ : AH) (r : Option Value) (σ' : AH) : Prop := ∃ d23 : Nat, ∃ v28 : Int32, ∃ σ24 : AH, d23 + 1 ≤ D ∧ Call X l m_X8_at d23 [.ref 3, .int x1, .int (3 : Int32)] σ (some (.int v28)) σ24 ∧ (if (gI σ24 34 2) < v28 then W_X10_bringDeliveries_114 X l D x1 σ24 r σ' else (if (260 : Int32) ≤ (y1 + y0) then W_X10_bringDeliveries_114 X l D x1 σ24 r σ' else vp_in (((y1 + y0) * (5 : Int32)) + x2) 1300 ∧ ∃ d30 : Nat, ∃ v35 : Int32, ∃ σ31 : AH, d30 + 1 ≤ D ∧ Call X l m_X8_at d30 [.ref 3, .int x1, .int (2 : Int32)] σ24 (some (.int v35)) σ31 ∧ vp_in (((y1 + y0) * (5 : Int32)) + x2) 1300 ∧ W_X10_bringDeliveries_114 X l D x1 (sI σ31 35 ((((y1 + y0) * (5 : Int32)) + x2).toNatClampNeg) ((gI σ24 35 (((y1 + y0) * (5 : Int32)) + x2).toNatClampNeg) + v35)) r σ'))
set_option maxRecDepth 100000 in
theorem w_X10_bringDeliveries_61 {X : Sx} {l : Launch} {D : Nat} {x1 : Int32} {x2 : Int32} {y0 : Int32} {y1 : Int32} {σ : AH} {r : Option Value} {σ' : AH} (hs : Sh σ) (h : W_X10_bringDeliveries_61 X l D x1 x2 y0 y1 σ r σ') : E X l m_X10_bringDeliveries D 61 [(0, .ref 34), (1, .int x1), (2, .int x2)] [.int y0, .int y1] σ r σ' := by
  unfold W_X10_bringDeliveries_61 at h
  refine E_iadd dX10_bringDeliveries_61 ?_
  refine E_istore_n [(3, .int (y1 + y0)), (0, .ref 34), (1, .int x1), (2, .int x2)] dX10_bringDeliveries_62 rfl (by decide) rfl ?_
  refine E_aload_n 1 dX10_bringDeliveries_63 rfl rfl ?_
  refine E_getR 1 dX10_bringDeliveries_64 fl_X10_49 rfl (sk_34 hs) (sn hs (by decide)) (sr_34_0 hs) ?_
  refine E_getR 3 dX10_bringDeliveries_67 fl_X10_72 rfl (sk_1 hs) (sn hs (by decide)) (sr_1_2 hs) ?_
  refine E_iload_n 2 dX10_bringDeliveries_70 rfl rfl ?_
  refine E_iconst (3 : Int32) dX10_bringDeliveries_71 (by decide) ?_
  obtain ⟨d23, v28, σ24, hD25, hC26, h⟩ := h
  have hs27 := hC26.1.2.2.2.1 hs
  refine E_callV (As := [.int x1, .int (3 : Int32)]) (rest := []) (r1 := (some (.int v28))) (b := 3) dX10_bringDeliveries_72 ok_X8_at in_X8_at se_X8_at ml_X10_84 hD25 rfl rfl (Nat.le_of_ble_eq_true rfl) (sk_3 hs) (sn hs (by decide)) (by decide) rfl (by decide +kernel) hC26 ?_
  refine E_aload_n 1 dX10_bringDeliveries_75 rfl rfl ?_
  refine E_getI dX10_bringDeliveries_76 fl_X10_9 rfl (sk_34 hs27) (sn hs27 (by decide)) ?_
  refine E_icmp_gt 114 dX10_bringDeliveries_79 (by decide) (fun c => ?_) (fun c => ?_)
  · rw [if_pos c] at h
    exact E_lv [1, 2] rfl (w_X10_bringDeliveries_114 hs27 h)
  · rw [if_neg c] at h
    refine E_iload_n 0 dX10_bringDeliveries_82 rfl rfl ?_
    refine E_sipush (260 : Int32) dX10_bringDeliveries_83 (by decide) ?_
    refine E_icmp_ge 114 dX10_bringDeliveries_86 (by decide) (fun c => ?_) (fun c => ?_)
    · rw [if_pos c] at h
      exact E_lv [1, 2] rfl (w_X10_bringDeliveries_114 hs27 h)
    · rw [if_neg c] at h
      refine E_aload_n 1 dX10_bringDeliveries_89 rfl rfl ?_
      refine E_getR 35 dX10_bringDeliveries_90 fl_X10_21 rfl (sk_34 hs27) (sn hs27 (by decide)) (sr_34_5 hs27) ?_
      refine E_iload_n 0 dX10_bringDeliveries_93 rfl rfl ?_
      refine E_iconst (5 : Int32) dX10_bringDeliveries_94 (by decide) ?_
      refine E_imul dX10_bringDeliveries_95 ?_
      refine E_iload_n 3 dX10_bringDeliveries_96 rfl rfl ?_
      refine E_iadd dX10_bringDeliveries_97 ?_
      refine E_dup2 dX10_bringDeliveries_98 rfl rfl ?_
      obtain ⟨g29, h⟩ := h
      refine E_iald2 ((((y1 + y0) * (5 : Int32)) + x2).toNatClampNeg) dX10_bringDeliveries_99 (sk_35 hs27) (sn hs27 (by decide)) g29 rfl ?_
      refine E_aload_n 1 dX10_bringDeliveries_100 rfl rfl ?_
      refine E_getR 1 dX10_bringDeliveries_101 fl_X10_49 rfl (sk_34 hs27) (sn hs27 (by decide)) (sr_34_0 hs27) ?_
      refine E_getR 3 dX10_bringDeliveries_104 fl_X10_72 rfl (sk_1 hs27) (sn hs27 (by decide)) (sr_1_2 hs27) ?_
      refine E_iload_n 2 dX10_bringDeliveries_107 rfl rfl ?_
      refine E_iconst (2 : Int32) dX10_bringDeliveries_108 (by decide) ?_
      obtain ⟨d30, v35, σ31, hD32, hC33, h⟩ := h
      have hs34 := hC33.1.2.2.2.1 hs27
      refine E_callV (As := [.int x1, .int (2 : Int32)]) (rest := [.int (gI σ24 35 (((y1 + y0) * (5 : Int32)) + x2).toNatClampNeg), .int (((y1 + y0) * (5 : Int32)) + x2), .ref 35]) (r1 := (some (.int v35))) (b := 3) dX10_bringDeliveries_109 ok_X8_at in_X8_at se_X8_at ml_X10_84 hD32 rfl rfl (Nat.le_of_ble_eq_true rfl) (sk_3 hs27) (sn hs27 (by decide)) (by decide) rfl (by decide +kernel) hC33 ?_
      refine E_iadd dX10_bringDeliveries_112 ?_
      obtain ⟨g36, h⟩ := h
      refine E_iast2 ((((y1 + y0) * (5 : Int32)) + x2).toNatClampNeg) dX10_bringDeliveries_113 (sk_35 hs34) (sn hs34 (by decide)) (Or.inl (by decide)) g36 rfl ?_
      exact E_lv [1, 2] rfl (w_X10_bringDeliveries_114 hs34 h)
def W_X10_bringDeliveries_10 (X : Sx) (l : Launch) (D : Nat) (x1 : Int32) (σ : AH) (r : Option Value) (σ' : AH) : Prop := ∃ d5 : Nat, ∃ v10 : Int32, ∃ σ6 : AH, d5 + 1 ≤ D ∧ Call X l m_X8_rows d5 [.ref 3] σ (some (.int v10)) σ6 ∧ (if v10 ≤ x1 then (r = none ∧ σ' = σ6) else ∃ d11 : Nat, ∃ v16 : Int32, ∃ σ12 : AH, d11 + 1 ≤ D ∧ Call X l m_X8_at d11 [.ref 3, .int x1, .int (0 : Int32)] σ6 (some (.int v16)) σ12 ∧ ∃ d17 : Nat, ∃ v22 : Int32, ∃ σ18 : AH, d17 + 1 ≤ D ∧ Call X l m_X8_at d17 [.ref 3, .int x1, .int (1 : Int32)] σ12 (some (.int v22)) σ18 ∧ (if v16 = 0 then W_X10_bringDeliveries_61 X l D x1 v16 (gI σ18 34 3) v22 σ18 r σ' else W_X10_bringDeliveries_61 X l D x1 v16 (0 : Int32) v22 σ18 r σ'))
set_option maxRecDepth 100000 in
theorem w_X10_bringDeliveries_10 {X : Sx} {l : Launch} {D : Nat} {x1 : Int32} {σ : AH} {r : Option Value} {σ' : AH} (hs : Sh σ) (h : W_X10_bringDeliveries_10 X l D x1 σ r σ') : E X l m_X10_bringDeliveries D 10 [(0, .ref 34), (1, .int x1)] [] σ r σ' := by
  unfold W_X10_bringDeliveries_10 at h
  refine E_iload_n 1 dX10_bringDeliveries_10 rfl rfl ?_
  refine E_aload_n 0 dX10_bringDeliveries_11 rfl rfl ?_
  refine E_getR 1 dX10_bringDeliveries_12 fl_X10_49 rfl (sk_34 hs) (sn hs (by decide)) (sr_34_0 hs) ?_
  refine E_getR 3 dX10_bringDeliveries_15 fl_X10_72 rfl (sk_1 hs) (sn hs (by decide)) (sr_1_2 hs) ?_
  obtain ⟨d5, v10, σ6, hD7, hC8, h⟩ := h
  have hs9 := hC8.1.2.2.2.1 hs
  refine E_callV (As := []) (rest := [.int x1]) (r1 := (some (.int v10))) (b := 3) dX10_bringDeliveries_18 ok_X8_rows in_X8_rows se_X8_rows ml_X10_78 hD7 rfl rfl (Nat.le_of_ble_eq_true rfl) (sk_3 hs) (sn hs (by decide)) (by decide) rfl (by decide +kernel) hC8 ?_
  refine E_icmp_ge 120 dX10_bringDeliveries_21 (by decide) (fun c => ?_) (fun c => ?_)
  · rw [if_pos c] at h
    obtain ⟨rfl, rfl⟩ := h
    exact E_vret dX10_bringDeliveries_120 rfl
  · rw [if_neg c] at h
    refine E_aload_n 0 dX10_bringDeliveries_24 rfl rfl ?_
    refine E_getR 1 dX10_bringDeliveries_25 fl_X10_49 rfl (sk_34 hs9) (sn hs9 (by decide)) (sr_34_0 hs9) ?_
    refine E_getR 3 dX10_bringDeliveries_28 fl_X10_72 rfl (sk_1 hs9) (sn hs9 (by decide)) (sr_1_2 hs9) ?_
    refine E_iload_n 1 dX10_bringDeliveries_31 rfl rfl ?_
    refine E_iconst (0 : Int32) dX10_bringDeliveries_32 (by decide) ?_
    obtain ⟨d11, v16, σ12, hD13, hC14, h⟩ := h
    have hs15 := hC14.1.2.2.2.1 hs9
    refine E_callV (As := [.int x1, .int (0 : Int32)]) (rest := []) (r1 := (some (.int v16))) (b := 3) dX10_bringDeliveries_33 ok_X8_at in_X8_at se_X8_at ml_X10_84 hD13 rfl rfl (Nat.le_of_ble_eq_true rfl) (sk_3 hs9) (sn hs9 (by decide)) (by decide) rfl (by decide +kernel) hC14 ?_
    refine E_istore_n [(2, .int v16), (0, .ref 34), (1, .int x1)] dX10_bringDeliveries_36 rfl (by decide) rfl ?_
    refine E_aload_n 1 dX10_bringDeliveries_37 rfl rfl ?_
    refine E_getR 1 dX10_bringDeliveries_38 fl_X10_49 rfl (sk_34 hs15) (sn hs15 (by decide)) (sr_34_0 hs15) ?_
    refine E_getR 3 dX10_bringDeliveries_41 fl_X10_72 rfl (sk_1 hs15) (sn hs15 (by decide)) (sr_1_2 hs15) ?_
    refine E_iload_n 2 dX10_bringDeliveries_44 rfl rfl ?_
    refine E_iconst (1 : Int32) dX10_bringDeliveries_45 (by decide) ?_
    obtain ⟨d17, v22, σ18, hD19, hC20, h⟩ := h
    have hs21 := hC20.1.2.2.2.1 hs15
    refine E_callV (As := [.int x1, .int (1 : Int32)]) (rest := []) (r1 := (some (.int v22))) (b := 3) dX10_bringDeliveries_46 ok_X8_at in_X8_at se_X8_at ml_X10_84 hD19 rfl rfl (Nat.le_of_ble_eq_true rfl) (sk_3 hs15) (sn hs15 (by decide)) (by decide) rfl (by decide +kernel) hC20 ?_
    refine E_iload_n 0 dX10_bringDeliveries_49 rfl rfl ?_
    refine E_if_ne 60 dX10_bringDeliveries_50 (by decide) (fun c => ?_) (fun c => ?_)
    · rw [if_neg c] at h
      refine E_iconst (0 : Int32) dX10_bringDeliveries_60 (by decide) ?_
      exact E_lv [1, 2, 0] rfl (w_X10_bringDeliveries_61 hs21 h)
    · rw [if_pos c] at h
      refine E_aload_n 1 dX10_bringDeliveries_53 rfl rfl ?_
      refine E_getI dX10_bringDeliveries_54 fl_X10_15 rfl (sk_34 hs21) (sn hs21 (by decide)) ?_
      refine E_goto 61 dX10_bringDeliveries_57 (by decide) ?_
      exact E_lv [1, 2, 0] rfl (w_X10_bringDeliveries_61 hs21 h)
def W_X10_bringGangs_0 (X : Sx) (l : Launch) (D : Nat) (σ : AH) (r : Option Value) (σ' : AH) : Prop := 1 ≤ D ∧ (∀ τ2 : AH, τ2 = (sA σ 36 (filln (gI σ 36) 1560 (-1 : Int32))) → E X l m_X10_bringGangs D 10 [(0, .ref 34), (1, .int (0 : Int32))] [] τ2 r σ')
set_option maxRecDepth 100000 in
theorem w_X10_bringGangs_0 {X : Sx} {l : Launch} {D : Nat} {σ : AH} {r : Option Value} {σ' : AH} (hs : Sh σ) (h : W_X10_bringGangs_0 X l D σ r σ') : E X l m_X10_bringGangs D 0 [(0, .ref 34)] [] σ r σ' := by
  unfold W_X10_bringGangs_0 at h
  refine E_aload_n 0 dX10_bringGangs_0 rfl rfl ?_
  refine E_getR 36 dX10_bringGangs_1 fl_X10_25 rfl (sk_34 hs) (sn hs (by decide)) (sr_34_6 hs) ?_
  refine E_iconst (-1 : Int32) dX10_bringGangs_4 (by decide) ?_
  obtain ⟨g1, h⟩ := h
  refine E_fill dX10_bringGangs_5 ml_X10_57 (sk_36 hs) (sn hs (by decide)) (Or.inl (by decide)) g1 (by decide) (Nat.le_of_ble_eq_true rfl) ?_
  obtain ⟨τ2, e3⟩ : ∃ τ : AH, τ = (sA σ 36 (filln (gI σ 36) 1560 (-1 : Int32))) := ⟨_, rfl⟩
  replace h := h τ2 e3
  rw [← e3]
  have hs4 : Sh τ2 := by rw [e3]; exact hs
  refine E_iconst (0 : Int32) dX10_bringGangs_8 (by decide) ?_
  refine E_istore_n [(1, .int (0 : Int32)), (0, .ref 34)] dX10_bringGangs_9 rfl (by decide) rfl ?_
  exact E_lv [1, 0] rfl h
def W_X10_bringGangs_90 (X : Sx) (l : Launch) (D : Nat) (x1 : Int32) (σ : AH) (r : Option Value) (σ' : AH) : Prop := E X l m_X10_bringGangs D 10 [(0, .ref 34), (1, .int (x1 + 1))] [] σ r σ'
set_option maxRecDepth 100000 in
theorem w_X10_bringGangs_90 {X : Sx} {l : Launch} {D : Nat} {x1 : Int32} {σ : AH} {r : Option Value} {σ' : AH} (hs : Sh σ) (h : W_X10_bringGangs_90 X l D x1 σ r σ') : E X l m_X10_bringGangs D 90 [(0, .ref 34), (1, .int x1)] [] σ r σ' := by
  unfold W_X10_bringGangs_90 at h
  refine E_iinc 1 (x1 + 1) [(1, .int (x1 + 1)), (0, .ref 34)] dX10_bringGangs_90 rfl (congrArg (x1 + ·) (by decide : Int32.ofInt 1 = 1)) (by decide) rfl ?_
  refine E_goto 10 dX10_bringGangs_93 (by decide) ?_
  exact E_lv [1, 0] rfl h
def W_X10_bringGangs_10 (X : Sx) (l : Launch) (D : Nat) (x1 : Int32) (σ : AH) (r : Option Value) (σ' : AH) : Prop := ∃ d5 : Nat, ∃ v10 : Int32, ∃ σ6 : AH, d5 + 1 ≤ D ∧ Call X l m_X8_rows d5 [.ref 7] σ (some (.int v10)) σ6 ∧ (if v10 ≤ x1 then E X l m_X10_bringGangs D 98 [(0, .ref 34), (1, .int (0 : Int32))] [] σ6 r σ' else ∃ d11 : Nat, ∃ v16 : Int32, ∃ σ12 : AH, d11 + 1 ≤ D ∧ Call X l m_X8_at d11 [.ref 7, .int x1, .int (3 : Int32)] σ6 (some (.int v16)) σ12 ∧ (if (gI σ12 34 2) < v16 then W_X10_bringGangs_90 X l D x1 σ12 r σ' else ∃ d17 : Nat, ∃ v22 : Int32, ∃ σ18 : AH, d17 + 1 ≤ D ∧ Call X l m_X8_at d17 [.ref 7, .int x1, .int (2 : Int32)] σ12 (some (.int v22)) σ18 ∧ ∃ d23 : Nat, ∃ v28 : Int32, ∃ σ24 : AH, d23 + 1 ≤ D ∧ Call X l m_X8_at d23 [.ref 7, .int x1, .int (0 : Int32)] σ18 (some (.int v28)) σ24 ∧ ∃ d29 : Nat, ∃ v34 : Int32, ∃ σ30 : AH, d29 + 1 ≤ D ∧ Call X l m_X8_at d29 [.ref 7, .int x1, .int (1 : Int32)] σ24 (some (.int v34)) σ30 ∧ vp_in ((v22 * (6 : Int32)) + v28) 1560 ∧ W_X10_bringGangs_90 X l D x1 (sI σ30 36 (((v22 * (6 : Int32)) + v28).toNatClampNeg) v34) r σ'))
set_option maxRecDepth 100000 in
theorem w_X10_bringGangs_10 {X : Sx} {l : Launch} {D : Nat} {x1 : Int32} {σ : AH} {r : Option Value} {σ' : AH} (hs : Sh σ) (h : W_X10_bringGangs_10 X l D x1 σ r σ') : E X l m_X10_bringGangs D 10 [(0, .ref 34), (1, .int x1)] [] σ r σ' := by
  unfold W_X10_bringGangs_10 at h
  refine E_iload_n 1 dX10_bringGangs_10 rfl rfl ?_
  refine E_aload_n 0 dX10_bringGangs_11 rfl rfl ?_
  refine E_getR 1 dX10_bringGangs_12 fl_X10_49 rfl (sk_34 hs) (sn hs (by decide)) (sr_34_0 hs) ?_
  refine E_getR 7 dX10_bringGangs_15 fl_X10_88 rfl (sk_1 hs) (sn hs (by decide)) (sr_1_4 hs) ?_
  obtain ⟨d5, v10, σ6, hD7, hC8, h⟩ := h
  have hs9 := hC8.1.2.2.2.1 hs
  refine E_callV (As := []) (rest := [.int x1]) (r1 := (some (.int v10))) (b := 7) dX10_bringGangs_18 ok_X8_rows in_X8_rows se_X8_rows ml_X10_78 hD7 rfl rfl (Nat.le_of_ble_eq_true rfl) (sk_7 hs) (sn hs (by decide)) (by decide) rfl (by decide +kernel) hC8 ?_
  refine E_icmp_ge 96 dX10_bringGangs_21 (by decide) (fun c => ?_) (fun c => ?_)
  · rw [if_pos c] at h
    refine E_iconst (0 : Int32) dX10_bringGangs_96 (by decide) ?_
    refine E_istore_n [(1, .int (0 : Int32)), (0, .ref 34)] dX10_bringGangs_97 rfl (by decide) rfl ?_
    exact E_lv [1, 0] rfl h
  · rw [if_neg c] at h
    refine E_aload_n 0 dX10_bringGangs_24 rfl rfl ?_
    refine E_getR 1 dX10_bringGangs_25 fl_X10_49 rfl (sk_34 hs9) (sn hs9 (by decide)) (sr_34_0 hs9) ?_
    refine E_getR 7 dX10_bringGangs_28 fl_X10_88 rfl (sk_1 hs9) (sn hs9 (by decide)) (sr_1_4 hs9) ?_
    refine E_iload_n 1 dX10_bringGangs_31 rfl rfl ?_
    refine E_iconst (3 : Int32) dX10_bringGangs_32 (by decide) ?_
    obtain ⟨d11, v16, σ12, hD13, hC14, h⟩ := h
    have hs15 := hC14.1.2.2.2.1 hs9
    refine E_callV (As := [.int x1, .int (3 : Int32)]) (rest := []) (r1 := (some (.int v16))) (b := 7) dX10_bringGangs_33 ok_X8_at in_X8_at se_X8_at ml_X10_84 hD13 rfl rfl (Nat.le_of_ble_eq_true rfl) (sk_7 hs9) (sn hs9 (by decide)) (by decide) rfl (by decide +kernel) hC14 ?_
    refine E_aload_n 0 dX10_bringGangs_36 rfl rfl ?_
    refine E_getI dX10_bringGangs_37 fl_X10_9 rfl (sk_34 hs15) (sn hs15 (by decide)) ?_
    refine E_icmp_gt 90 dX10_bringGangs_40 (by decide) (fun c => ?_) (fun c => ?_)
    · rw [if_pos c] at h
      exact E_lv [0, 1] rfl (w_X10_bringGangs_90 hs15 h)
    · rw [if_neg c] at h
      refine E_aload_n 0 dX10_bringGangs_43 rfl rfl ?_
      refine E_getR 1 dX10_bringGangs_44 fl_X10_49 rfl (sk_34 hs15) (sn hs15 (by decide)) (sr_34_0 hs15) ?_
      refine E_getR 7 dX10_bringGangs_47 fl_X10_88 rfl (sk_1 hs15) (sn hs15 (by decide)) (sr_1_4 hs15) ?_
      refine E_iload_n 1 dX10_bringGangs_50 rfl rfl ?_
      refine E_iconst (2 : Int32) dX10_bringGangs_51 (by decide) ?_
      obtain ⟨d17, v22, σ18, hD19, hC20, h⟩ := h
      have hs21 := hC20.1.2.2.2.1 hs15
      refine E_callV (As := [.int x1, .int (2 : Int32)]) (rest := []) (r1 := (some (.int v22))) (b := 7) dX10_bringGangs_52 ok_X8_at in_X8_at se_X8_at ml_X10_84 hD19 rfl rfl (Nat.le_of_ble_eq_true rfl) (sk_7 hs15) (sn hs15 (by decide)) (by decide) rfl (by decide +kernel) hC20 ?_
      refine E_bipush (6 : Int32) dX10_bringGangs_55 (by decide) ?_
      refine E_imul dX10_bringGangs_57 ?_
      refine E_aload_n 0 dX10_bringGangs_58 rfl rfl ?_
      refine E_getR 1 dX10_bringGangs_59 fl_X10_49 rfl (sk_34 hs21) (sn hs21 (by decide)) (sr_34_0 hs21) ?_
      refine E_getR 7 dX10_bringGangs_62 fl_X10_88 rfl (sk_1 hs21) (sn hs21 (by decide)) (sr_1_4 hs21) ?_
      refine E_iload_n 1 dX10_bringGangs_65 rfl rfl ?_
      refine E_iconst (0 : Int32) dX10_bringGangs_66 (by decide) ?_
      obtain ⟨d23, v28, σ24, hD25, hC26, h⟩ := h
      have hs27 := hC26.1.2.2.2.1 hs21
      refine E_callV (As := [.int x1, .int (0 : Int32)]) (rest := [.int (v22 * (6 : Int32))]) (r1 := (some (.int v28))) (b := 7) dX10_bringGangs_67 ok_X8_at in_X8_at se_X8_at ml_X10_84 hD25 rfl rfl (Nat.le_of_ble_eq_true rfl) (sk_7 hs21) (sn hs21 (by decide)) (by decide) rfl (by decide +kernel) hC26 ?_
      refine E_iadd dX10_bringGangs_70 ?_
      refine E_istore_n [(2, .int ((v22 * (6 : Int32)) + v28)), (0, .ref 34), (1, .int x1)] dX10_bringGangs_71 rfl (by decide) rfl ?_
      refine E_aload_n 1 dX10_bringGangs_72 rfl rfl ?_
      refine E_getR 36 dX10_bringGangs_73 fl_X10_25 rfl (sk_34 hs27) (sn hs27 (by decide)) (sr_34_6 hs27) ?_
      refine E_iload_n 0 dX10_bringGangs_76 rfl rfl ?_
      refine E_aload_n 1 dX10_bringGangs_77 rfl rfl ?_
      refine E_getR 1 dX10_bringGangs_78 fl_X10_49 rfl (sk_34 hs27) (sn hs27 (by decide)) (sr_34_0 hs27) ?_
      refine E_getR 7 dX10_bringGangs_81 fl_X10_88 rfl (sk_1 hs27) (sn hs27 (by decide)) (sr_1_4 hs27) ?_
      refine E_iload_n 2 dX10_bringGangs_84 rfl rfl ?_
      refine E_iconst (1 : Int32) dX10_bringGangs_85 (by decide) ?_
      obtain ⟨d29, v34, σ30, hD31, hC32, h⟩ := h
      have hs33 := hC32.1.2.2.2.1 hs27
      refine E_callV (As := [.int x1, .int (1 : Int32)]) (rest := [.int ((v22 * (6 : Int32)) + v28), .ref 36]) (r1 := (some (.int v34))) (b := 7) dX10_bringGangs_86 ok_X8_at in_X8_at se_X8_at ml_X10_84 hD31 rfl rfl (Nat.le_of_ble_eq_true rfl) (sk_7 hs27) (sn hs27 (by decide)) (by decide) rfl (by decide +kernel) hC32 ?_
      obtain ⟨g35, h⟩ := h
      refine E_iast2 (((v22 * (6 : Int32)) + v28).toNatClampNeg) dX10_bringGangs_89 (sk_36 hs33) (sn hs33 (by decide)) (Or.inl (by decide)) g35 rfl ?_
      exact E_lv [1, 2] rfl (w_X10_bringGangs_90 hs33 h)
def W_X10_bringGangs_142 (X : Sx) (l : Launch) (D : Nat) (x1 : Int32) (σ : AH) (r : Option Value) (σ' : AH) : Prop := E X l m_X10_bringGangs D 98 [(0, .ref 34), (1, .int (x1 + 1))] [] σ r σ'
set_option maxRecDepth 100000 in
theorem w_X10_bringGangs_142 {X : Sx} {l : Launch} {D : Nat} {x1 : Int32} {σ : AH} {r : Option Value} {σ' : AH} (hs : Sh σ) (h : W_X10_bringGangs_142 X l D x1 σ r σ') : E X l m_X10_bringGangs D 142 [(0, .ref 34), (1, .int x1)] [] σ r σ' := by
  unfold W_X10_bringGangs_142 at h
  refine E_iinc 1 (x1 + 1) [(1, .int (x1 + 1)), (0, .ref 34)] dX10_bringGangs_142 rfl (congrArg (x1 + ·) (by decide : Int32.ofInt 1 = 1)) (by decide) rfl ?_
  refine E_goto 98 dX10_bringGangs_145 (by decide) ?_
  exact E_lv [1, 0] rfl h
def W_X10_bringGangs_141 (X : Sx) (l : Launch) (D : Nat) (x1 : Int32) (y0 : Int32) (y1 : Int32) (σ : AH) (r : Option Value) (σ' : AH) : Prop := vp_in y1 1560 ∧ W_X10_bringGangs_142 X l D x1 (sI σ 36 y1.toNatClampNeg y0) r σ'
set_option maxRecDepth 100000 in
theorem w_X10_bringGangs_141 {X : Sx} {l : Launch} {D : Nat} {x1 : Int32} {y0 : Int32} {y1 : Int32} {σ : AH} {r : Option Value} {σ' : AH} (hs : Sh σ) (h : W_X10_bringGangs_141 X l D x1 y0 y1 σ r σ') : E X l m_X10_bringGangs D 141 [(0, .ref 34), (1, .int x1)] [.int y0, .int y1, .ref 36] σ r σ' := by
  unfold W_X10_bringGangs_141 at h
  obtain ⟨g38, h⟩ := h
  refine E_iast2 (y1.toNatClampNeg) dX10_bringGangs_141 (sk_36 hs) (sn hs (by decide)) (Or.inl (by decide)) g38 rfl ?_
  exact E_lv [0, 1] rfl (w_X10_bringGangs_142 hs h)
def W_X10_bringGangs_98 (X : Sx) (l : Launch) (D : Nat) (x1 : Int32) (σ : AH) (r : Option Value) (σ' : AH) : Prop := (if (1560 : Int32) ≤ x1 then (r = none ∧ σ' = σ) else vp_in x1 1560 ∧ (if (gI σ 36 x1.toNatClampNeg) = (-1 : Int32) then (if (6 : Int32) ≤ x1 then vp_in (x1 - (6 : Int32)) 1560 ∧ W_X10_bringGangs_141 X l D x1 (gI σ 36 (x1 - (6 : Int32)).toNatClampNeg) x1 σ r σ' else W_X10_bringGangs_141 X l D x1 (0 : Int32) x1 σ r σ') else W_X10_bringGangs_142 X l D x1 σ r σ'))
set_option maxRecDepth 100000 in
theorem w_X10_bringGangs_98 {X : Sx} {l : Launch} {D : Nat} {x1 : Int32} {σ : AH} {r : Option Value} {σ' : AH} (hs : Sh σ) (h : W_X10_bringGangs_98 X l D x1 σ r σ') : E X l m_X10_bringGangs D 98 [(0, .ref 34), (1, .int x1)] [] σ r σ' := by
  unfold W_X10_bringGangs_98 at h
  refine E_iload_n 1 dX10_bringGangs_98 rfl rfl ?_
  refine E_aload_n 0 dX10_bringGangs_99 rfl rfl ?_
  refine E_getR 36 dX10_bringGangs_100 fl_X10_25 rfl (sk_34 hs) (sn hs (by decide)) (sr_34_6 hs) ?_
  refine E_alen2 (1560 : Int32) dX10_bringGangs_103 (sk_36 hs) (sn hs (by decide)) (by decide) (by decide) (by decide) ?_
  refine E_icmp_ge 148 dX10_bringGangs_104 (by decide) (fun c => ?_) (fun c => ?_)
  · rw [if_pos c] at h
    obtain ⟨rfl, rfl⟩ := h
    exact E_vret dX10_bringGangs_148 rfl
  · rw [if_neg c] at h
    refine E_aload_n 0 dX10_bringGangs_107 rfl rfl ?_
    refine E_getR 36 dX10_bringGangs_108 fl_X10_25 rfl (sk_34 hs) (sn hs (by decide)) (sr_34_6 hs) ?_
    refine E_iload_n 1 dX10_bringGangs_111 rfl rfl ?_
    obtain ⟨g36, h⟩ := h
    refine E_iald2 (x1.toNatClampNeg) dX10_bringGangs_112 (sk_36 hs) (sn hs (by decide)) g36 rfl ?_
    refine E_iconst (-1 : Int32) dX10_bringGangs_113 (by decide) ?_
    refine E_icmp_ne 142 dX10_bringGangs_114 (by decide) (fun c => ?_) (fun c => ?_)
    · rw [if_neg c] at h
      exact E_lv [0, 1] rfl (w_X10_bringGangs_142 hs h)
    · rw [if_pos c] at h
      refine E_aload_n 0 dX10_bringGangs_117 rfl rfl ?_
      refine E_getR 36 dX10_bringGangs_118 fl_X10_25 rfl (sk_34 hs) (sn hs (by decide)) (sr_34_6 hs) ?_
      refine E_iload_n 1 dX10_bringGangs_121 rfl rfl ?_
      refine E_iload_n 1 dX10_bringGangs_122 rfl rfl ?_
      refine E_bipush (6 : Int32) dX10_bringGangs_123 (by decide) ?_
      refine E_icmp_ge 132 dX10_bringGangs_125 (by decide) (fun c => ?_) (fun c => ?_)
      · rw [if_pos c] at h
        refine E_aload_n 0 dX10_bringGangs_132 rfl rfl ?_
        refine E_getR 36 dX10_bringGangs_133 fl_X10_25 rfl (sk_34 hs) (sn hs (by decide)) (sr_34_6 hs) ?_
        refine E_iload_n 1 dX10_bringGangs_136 rfl rfl ?_
        refine E_bipush (6 : Int32) dX10_bringGangs_137 (by decide) ?_
        refine E_isub dX10_bringGangs_139 ?_
        obtain ⟨g37, h⟩ := h
        refine E_iald2 ((x1 - (6 : Int32)).toNatClampNeg) dX10_bringGangs_140 (sk_36 hs) (sn hs (by decide)) g37 rfl ?_
        exact E_lv [0, 1] rfl (w_X10_bringGangs_141 hs h)
      · rw [if_neg c] at h
        refine E_iconst (0 : Int32) dX10_bringGangs_128 (by decide) ?_
        refine E_goto 141 dX10_bringGangs_129 (by decide) ?_
        exact E_lv [0, 1] rfl (w_X10_bringGangs_141 hs h)
def W_X10_bringStarts_0 (X : Sx) (l : Launch) (D : Nat) (σ : AH) (r : Option Value) (σ' : AH) : Prop := 1 ≤ D ∧ (∀ τ2 : AH, τ2 = (sA σ 38 (filln (gI σ 38) 30 (-1 : Int32))) → 1 ≤ D ∧ (∀ τ6 : AH, τ6 = (sA τ2 39 (filln (gI τ2 39) 260 (0 : Int32))) → E X l m_X10_bringStarts D 18 [(0, .ref 34), (1, .int (0 : Int32))] [] τ6 r σ'))
set_option maxRecDepth 100000 in
theorem w_X10_bringStarts_0 {X : Sx} {l : Launch} {D : Nat} {σ : AH} {r : Option Value} {σ' : AH} (hs : Sh σ) (h : W_X10_bringStarts_0 X l D σ r σ') : E X l m_X10_bringStarts D 0 [(0, .ref 34)] [] σ r σ' := by
  unfold W_X10_bringStarts_0 at h
  refine E_aload_n 0 dX10_bringStarts_0 rfl rfl ?_
  refine E_getR 38 dX10_bringStarts_1 fl_X10_31 rfl (sk_34 hs) (sn hs (by decide)) (sr_34_8 hs) ?_
  refine E_iconst (-1 : Int32) dX10_bringStarts_4 (by decide) ?_
  obtain ⟨g1, h⟩ := h
  refine E_fill dX10_bringStarts_5 ml_X10_57 (sk_38 hs) (sn hs (by decide)) (Or.inl (by decide)) g1 (by decide) (Nat.le_of_ble_eq_true rfl) ?_
  obtain ⟨τ2, e3⟩ : ∃ τ : AH, τ = (sA σ 38 (filln (gI σ 38) 30 (-1 : Int32))) := ⟨_, rfl⟩
  replace h := h τ2 e3
  rw [← e3]
  have hs4 : Sh τ2 := by rw [e3]; exact hs
  refine E_aload_n 0 dX10_bringStarts_8 rfl rfl ?_
  refine E_getR 39 dX10_bringStarts_9 fl_X10_34 rfl (sk_34 hs4) (sn hs4 (by decide)) (sr_34_9 hs4) ?_
  refine E_iconst (0 : Int32) dX10_bringStarts_12 (by decide) ?_
  obtain ⟨g5, h⟩ := h
  refine E_fill dX10_bringStarts_13 ml_X10_57 (sk_39 hs4) (sn hs4 (by decide)) (Or.inl (by decide)) g5 (by decide) (Nat.le_of_ble_eq_true rfl) ?_
  obtain ⟨τ6, e7⟩ : ∃ τ : AH, τ = (sA τ2 39 (filln (gI τ2 39) 260 (0 : Int32))) := ⟨_, rfl⟩
  replace h := h τ6 e7
  rw [← e7]
  have hs8 : Sh τ6 := by rw [e7]; exact hs4
  refine E_iconst (0 : Int32) dX10_bringStarts_16 (by decide) ?_
  refine E_istore_n [(1, .int (0 : Int32)), (0, .ref 34)] dX10_bringStarts_17 rfl (by decide) rfl ?_
  exact E_lv [1, 0] rfl h
def W_X10_bringStarts_91 (X : Sx) (l : Launch) (D : Nat) (x1 : Int32) (σ : AH) (r : Option Value) (σ' : AH) : Prop := E X l m_X10_bringStarts D 18 [(0, .ref 34), (1, .int (x1 + 1))] [] σ r σ'
set_option maxRecDepth 100000 in
theorem w_X10_bringStarts_91 {X : Sx} {l : Launch} {D : Nat} {x1 : Int32} {σ : AH} {r : Option Value} {σ' : AH} (hs : Sh σ) (h : W_X10_bringStarts_91 X l D x1 σ r σ') : E X l m_X10_bringStarts D 91 [(0, .ref 34), (1, .int x1)] [] σ r σ' := by
  unfold W_X10_bringStarts_91 at h
  refine E_iinc 1 (x1 + 1) [(1, .int (x1 + 1)), (0, .ref 34)] dX10_bringStarts_91 rfl (congrArg (x1 + ·) (by decide : Int32.ofInt 1 = 1)) (by decide) rfl ?_
  refine E_goto 18 dX10_bringStarts_94 (by decide) ?_
  exact E_lv [1, 0] rfl h
def W_X10_bringStarts_18 (X : Sx) (l : Launch) (D : Nat) (x1 : Int32) (σ : AH) (r : Option Value) (σ' : AH) : Prop := ∃ d9 : Nat, ∃ v14 : Int32, ∃ σ10 : AH, d9 + 1 ≤ D ∧ Call X l m_X8_rows d9 [.ref 11] σ (some (.int v14)) σ10 ∧ (if v14 ≤ x1 then (r = none ∧ σ' = σ10) else ∃ d15 : Nat, ∃ v20 : Int32, ∃ σ16 : AH, d15 + 1 ≤ D ∧ Call X l m_X8_at d15 [.ref 11, .int x1, .int (0 : Int32)] σ10 (some (.int v20)) σ16 ∧ ∃ d21 : Nat, ∃ v26 : Int32, ∃ σ22 : AH, d21 + 1 ≤ D ∧ Call X l m_X8_at d21 [.ref 11, .int x1, .int (2 : Int32)] σ16 (some (.int v26)) σ22 ∧ (if (gI σ22 34 2) < v26 then W_X10_bringStarts_91 X l D x1 σ22 r σ' else vp_in v20 30 ∧ (if (gI σ22 38 v20.toNatClampNeg) = (-1 : Int32) then ∃ d28 : Nat, ∃ v33 : Int32, ∃ σ29 : AH, d28 + 1 ≤ D ∧ Call X l m_X8_at d28 [.ref 11, .int x1, .int (1 : Int32)] σ22 (some (.int v33)) σ29 ∧ ∃ d34 : Nat, ∃ σ35 : AH, d34 + 1 ≤ D ∧ Call X l m_X10_tellStart d34 [.ref 34, .int v20, .int v33] σ29 none σ35 ∧ W_X10_bringStarts_91 X l D x1 σ35 r σ' else W_X10_bringStarts_91 X l D x1 σ22 r σ')))
set_option maxRecDepth 100000 in
theorem w_X10_bringStarts_18 {X : Sx} {l : Launch} {D : Nat} {x1 : Int32} {σ : AH} {r : Option Value} {σ' : AH} (hs : Sh σ) (h : W_X10_bringStarts_18 X l D x1 σ r σ') : E X l m_X10_bringStarts D 18 [(0, .ref 34), (1, .int x1)] [] σ r σ' := by
  unfold W_X10_bringStarts_18 at h
  refine E_iload_n 1 dX10_bringStarts_18 rfl rfl ?_
  refine E_aload_n 0 dX10_bringStarts_19 rfl rfl ?_
  refine E_getR 1 dX10_bringStarts_20 fl_X10_49 rfl (sk_34 hs) (sn hs (by decide)) (sr_34_0 hs) ?_
  refine E_getR 11 dX10_bringStarts_23 fl_X10_90 rfl (sk_1 hs) (sn hs (by decide)) (sr_1_6 hs) ?_
  obtain ⟨d9, v14, σ10, hD11, hC12, h⟩ := h
  have hs13 := hC12.1.2.2.2.1 hs
  refine E_callV (As := []) (rest := [.int x1]) (r1 := (some (.int v14))) (b := 11) dX10_bringStarts_26 ok_X8_rows in_X8_rows se_X8_rows ml_X10_78 hD11 rfl rfl (Nat.le_of_ble_eq_true rfl) (sk_11 hs) (sn hs (by decide)) (by decide) rfl (by decide +kernel) hC12 ?_
  refine E_icmp_ge 97 dX10_bringStarts_29 (by decide) (fun c => ?_) (fun c => ?_)
  · rw [if_pos c] at h
    obtain ⟨rfl, rfl⟩ := h
    exact E_vret dX10_bringStarts_97 rfl
  · rw [if_neg c] at h
    refine E_aload_n 0 dX10_bringStarts_32 rfl rfl ?_
    refine E_getR 1 dX10_bringStarts_33 fl_X10_49 rfl (sk_34 hs13) (sn hs13 (by decide)) (sr_34_0 hs13) ?_
    refine E_getR 11 dX10_bringStarts_36 fl_X10_90 rfl (sk_1 hs13) (sn hs13 (by decide)) (sr_1_6 hs13) ?_
    refine E_iload_n 1 dX10_bringStarts_39 rfl rfl ?_
    refine E_iconst (0 : Int32) dX10_bringStarts_40 (by decide) ?_
    obtain ⟨d15, v20, σ16, hD17, hC18, h⟩ := h
    have hs19 := hC18.1.2.2.2.1 hs13
    refine E_callV (As := [.int x1, .int (0 : Int32)]) (rest := []) (r1 := (some (.int v20))) (b := 11) dX10_bringStarts_41 ok_X8_at in_X8_at se_X8_at ml_X10_84 hD17 rfl rfl (Nat.le_of_ble_eq_true rfl) (sk_11 hs13) (sn hs13 (by decide)) (by decide) rfl (by decide +kernel) hC18 ?_
    refine E_istore_n [(2, .int v20), (0, .ref 34), (1, .int x1)] dX10_bringStarts_44 rfl (by decide) rfl ?_
    refine E_aload_n 1 dX10_bringStarts_45 rfl rfl ?_
    refine E_getR 1 dX10_bringStarts_46 fl_X10_49 rfl (sk_34 hs19) (sn hs19 (by decide)) (sr_34_0 hs19) ?_
    refine E_getR 11 dX10_bringStarts_49 fl_X10_90 rfl (sk_1 hs19) (sn hs19 (by decide)) (sr_1_6 hs19) ?_
    refine E_iload_n 2 dX10_bringStarts_52 rfl rfl ?_
    refine E_iconst (2 : Int32) dX10_bringStarts_53 (by decide) ?_
    obtain ⟨d21, v26, σ22, hD23, hC24, h⟩ := h
    have hs25 := hC24.1.2.2.2.1 hs19
    refine E_callV (As := [.int x1, .int (2 : Int32)]) (rest := []) (r1 := (some (.int v26))) (b := 11) dX10_bringStarts_54 ok_X8_at in_X8_at se_X8_at ml_X10_84 hD23 rfl rfl (Nat.le_of_ble_eq_true rfl) (sk_11 hs19) (sn hs19 (by decide)) (by decide) rfl (by decide +kernel) hC24 ?_
    refine E_aload_n 1 dX10_bringStarts_57 rfl rfl ?_
    refine E_getI dX10_bringStarts_58 fl_X10_9 rfl (sk_34 hs25) (sn hs25 (by decide)) ?_
    refine E_icmp_gt 91 dX10_bringStarts_61 (by decide) (fun c => ?_) (fun c => ?_)
    · rw [if_pos c] at h
      exact E_lv [1, 2] rfl (w_X10_bringStarts_91 hs25 h)
    · rw [if_neg c] at h
      refine E_aload_n 1 dX10_bringStarts_64 rfl rfl ?_
      refine E_getR 38 dX10_bringStarts_65 fl_X10_31 rfl (sk_34 hs25) (sn hs25 (by decide)) (sr_34_8 hs25) ?_
      refine E_iload_n 0 dX10_bringStarts_68 rfl rfl ?_
      obtain ⟨g27, h⟩ := h
      refine E_iald2 (v20.toNatClampNeg) dX10_bringStarts_69 (sk_38 hs25) (sn hs25 (by decide)) g27 rfl ?_
      refine E_iconst (-1 : Int32) dX10_bringStarts_70 (by decide) ?_
      refine E_icmp_ne 91 dX10_bringStarts_71 (by decide) (fun c => ?_) (fun c => ?_)
      · rw [if_neg c] at h
        exact E_lv [1, 2] rfl (w_X10_bringStarts_91 hs25 h)
      · rw [if_pos c] at h
        refine E_aload_n 1 dX10_bringStarts_74 rfl rfl ?_
        refine E_iload_n 0 dX10_bringStarts_75 rfl rfl ?_
        refine E_aload_n 1 dX10_bringStarts_76 rfl rfl ?_
        refine E_getR 1 dX10_bringStarts_77 fl_X10_49 rfl (sk_34 hs25) (sn hs25 (by decide)) (sr_34_0 hs25) ?_
        refine E_getR 11 dX10_bringStarts_80 fl_X10_90 rfl (sk_1 hs25) (sn hs25 (by decide)) (sr_1_6 hs25) ?_
        refine E_iload_n 2 dX10_bringStarts_83 rfl rfl ?_
        refine E_iconst (1 : Int32) dX10_bringStarts_84 (by decide) ?_
        obtain ⟨d28, v33, σ29, hD30, hC31, h⟩ := h
        have hs32 := hC31.1.2.2.2.1 hs25
        refine E_callV (As := [.int x1, .int (1 : Int32)]) (rest := [.int v20, .ref 34]) (r1 := (some (.int v33))) (b := 11) dX10_bringStarts_85 ok_X8_at in_X8_at se_X8_at ml_X10_84 hD30 rfl rfl (Nat.le_of_ble_eq_true rfl) (sk_11 hs25) (sn hs25 (by decide)) (by decide) rfl (by decide +kernel) hC31 ?_
        obtain ⟨d34, σ35, hD36, hC37, h⟩ := h
        have hs38 := hC37.1.2.2.2.1 hs32
        refine E_callV (As := [.int v20, .int v33]) (rest := []) (r1 := none) (b := 34) dX10_bringStarts_88 ok_X10_tellStart in_X10_tellStart se_X10_tellStart ml_X10_93 hD36 rfl rfl (Nat.le_of_ble_eq_true rfl) (sk_34 hs32) (sn hs32 (by decide)) (by decide) rfl (by decide +kernel) hC37 ?_
        exact E_lv [1, 2] rfl (w_X10_bringStarts_91 hs38 h)
def W_X10_tellStart_0 (X : Sx) (l : Launch) (D : Nat) (x1 : Int32) (x2 : Int32) (σ : AH) (r : Option Value) (σ' : AH) : Prop := vp_in x1 30 ∧ vp_in x2 260 ∧ vp_in x2 260 ∧ (r = none ∧ σ' = (sI (sI σ 38 x1.toNatClampNeg x2) 39 x2.toNatClampNeg ((gI (sI σ 38 x1.toNatClampNeg x2) 39 x2.toNatClampNeg) + (1 : Int32))))
set_option maxRecDepth 100000 in
theorem w_X10_tellStart_0 {X : Sx} {l : Launch} {D : Nat} {x1 : Int32} {x2 : Int32} {σ : AH} {r : Option Value} {σ' : AH} (hs : Sh σ) (h : W_X10_tellStart_0 X l D x1 x2 σ r σ') : E X l m_X10_tellStart D 0 [(0, .ref 34), (1, .int x1), (2, .int x2)] [] σ r σ' := by
  unfold W_X10_tellStart_0 at h
  refine E_aload_n 0 dX10_tellStart_0 rfl rfl ?_
  refine E_getR 38 dX10_tellStart_1 fl_X10_31 rfl (sk_34 hs) (sn hs (by decide)) (sr_34_8 hs) ?_
  refine E_iload_n 1 dX10_tellStart_4 rfl rfl ?_
  refine E_iload_n 2 dX10_tellStart_5 rfl rfl ?_
  obtain ⟨g1, h⟩ := h
  refine E_iast2 (x1.toNatClampNeg) dX10_tellStart_6 (sk_38 hs) (sn hs (by decide)) (Or.inl (by decide)) g1 rfl ?_
  refine E_aload_n 0 dX10_tellStart_7 rfl rfl ?_
  refine E_getR 39 dX10_tellStart_8 fl_X10_34 rfl (sk_34 hs) (sn hs (by decide)) (sr_34_9 hs) ?_
  refine E_iload_n 2 dX10_tellStart_11 rfl rfl ?_
  refine E_dup2 dX10_tellStart_12 rfl rfl ?_
  obtain ⟨g2, h⟩ := h
  refine E_iald2 (x2.toNatClampNeg) dX10_tellStart_13 (sk_39 hs) (sn hs (by decide)) g2 rfl ?_
  refine E_iconst (1 : Int32) dX10_tellStart_14 (by decide) ?_
  refine E_iadd dX10_tellStart_15 ?_
  obtain ⟨g3, h⟩ := h
  refine E_iast2 (x2.toNatClampNeg) dX10_tellStart_16 (sk_39 hs) (sn hs (by decide)) (Or.inl (by decide)) g3 rfl ?_
  obtain ⟨rfl, rfl⟩ := h
  exact E_vret dX10_tellStart_17 rfl
def W_X10_dropStart_0 (X : Sx) (l : Launch) (D : Nat) (x1 : Int32) (σ : AH) (r : Option Value) (σ' : AH) : Prop := vp_in x1 30 ∧ (if (gI σ 38 x1.toNatClampNeg) = (-1 : Int32) then (r = none ∧ σ' = σ) else vp_in x1 30 ∧ vp_in (gI σ 38 x1.toNatClampNeg) 260 ∧ vp_in (gI σ 38 x1.toNatClampNeg) 260 ∧ vp_in x1 30 ∧ (∀ τ6 : AH, τ6 = (sI (sI σ 39 ((gI σ 38 x1.toNatClampNeg).toNatClampNeg) ((gI σ 39 (gI σ 38 x1.toNatClampNeg).toNatClampNeg) - (1 : Int32))) 38 x1.toNatClampNeg (-1 : Int32)) → (r = none ∧ σ' = τ6)))
set_option maxRecDepth 100000 in
theorem w_X10_dropStart_0 {X : Sx} {l : Launch} {D : Nat} {x1 : Int32} {σ : AH} {r : Option Value} {σ' : AH} (hs : Sh σ) (h : W_X10_dropStart_0 X l D x1 σ r σ') : E X l m_X10_dropStart D 0 [(0, .ref 34), (1, .int x1)] [] σ r σ' := by
  unfold W_X10_dropStart_0 at h
  refine E_aload_n 0 dX10_dropStart_0 rfl rfl ?_
  refine E_getR 38 dX10_dropStart_1 fl_X10_31 rfl (sk_34 hs) (sn hs (by decide)) (sr_34_8 hs) ?_
  refine E_iload_n 1 dX10_dropStart_4 rfl rfl ?_
  obtain ⟨g1, h⟩ := h
  refine E_iald2 (x1.toNatClampNeg) dX10_dropStart_5 (sk_38 hs) (sn hs (by decide)) g1 rfl ?_
  refine E_iconst (-1 : Int32) dX10_dropStart_6 (by decide) ?_
  refine E_icmp_eq 32 dX10_dropStart_7 (by decide) (fun c => ?_) (fun c => ?_)
  · rw [if_pos c] at h
    obtain ⟨rfl, rfl⟩ := h
    exact E_vret dX10_dropStart_32 rfl
  · rw [if_neg c] at h
    refine E_aload_n 0 dX10_dropStart_10 rfl rfl ?_
    refine E_getR 39 dX10_dropStart_11 fl_X10_34 rfl (sk_34 hs) (sn hs (by decide)) (sr_34_9 hs) ?_
    refine E_aload_n 0 dX10_dropStart_14 rfl rfl ?_
    refine E_getR 38 dX10_dropStart_15 fl_X10_31 rfl (sk_34 hs) (sn hs (by decide)) (sr_34_8 hs) ?_
    refine E_iload_n 1 dX10_dropStart_18 rfl rfl ?_
    obtain ⟨g2, h⟩ := h
    refine E_iald2 (x1.toNatClampNeg) dX10_dropStart_19 (sk_38 hs) (sn hs (by decide)) g2 rfl ?_
    refine E_dup2 dX10_dropStart_20 rfl rfl ?_
    obtain ⟨g3, h⟩ := h
    refine E_iald2 ((gI σ 38 x1.toNatClampNeg).toNatClampNeg) dX10_dropStart_21 (sk_39 hs) (sn hs (by decide)) g3 rfl ?_
    refine E_iconst (1 : Int32) dX10_dropStart_22 (by decide) ?_
    refine E_isub dX10_dropStart_23 ?_
    obtain ⟨g4, h⟩ := h
    refine E_iast2 ((gI σ 38 x1.toNatClampNeg).toNatClampNeg) dX10_dropStart_24 (sk_39 hs) (sn hs (by decide)) (Or.inl (by decide)) g4 rfl ?_
    refine E_aload_n 0 dX10_dropStart_25 rfl rfl ?_
    refine E_getR 38 dX10_dropStart_26 fl_X10_31 rfl (sk_34 hs) (sn hs (by decide)) (sr_34_8 hs) ?_
    refine E_iload_n 1 dX10_dropStart_29 rfl rfl ?_
    refine E_iconst (-1 : Int32) dX10_dropStart_30 (by decide) ?_
    obtain ⟨g5, h⟩ := h
    refine E_iast2 (x1.toNatClampNeg) dX10_dropStart_31 (sk_38 hs) (sn hs (by decide)) (Or.inl (by decide)) g5 rfl ?_
    obtain ⟨τ6, e7⟩ : ∃ τ : AH, τ = (sI (sI σ 39 ((gI σ 38 x1.toNatClampNeg).toNatClampNeg) ((gI σ 39 (gI σ 38 x1.toNatClampNeg).toNatClampNeg) - (1 : Int32))) 38 x1.toNatClampNeg (-1 : Int32)) := ⟨_, rfl⟩
    replace h := h τ6 e7
    rw [← e7]
    have hs8 : Sh τ6 := by rw [e7]; exact hs
    obtain ⟨rfl, rfl⟩ := h
    exact E_vret dX10_dropStart_32 rfl
def W_X10_passWeek_0 (X : Sx) (l : Launch) (D : Nat) (x1 : Nat) (x2 : Int32) (σ : AH) (r : Option Value) (σ' : AH) : Prop := E X l m_X10_passWeek D 2 [(0, .ref 34), (1, .ref x1), (2, .int x2), (3, .int (0 : Int32))] [] σ r σ'
set_option maxRecDepth 100000 in
theorem w_X10_passWeek_0 {X : Sx} {l : Launch} {D : Nat} {x1 : Nat} {x2 : Int32} {σ : AH} {r : Option Value} {σ' : AH} (hs : Sh σ) (hmx1 : x1 ∈ siteIds) (h : W_X10_passWeek_0 X l D x1 x2 σ r σ') : E X l m_X10_passWeek D 0 [(0, .ref 34), (1, .ref x1), (2, .int x2)] [] σ r σ' := by
  unfold W_X10_passWeek_0 at h
  refine E_iconst (0 : Int32) dX10_passWeek_0 (by decide) ?_
  refine E_istore_n [(3, .int (0 : Int32)), (0, .ref 34), (1, .ref x1), (2, .int x2)] dX10_passWeek_1 rfl (by decide) rfl ?_
  exact E_lv [1, 2, 3, 0] rfl h
def W_X10_passWeek_2 (X : Sx) (l : Launch) (D : Nat) (x1 : Nat) (x2 : Int32) (x3 : Int32) (σ : AH) (r : Option Value) (σ' : AH) : Prop := (if (5 : Int32) ≤ x3 then E X l m_X10_passWeek D 34 [(0, .ref 34), (1, .ref x1), (2, .int x2), (3, .int (0 : Int32))] [] σ r σ' else vp_in x3 5 ∧ vp_in ((x2 * (5 : Int32)) + x3) 1300 ∧ vp_in x3 5 ∧ E X l m_X10_passWeek D 2 [(0, .ref 34), (1, .ref x1), (2, .int x2), (3, .int (x3 + 1))] [] (sI σ (x1 + 1) x3.toNatClampNeg ((gI σ (x1 + 1) x3.toNatClampNeg) + (gI σ 35 ((x2 * (5 : Int32)) + x3).toNatClampNeg))) r σ')
set_option maxRecDepth 100000 in
theorem w_X10_passWeek_2 {X : Sx} {l : Launch} {D : Nat} {x1 : Nat} {x2 : Int32} {x3 : Int32} {σ : AH} {r : Option Value} {σ' : AH} (hs : Sh σ) (hmx1 : x1 ∈ siteIds) (h : W_X10_passWeek_2 X l D x1 x2 x3 σ r σ') : E X l m_X10_passWeek D 2 [(0, .ref 34), (1, .ref x1), (2, .int x2), (3, .int x3)] [] σ r σ' := by
  unfold W_X10_passWeek_2 at h
  refine E_iload_n 3 dX10_passWeek_2 rfl rfl ?_
  refine E_iconst (5 : Int32) dX10_passWeek_3 (by decide) ?_
  refine E_icmp_ge 32 dX10_passWeek_4 (by decide) (fun c => ?_) (fun c => ?_)
  · rw [if_pos c] at h
    refine E_iconst (0 : Int32) dX10_passWeek_32 (by decide) ?_
    refine E_istore_n [(3, .int (0 : Int32)), (0, .ref 34), (1, .ref x1), (2, .int x2)] dX10_passWeek_33 rfl (by decide) rfl ?_
    exact E_lv [1, 2, 3, 0] rfl h
  · rw [if_neg c] at h
    refine E_aload_n 1 dX10_passWeek_7 rfl rfl ?_
    refine E_getR (x1 + 1) dX10_passWeek_8 fl_X10_97 rfl (st_k hs hmx1) (st_n hs hmx1 (j := 0) (by decide)) (st_r0 hs hmx1) ?_
    refine E_iload_n 3 dX10_passWeek_11 rfl rfl ?_
    refine E_dup2 dX10_passWeek_12 rfl rfl ?_
    obtain ⟨g1, h⟩ := h
    refine E_iald2 (x3.toNatClampNeg) dX10_passWeek_13 (sk_stock hs (st_stock hmx1)) (sn_stock hs (st_stock hmx1)) g1 rfl ?_
    refine E_aload_n 0 dX10_passWeek_14 rfl rfl ?_
    refine E_getR 35 dX10_passWeek_15 fl_X10_21 rfl (sk_34 hs) (sn hs (by decide)) (sr_34_5 hs) ?_
    refine E_iload_n 2 dX10_passWeek_18 rfl rfl ?_
    refine E_iconst (5 : Int32) dX10_passWeek_19 (by decide) ?_
    refine E_imul dX10_passWeek_20 ?_
    refine E_iload_n 3 dX10_passWeek_21 rfl rfl ?_
    refine E_iadd dX10_passWeek_22 ?_
    obtain ⟨g2, h⟩ := h
    refine E_iald2 (((x2 * (5 : Int32)) + x3).toNatClampNeg) dX10_passWeek_23 (sk_35 hs) (sn hs (by decide)) g2 rfl ?_
    refine E_iadd dX10_passWeek_24 ?_
    obtain ⟨g3, h⟩ := h
    refine E_iast2 (x3.toNatClampNeg) dX10_passWeek_25 (sk_stock hs (st_stock hmx1)) (sn_stock hs (st_stock hmx1)) (Or.inl ((by decide : ∀ b ∈ stockIds, m_X10_passWeek.2.2.2.2.1.contains b = true) _ (st_stock hmx1))) g3 rfl ?_
    refine E_iinc 3 (x3 + 1) [(3, .int (x3 + 1)), (0, .ref 34), (1, .ref x1), (2, .int x2)] dX10_passWeek_26 rfl (congrArg (x3 + ·) (by decide : Int32.ofInt 1 = 1)) (by decide) rfl ?_
    refine E_goto 2 dX10_passWeek_29 (by decide) ?_
    exact E_lv [1, 2, 3, 0] rfl h
def W_X10_passWeek_74 (X : Sx) (l : Launch) (D : Nat) (x1 : Nat) (x2 : Int32) (x3 : Int32) (σ : AH) (r : Option Value) (σ' : AH) : Prop := E X l m_X10_passWeek D 34 [(0, .ref 34), (1, .ref x1), (2, .int x2), (3, .int (x3 + 1))] [] σ r σ'
set_option maxRecDepth 100000 in
theorem w_X10_passWeek_74 {X : Sx} {l : Launch} {D : Nat} {x1 : Nat} {x2 : Int32} {x3 : Int32} {σ : AH} {r : Option Value} {σ' : AH} (hs : Sh σ) (hmx1 : x1 ∈ siteIds) (h : W_X10_passWeek_74 X l D x1 x2 x3 σ r σ') : E X l m_X10_passWeek D 74 [(0, .ref 34), (1, .ref x1), (2, .int x2), (3, .int x3)] [] σ r σ' := by
  unfold W_X10_passWeek_74 at h
  refine E_iinc 3 (x3 + 1) [(3, .int (x3 + 1)), (0, .ref 34), (1, .ref x1), (2, .int x2)] dX10_passWeek_74 rfl (congrArg (x3 + ·) (by decide : Int32.ofInt 1 = 1)) (by decide) rfl ?_
  refine E_goto 34 dX10_passWeek_77 (by decide) ?_
  exact E_lv [1, 2, 3, 0] rfl h
def W_X10_passWeek_34 (X : Sx) (l : Launch) (D : Nat) (x1 : Nat) (x2 : Int32) (x3 : Int32) (σ : AH) (r : Option Value) (σ' : AH) : Prop := ∃ d4 : Nat, ∃ v9 : Int32, ∃ σ5 : AH, d4 + 1 ≤ D ∧ Call X l m_X8_rows d4 [.ref 5] σ (some (.int v9)) σ5 ∧ (if v9 ≤ x3 then ∃ d10 : Nat, ∃ σ11 : AH, d10 + 1 ≤ D ∧ Call X l m_X10_lineUp d10 [.ref 34, .ref x1, .int x2] σ5 none σ11 ∧ (if (gI σ11 x1 2) = 0 then (r = none ∧ σ' = σ11) else ¬ (x2 * (6 : Int32)) < 0 ∧ (x2 * (6 : Int32)).toNatClampNeg + 6 ≤ 1560 ∧ 0 + 6 ≤ 6 ∧ 1 ≤ D ∧ (∀ τ21 : AH, τ21 = (sA σ11 37 (va_cpy (gI σ11 36) (gI σ11 37) ((x2 * (6 : Int32)).toNatClampNeg) 0 6)) → ∃ d24 : Nat, ∃ v29 : Int32, ∃ σ25 : AH, d24 + 1 ≤ D ∧ Call X l m_X10_firstKind d24 [.ref 34, .int x2] τ21 (some (.int v29)) σ25 ∧ E X l m_X10_passWeek D 121 [(0, .ref 34), (1, .ref x1), (2, .int x2), (3, .int v29), (4, .int (0 : Int32))] [] σ25 r σ')) else ∃ d30 : Nat, ∃ v35 : Int32, ∃ σ31 : AH, d30 + 1 ≤ D ∧ Call X l m_X8_at d30 [.ref 5, .int x3, .int (7 : Int32)] σ5 (some (.int v35)) σ31 ∧ (if x2 < v35 then W_X10_passWeek_74 X l D x1 x2 x3 σ31 r σ' else ∃ d36 : Nat, ∃ σ37 : AH, d36 + 1 ≤ D ∧ Call X l m_X10_doBatches d36 [.ref 34, .ref (x1 + 1), .int x3] σ31 none σ37 ∧ W_X10_passWeek_74 X l D x1 x2 x3 σ37 r σ'))
set_option maxRecDepth 100000 in
theorem w_X10_passWeek_34 {X : Sx} {l : Launch} {D : Nat} {x1 : Nat} {x2 : Int32} {x3 : Int32} {σ : AH} {r : Option Value} {σ' : AH} (hs : Sh σ) (hmx1 : x1 ∈ siteIds) (h : W_X10_passWeek_34 X l D x1 x2 x3 σ r σ') : E X l m_X10_passWeek D 34 [(0, .ref 34), (1, .ref x1), (2, .int x2), (3, .int x3)] [] σ r σ' := by
  unfold W_X10_passWeek_34 at h
  refine E_iload_n 3 dX10_passWeek_34 rfl rfl ?_
  refine E_aload_n 0 dX10_passWeek_35 rfl rfl ?_
  refine E_getR 1 dX10_passWeek_36 fl_X10_49 rfl (sk_34 hs) (sn hs (by decide)) (sr_34_0 hs) ?_
  refine E_getR 5 dX10_passWeek_39 fl_X10_102 rfl (sk_1 hs) (sn hs (by decide)) (sr_1_3 hs) ?_
  obtain ⟨d4, v9, σ5, hD6, hC7, h⟩ := h
  have hs8 := hC7.1.2.2.2.1 hs
  refine E_callV (As := []) (rest := [.int x3]) (r1 := (some (.int v9))) (b := 5) dX10_passWeek_42 ok_X8_rows in_X8_rows se_X8_rows ml_X10_78 hD6 rfl rfl (Nat.le_of_ble_eq_true rfl) (sk_5 hs) (sn hs (by decide)) (by decide) rfl (by decide +kernel) hC7 ?_
  refine E_icmp_ge 80 dX10_passWeek_45 (by decide) (fun c => ?_) (fun c => ?_)
  · rw [if_pos c] at h
    refine E_aload_n 0 dX10_passWeek_80 rfl rfl ?_
    refine E_aload_n 1 dX10_passWeek_81 rfl rfl ?_
    refine E_iload_n 2 dX10_passWeek_82 rfl rfl ?_
    obtain ⟨d10, σ11, hD12, hC13, h⟩ := h
    have hs14 := hC13.1.2.2.2.1 hs8
    refine E_callV (As := [.ref x1, .int x2]) (rest := []) (r1 := none) (b := 34) dX10_passWeek_83 ok_X10_lineUp in_X10_lineUp se_X10_lineUp ml_X10_108 hD12 rfl rfl (Nat.le_of_ble_eq_true rfl) (sk_34 hs8) (sn hs8 (by decide)) (by decide) rfl (by decide +kernel) hC13 ?_
    refine E_aload_n 1 dX10_passWeek_86 rfl rfl ?_
    refine E_getI dX10_passWeek_87 fl_X10_112 rfl (st_k hs14 hmx1) (st_n hs14 hmx1 (j := 0) (by decide)) ?_
    refine E_if_ne 94 dX10_passWeek_90 (by decide) (fun c => ?_) (fun c => ?_)
    · rw [if_neg c] at h
      refine E_aload_n 0 dX10_passWeek_94 rfl rfl ?_
      refine E_getR 36 dX10_passWeek_95 fl_X10_25 rfl (sk_34 hs14) (sn hs14 (by decide)) (sr_34_6 hs14) ?_
      refine E_iload_n 2 dX10_passWeek_98 rfl rfl ?_
      refine E_bipush (6 : Int32) dX10_passWeek_99 (by decide) ?_
      refine E_imul dX10_passWeek_101 ?_
      refine E_aload_n 0 dX10_passWeek_102 rfl rfl ?_
      refine E_getR 37 dX10_passWeek_103 fl_X10_28 rfl (sk_34 hs14) (sn hs14 (by decide)) (sr_34_7 hs14) ?_
      refine E_iconst (0 : Int32) dX10_passWeek_106 (by decide) ?_
      refine E_bipush (6 : Int32) dX10_passWeek_107 (by decide) ?_
      obtain ⟨g15, g18, g19, g20, h⟩ := h
      refine E_copy2 ((x2 * (6 : Int32)).toNatClampNeg) (0) (6) dX10_passWeek_109 ma_X10_115 (sk_36 hs14) (sn hs14 (by decide)) (sk_37 hs14) (sn hs14 (by decide)) g15 (by decide) (by decide) rfl (by decide) (by decide) g18 g19 g20 (Nat.le_of_ble_eq_true rfl) (Or.inl (by decide)) ?_
      obtain ⟨τ21, e22⟩ : ∃ τ : AH, τ = (sA σ11 37 (va_cpy (gI σ11 36) (gI σ11 37) ((x2 * (6 : Int32)).toNatClampNeg) 0 6)) := ⟨_, rfl⟩
      replace h := h τ21 e22
      rw [← e22]
      have hs23 : Sh τ21 := by rw [e22]; exact hs14
      refine E_aload_n 0 dX10_passWeek_112 rfl rfl ?_
      refine E_iload_n 2 dX10_passWeek_113 rfl rfl ?_
      obtain ⟨d24, v29, σ25, hD26, hC27, h⟩ := h
      have hs28 := hC27.1.2.2.2.1 hs23
      refine E_callV (As := [.int x2]) (rest := []) (r1 := (some (.int v29))) (b := 34) dX10_passWeek_114 ok_X10_firstKind in_X10_firstKind se_X10_firstKind ml_X10_121 hD26 rfl rfl (Nat.le_of_ble_eq_true rfl) (sk_34 hs23) (sn hs23 (by decide)) (by decide) rfl (by decide +kernel) hC27 ?_
      refine E_istore_n [(3, .int v29), (0, .ref 34), (1, .ref x1), (2, .int x2)] dX10_passWeek_117 rfl (by decide) rfl ?_
      refine E_iconst (0 : Int32) dX10_passWeek_118 (by decide) ?_
      refine E_istore [(4, .int (0 : Int32)), (3, .int v29), (0, .ref 34), (1, .ref x1), (2, .int x2)] dX10_passWeek_119 (by decide) rfl ?_
      exact E_lv [2, 3, 4, 1, 0] rfl h
    · rw [if_pos c] at h
      obtain ⟨rfl, rfl⟩ := h
      exact E_vret dX10_passWeek_93 rfl
  · rw [if_neg c] at h
    refine E_aload_n 0 dX10_passWeek_48 rfl rfl ?_
    refine E_getR 1 dX10_passWeek_49 fl_X10_49 rfl (sk_34 hs8) (sn hs8 (by decide)) (sr_34_0 hs8) ?_
    refine E_getR 5 dX10_passWeek_52 fl_X10_102 rfl (sk_1 hs8) (sn hs8 (by decide)) (sr_1_3 hs8) ?_
    refine E_iload_n 3 dX10_passWeek_55 rfl rfl ?_
    refine E_bipush (7 : Int32) dX10_passWeek_56 (by decide) ?_
    obtain ⟨d30, v35, σ31, hD32, hC33, h⟩ := h
    have hs34 := hC33.1.2.2.2.1 hs8
    refine E_callV (As := [.int x3, .int (7 : Int32)]) (rest := []) (r1 := (some (.int v35))) (b := 5) dX10_passWeek_58 ok_X8_at in_X8_at se_X8_at ml_X10_84 hD32 rfl rfl (Nat.le_of_ble_eq_true rfl) (sk_5 hs8) (sn hs8 (by decide)) (by decide) rfl (by decide +kernel) hC33 ?_
    refine E_iload_n 2 dX10_passWeek_61 rfl rfl ?_
    refine E_icmp_gt 74 dX10_passWeek_62 (by decide) (fun c => ?_) (fun c => ?_)
    · rw [if_pos c] at h
      exact E_lv [0, 1, 2, 3] rfl (w_X10_passWeek_74 hs34 hmx1 h)
    · rw [if_neg c] at h
      refine E_aload_n 0 dX10_passWeek_65 rfl rfl ?_
      refine E_aload_n 1 dX10_passWeek_66 rfl rfl ?_
      refine E_getR (x1 + 1) dX10_passWeek_67 fl_X10_97 rfl (st_k hs34 hmx1) (st_n hs34 hmx1 (j := 0) (by decide)) (st_r0 hs34 hmx1) ?_
      refine E_iload_n 3 dX10_passWeek_70 rfl rfl ?_
      obtain ⟨d36, σ37, hD38, hC39, h⟩ := h
      have hs40 := hC39.1.2.2.2.1 hs34
      refine E_callV (As := [.ref (x1 + 1), .int x3]) (rest := []) (r1 := none) (b := 34) dX10_passWeek_71 ok_X10_doBatches in_X10_doBatches se_X10_doBatches ml_X10_105 hD38 rfl rfl (Nat.le_of_ble_eq_true rfl) (sk_34 hs34) (sn hs34 (by decide)) (by decide) rfl (by decide +kernel) hC39 ?_
      exact E_lv [0, 1, 2, 3] rfl (w_X10_passWeek_74 hs40 hmx1 h)
def W_X10_passWeek_121 (X : Sx) (l : Launch) (D : Nat) (x1 : Nat) (x2 : Int32) (x3 : Int32) (x4 : Int32) (σ : AH) (r : Option Value) (σ' : AH) : Prop := (if (2 : Int32) ≤ x4 then (r = none ∧ σ' = σ) else E X l m_X10_passWeek D 130 [(0, .ref 34), (1, .ref x1), (2, .int x2), (3, .int x3), (4, .int x4), (5, .int (0 : Int32))] [] σ r σ')
set_option maxRecDepth 100000 in
theorem w_X10_passWeek_121 {X : Sx} {l : Launch} {D : Nat} {x1 : Nat} {x2 : Int32} {x3 : Int32} {x4 : Int32} {σ : AH} {r : Option Value} {σ' : AH} (hs : Sh σ) (hmx1 : x1 ∈ siteIds) (h : W_X10_passWeek_121 X l D x1 x2 x3 x4 σ r σ') : E X l m_X10_passWeek D 121 [(0, .ref 34), (1, .ref x1), (2, .int x2), (3, .int x3), (4, .int x4)] [] σ r σ' := by
  unfold W_X10_passWeek_121 at h
  refine E_iload 4 dX10_passWeek_121 rfl ?_
  refine E_iconst (2 : Int32) dX10_passWeek_123 (by decide) ?_
  refine E_icmp_ge 212 dX10_passWeek_124 (by decide) (fun c => ?_) (fun c => ?_)
  · rw [if_pos c] at h
    obtain ⟨rfl, rfl⟩ := h
    exact E_vret dX10_passWeek_212 rfl
  · rw [if_neg c] at h
    refine E_iconst (0 : Int32) dX10_passWeek_127 (by decide) ?_
    refine E_istore [(5, .int (0 : Int32)), (0, .ref 34), (1, .ref x1), (2, .int x2), (3, .int x3), (4, .int x4)] dX10_passWeek_128 (by decide) rfl ?_
    exact E_lv [1, 2, 3, 4, 5, 0] rfl h
def W_X10_passWeek_200 (X : Sx) (l : Launch) (D : Nat) (x1 : Nat) (x2 : Int32) (x3 : Int32) (x4 : Int32) (x5 : Int32) (σ : AH) (r : Option Value) (σ' : AH) : Prop := E X l m_X10_passWeek D 130 [(0, .ref 34), (1, .ref x1), (2, .int x2), (3, .int x3), (4, .int x4), (5, .int (x5 + 1))] [] σ r σ'
set_option maxRecDepth 100000 in
theorem w_X10_passWeek_200 {X : Sx} {l : Launch} {D : Nat} {x1 : Nat} {x2 : Int32} {x3 : Int32} {x4 : Int32} {x5 : Int32} {σ : AH} {r : Option Value} {σ' : AH} (hs : Sh σ) (hmx1 : x1 ∈ siteIds) (h : W_X10_passWeek_200 X l D x1 x2 x3 x4 x5 σ r σ') : E X l m_X10_passWeek D 200 [(0, .ref 34), (1, .ref x1), (2, .int x2), (3, .int x3), (4, .int x4), (5, .int x5)] [] σ r σ' := by
  unfold W_X10_passWeek_200 at h
  refine E_iinc 5 (x5 + 1) [(5, .int (x5 + 1)), (0, .ref 34), (1, .ref x1), (2, .int x2), (3, .int x3), (4, .int x4)] dX10_passWeek_200 rfl (congrArg (x5 + ·) (by decide : Int32.ofInt 1 = 1)) (by decide) rfl ?_
  refine E_goto 130 dX10_passWeek_203 (by decide) ?_
  exact E_lv [1, 2, 3, 4, 5, 0] rfl h
def W_X10_passWeek_180 (X : Sx) (l : Launch) (D : Nat) (x1 : Nat) (x2 : Int32) (x3 : Int32) (x4 : Int32) (x5 : Int32) (x6 : Int32) (y0 : Int32) (y1 : Int32) (σ : AH) (r : Option Value) (σ' : AH) : Prop := (if y1 = y0 then ∃ d48 : Nat, ∃ v53 : Int32, ∃ σ49 : AH, d48 + 1 ≤ D ∧ Call X l m_X7_isDone d48 [.ref x1, .int x6] σ (some (.int v53)) σ49 ∧ (if v53 = 0 then ∃ d54 : Nat, ∃ σ55 : AH, d54 + 1 ≤ D ∧ Call X l m_X10_serve d54 [.ref 34, .ref x1, .int x6, .int x2] σ49 none σ55 ∧ W_X10_passWeek_200 X l D x1 x2 x3 x4 x5 σ55 r σ' else W_X10_passWeek_200 X l D x1 x2 x3 x4 x5 σ49 r σ') else W_X10_passWeek_200 X l D x1 x2 x3 x4 x5 σ r σ')
set_option maxRecDepth 100000 in
theorem w_X10_passWeek_180 {X : Sx} {l : Launch} {D : Nat} {x1 : Nat} {x2 : Int32} {x3 : Int32} {x4 : Int32} {x5 : Int32} {x6 : Int32} {y0 : Int32} {y1 : Int32} {σ : AH} {r : Option Value} {σ' : AH} (hs : Sh σ) (hmx1 : x1 ∈ siteIds) (h : W_X10_passWeek_180 X l D x1 x2 x3 x4 x5 x6 y0 y1 σ r σ') : E X l m_X10_passWeek D 180 [(0, .ref 34), (1, .ref x1), (2, .int x2), (3, .int x3), (4, .int x4), (5, .int x5), (6, .int x6)] [.int y0, .int y1] σ r σ' := by
  unfold W_X10_passWeek_180 at h
  refine E_icmp_ne 200 dX10_passWeek_180 (by decide) (fun c => ?_) (fun c => ?_)
  · rw [if_neg c] at h
    exact E_lv [0, 1, 2, 3, 4, 5] rfl (w_X10_passWeek_200 hs hmx1 h)
  · rw [if_pos c] at h
    refine E_aload_n 1 dX10_passWeek_183 rfl rfl ?_
    refine E_iload 6 dX10_passWeek_184 rfl ?_
    obtain ⟨d48, v53, σ49, hD50, hC51, h⟩ := h
    have hs52 := hC51.1.2.2.2.1 hs
    refine E_callV (As := [.int x6]) (rest := []) (r1 := (some (.int v53))) (b := x1) dX10_passWeek_186 ok_X7_isDone in_X7_isDone se_X7_isDone ml_X10_131 hD50 rfl rfl (Nat.le_of_ble_eq_true rfl) (st_k hs hmx1) (st_n hs hmx1 (j := 0) (by decide)) (by decide) rfl (by decide +kernel) hC51 ?_
    refine E_if_ne 200 dX10_passWeek_189 (by decide) (fun c => ?_) (fun c => ?_)
    · rw [if_neg c] at h
      exact E_lv [0, 1, 2, 3, 4, 5] rfl (w_X10_passWeek_200 hs52 hmx1 h)
    · rw [if_pos c] at h
      refine E_aload_n 0 dX10_passWeek_192 rfl rfl ?_
      refine E_aload_n 1 dX10_passWeek_193 rfl rfl ?_
      refine E_iload 6 dX10_passWeek_194 rfl ?_
      refine E_iload_n 2 dX10_passWeek_196 rfl rfl ?_
      obtain ⟨d54, σ55, hD56, hC57, h⟩ := h
      have hs58 := hC57.1.2.2.2.1 hs52
      refine E_callV (As := [.ref x1, .int x6, .int x2]) (rest := []) (r1 := none) (b := 34) dX10_passWeek_197 ok_X10_serve in_X10_serve se_X10_serve ml_X10_135 hD56 rfl rfl (Nat.le_of_ble_eq_true rfl) (sk_34 hs52) (sn hs52 (by decide)) (by decide) rfl (by decide +kernel) hC57 ?_
      exact E_lv [0, 1, 2, 3, 4, 5] rfl (w_X10_passWeek_200 hs58 hmx1 h)
def W_X10_passWeek_170 (X : Sx) (l : Launch) (D : Nat) (x1 : Nat) (x2 : Int32) (x3 : Int32) (x4 : Int32) (x5 : Int32) (x6 : Int32) (y0 : Int32) (σ : AH) (r : Option Value) (σ' : AH) : Prop := (if x4 = 0 then W_X10_passWeek_180 X l D x1 x2 x3 x4 x5 x6 (1 : Int32) y0 σ r σ' else W_X10_passWeek_180 X l D x1 x2 x3 x4 x5 x6 (0 : Int32) y0 σ r σ')
set_option maxRecDepth 100000 in
theorem w_X10_passWeek_170 {X : Sx} {l : Launch} {D : Nat} {x1 : Nat} {x2 : Int32} {x3 : Int32} {x4 : Int32} {x5 : Int32} {x6 : Int32} {y0 : Int32} {σ : AH} {r : Option Value} {σ' : AH} (hs : Sh σ) (hmx1 : x1 ∈ siteIds) (h : W_X10_passWeek_170 X l D x1 x2 x3 x4 x5 x6 y0 σ r σ') : E X l m_X10_passWeek D 170 [(0, .ref 34), (1, .ref x1), (2, .int x2), (3, .int x3), (4, .int x4), (5, .int x5), (6, .int x6)] [.int y0] σ r σ' := by
  unfold W_X10_passWeek_170 at h
  refine E_iload 4 dX10_passWeek_170 rfl ?_
  refine E_if_ne 179 dX10_passWeek_172 (by decide) (fun c => ?_) (fun c => ?_)
  · rw [if_neg c] at h
    refine E_iconst (0 : Int32) dX10_passWeek_179 (by decide) ?_
    exact E_lv [0, 1, 2, 3, 4, 5, 6] rfl (w_X10_passWeek_180 hs hmx1 h)
  · rw [if_pos c] at h
    refine E_iconst (1 : Int32) dX10_passWeek_175 (by decide) ?_
    refine E_goto 180 dX10_passWeek_176 (by decide) ?_
    exact E_lv [0, 1, 2, 3, 4, 5, 6] rfl (w_X10_passWeek_180 hs hmx1 h)
def W_X10_passWeek_130 (X : Sx) (l : Launch) (D : Nat) (x1 : Nat) (x2 : Int32) (x3 : Int32) (x4 : Int32) (x5 : Int32) (σ : AH) (r : Option Value) (σ' : AH) : Prop := (if (gI σ x1 2) ≤ x5 then E X l m_X10_passWeek D 121 [(0, .ref 34), (1, .ref x1), (2, .int x2), (3, .int x3), (4, .int (x4 + 1))] [] σ r σ' else vp_in x5 30 ∧ ∃ d42 : Nat, ∃ v47 : Int32, ∃ σ43 : AH, d42 + 1 ≤ D ∧ Call X l m_X8_at d42 [.ref 9, .int (gI σ (x1 + 2) x5.toNatClampNeg), .int (1 : Int32)] σ (some (.int v47)) σ43 ∧ (if v47 = x3 then W_X10_passWeek_170 X l D x1 x2 x3 x4 x5 (gI σ (x1 + 2) x5.toNatClampNeg) (1 : Int32) σ43 r σ' else W_X10_passWeek_170 X l D x1 x2 x3 x4 x5 (gI σ (x1 + 2) x5.toNatClampNeg) (0 : Int32) σ43 r σ'))
set_option maxRecDepth 100000 in
theorem w_X10_passWeek_130 {X : Sx} {l : Launch} {D : Nat} {x1 : Nat} {x2 : Int32} {x3 : Int32} {x4 : Int32} {x5 : Int32} {σ : AH} {r : Option Value} {σ' : AH} (hs : Sh σ) (hmx1 : x1 ∈ siteIds) (h : W_X10_passWeek_130 X l D x1 x2 x3 x4 x5 σ r σ') : E X l m_X10_passWeek D 130 [(0, .ref 34), (1, .ref x1), (2, .int x2), (3, .int x3), (4, .int x4), (5, .int x5)] [] σ r σ' := by
  unfold W_X10_passWeek_130 at h
  refine E_iload 5 dX10_passWeek_130 rfl ?_
  refine E_aload_n 1 dX10_passWeek_132 rfl rfl ?_
  refine E_getI dX10_passWeek_133 fl_X10_112 rfl (st_k hs hmx1) (st_n hs hmx1 (j := 0) (by decide)) ?_
  refine E_icmp_ge 206 dX10_passWeek_136 (by decide) (fun c => ?_) (fun c => ?_)
  · rw [if_pos c] at h
    refine E_iinc 4 (x4 + 1) [(4, .int (x4 + 1)), (0, .ref 34), (1, .ref x1), (2, .int x2), (3, .int x3), (5, .int x5)] dX10_passWeek_206 rfl (congrArg (x4 + ·) (by decide : Int32.ofInt 1 = 1)) (by decide) rfl ?_
    refine E_goto 121 dX10_passWeek_209 (by decide) ?_
    exact E_lv [1, 2, 3, 4, 0] rfl h
  · rw [if_neg c] at h
    refine E_aload_n 1 dX10_passWeek_139 rfl rfl ?_
    refine E_getR (x1 + 2) dX10_passWeek_140 fl_X10_125 rfl (st_k hs hmx1) (st_n hs hmx1 (j := 0) (by decide)) (st_r1 hs hmx1) ?_
    refine E_iload 5 dX10_passWeek_143 rfl ?_
    obtain ⟨g41, h⟩ := h
    refine E_iald2 (x5.toNatClampNeg) dX10_passWeek_145 (st_ka2 hs hmx1) (st_n hs hmx1 (by decide)) g41 rfl ?_
    refine E_istore [(6, .int (gI σ (x1 + 2) x5.toNatClampNeg)), (0, .ref 34), (1, .ref x1), (2, .int x2), (3, .int x3), (4, .int x4), (5, .int x5)] dX10_passWeek_146 (by decide) rfl ?_
    refine E_aload_n 1 dX10_passWeek_148 rfl rfl ?_
    refine E_getR 1 dX10_passWeek_149 fl_X10_49 rfl (sk_34 hs) (sn hs (by decide)) (sr_34_0 hs) ?_
    refine E_getR 9 dX10_passWeek_152 fl_X10_128 rfl (sk_1 hs) (sn hs (by decide)) (sr_1_5 hs) ?_
    refine E_iload 0 dX10_passWeek_155 rfl ?_
    refine E_iconst (1 : Int32) dX10_passWeek_157 (by decide) ?_
    obtain ⟨d42, v47, σ43, hD44, hC45, h⟩ := h
    have hs46 := hC45.1.2.2.2.1 hs
    refine E_callV (As := [.int (gI σ (x1 + 2) x5.toNatClampNeg), .int (1 : Int32)]) (rest := []) (r1 := (some (.int v47))) (b := 9) dX10_passWeek_158 ok_X8_at in_X8_at se_X8_at ml_X10_84 hD44 rfl rfl (Nat.le_of_ble_eq_true rfl) (sk_9 hs) (sn hs (by decide)) (by decide) rfl (by decide +kernel) hC45 ?_
    refine E_iload_n 4 dX10_passWeek_161 rfl rfl ?_
    refine E_icmp_ne 169 dX10_passWeek_162 (by decide) (fun c => ?_) (fun c => ?_)
    · rw [if_neg c] at h
      refine E_iconst (0 : Int32) dX10_passWeek_169 (by decide) ?_
      exact E_lv [1, 2, 3, 4, 5, 6, 0] rfl (w_X10_passWeek_170 hs46 hmx1 h)
    · rw [if_pos c] at h
      refine E_iconst (1 : Int32) dX10_passWeek_165 (by decide) ?_
      refine E_goto 170 dX10_passWeek_166 (by decide) ?_
      exact E_lv [1, 2, 3, 4, 5, 6, 0] rfl (w_X10_passWeek_170 hs46 hmx1 h)
def W_X10_doBatches_123 (X : Sx) (l : Launch) (D : Nat) (x1 : Nat) (x2 : Int32) (x3 : Int32) (x4 : Int32) (x5 : Int32) (x6 : Int32) (x7 : Int32) (σ : AH) (r : Option Value) (σ' : AH) : Prop := vp_in x3 5 ∧ vp_in x3 5 ∧ vp_in x4 5 ∧ vp_in x4 5 ∧ (∀ τ41 : AH, τ41 = (sI (sI σ x1 x3.toNatClampNeg ((gI σ x1 x3.toNatClampNeg) - (x7 * x5))) x1 x4.toNatClampNeg ((gI (sI σ x1 x3.toNatClampNeg ((gI σ x1 x3.toNatClampNeg) - (x7 * x5))) x1 x4.toNatClampNeg) - (x7 * x6))) → ∃ d44 : Nat, ∃ v49 : Int32, ∃ σ45 : AH, d44 + 1 ≤ D ∧ Call X l m_X8_at d44 [.ref 5, .int x2, .int (4 : Int32)] τ41 (some (.int v49)) σ45 ∧ vp_in v49 5 ∧ ∃ d51 : Nat, ∃ v56 : Int32, ∃ σ52 : AH, d51 + 1 ≤ D ∧ Call X l m_X8_at d51 [.ref 5, .int x2, .int (5 : Int32)] σ45 (some (.int v56)) σ52 ∧ vp_in v49 5 ∧ (r = none ∧ σ' = (sI σ52 x1 v49.toNatClampNeg ((gI σ45 x1 v49.toNatClampNeg) + (x7 * v56)))))
set_option maxRecDepth 100000 in
theorem w_X10_doBatches_123 {X : Sx} {l : Launch} {D : Nat} {x1 : Nat} {x2 : Int32} {x3 : Int32} {x4 : Int32} {x5 : Int32} {x6 : Int32} {x7 : Int32} {σ : AH} {r : Option Value} {σ' : AH} (hs : Sh σ) (hmx1 : x1 ∈ stockIds) (h : W_X10_doBatches_123 X l D x1 x2 x3 x4 x5 x6 x7 σ r σ') : E X l m_X10_doBatches D 123 [(0, .ref 34), (1, .ref x1), (2, .int x2), (3, .int x3), (4, .int x4), (5, .int x5), (6, .int x6), (7, .int x7)] [] σ r σ' := by
  unfold W_X10_doBatches_123 at h
  refine E_aload_n 1 dX10_doBatches_123 rfl rfl ?_
  refine E_iload_n 3 dX10_doBatches_124 rfl rfl ?_
  refine E_dup2 dX10_doBatches_125 rfl rfl ?_
  obtain ⟨g37, h⟩ := h
  refine E_iald2 (x3.toNatClampNeg) dX10_doBatches_126 (sk_stock hs hmx1) (sn_stock hs hmx1) g37 rfl ?_
  refine E_iload 7 dX10_doBatches_127 rfl ?_
  refine E_iload 5 dX10_doBatches_129 rfl ?_
  refine E_imul dX10_doBatches_131 ?_
  refine E_isub dX10_doBatches_132 ?_
  obtain ⟨g38, h⟩ := h
  refine E_iast2 (x3.toNatClampNeg) dX10_doBatches_133 (sk_stock hs hmx1) (sn_stock hs hmx1) (Or.inl ((by decide : ∀ b ∈ stockIds, m_X10_doBatches.2.2.2.2.1.contains b = true) _ hmx1)) g38 rfl ?_
  refine E_aload_n 1 dX10_doBatches_134 rfl rfl ?_
  refine E_iload 4 dX10_doBatches_135 rfl ?_
  refine E_dup2 dX10_doBatches_137 rfl rfl ?_
  obtain ⟨g39, h⟩ := h
  refine E_iald2 (x4.toNatClampNeg) dX10_doBatches_138 (sk_stock hs hmx1) (sn_stock hs hmx1) g39 rfl ?_
  refine E_iload 7 dX10_doBatches_139 rfl ?_
  refine E_iload 6 dX10_doBatches_141 rfl ?_
  refine E_imul dX10_doBatches_143 ?_
  refine E_isub dX10_doBatches_144 ?_
  obtain ⟨g40, h⟩ := h
  refine E_iast2 (x4.toNatClampNeg) dX10_doBatches_145 (sk_stock hs hmx1) (sn_stock hs hmx1) (Or.inl ((by decide : ∀ b ∈ stockIds, m_X10_doBatches.2.2.2.2.1.contains b = true) _ hmx1)) g40 rfl ?_
  obtain ⟨τ41, e42⟩ : ∃ τ : AH, τ = (sI (sI σ x1 x3.toNatClampNeg ((gI σ x1 x3.toNatClampNeg) - (x7 * x5))) x1 x4.toNatClampNeg ((gI (sI σ x1 x3.toNatClampNeg ((gI σ x1 x3.toNatClampNeg) - (x7 * x5))) x1 x4.toNatClampNeg) - (x7 * x6))) := ⟨_, rfl⟩
  replace h := h τ41 e42
  rw [← e42]
  have hs43 : Sh τ41 := by rw [e42]; exact hs
  refine E_aload_n 1 dX10_doBatches_146 rfl rfl ?_
  refine E_aload_n 0 dX10_doBatches_147 rfl rfl ?_
  refine E_getR 1 dX10_doBatches_148 fl_X10_49 rfl (sk_34 hs43) (sn hs43 (by decide)) (sr_34_0 hs43) ?_
  refine E_getR 5 dX10_doBatches_151 fl_X10_102 rfl (sk_1 hs43) (sn hs43 (by decide)) (sr_1_3 hs43) ?_
  refine E_iload_n 2 dX10_doBatches_154 rfl rfl ?_
  refine E_iconst (4 : Int32) dX10_doBatches_155 (by decide) ?_
  obtain ⟨d44, v49, σ45, hD46, hC47, h⟩ := h
  have hs48 := hC47.1.2.2.2.1 hs43
  refine E_callV (As := [.int x2, .int (4 : Int32)]) (rest := [.ref x1]) (r1 := (some (.int v49))) (b := 5) dX10_doBatches_156 ok_X8_at in_X8_at se_X8_at ml_X10_84 hD46 rfl rfl (Nat.le_of_ble_eq_true rfl) (sk_5 hs43) (sn hs43 (by decide)) (by decide) rfl (by decide +kernel) hC47 ?_
  refine E_dup2 dX10_doBatches_159 rfl rfl ?_
  obtain ⟨g50, h⟩ := h
  refine E_iald2 (v49.toNatClampNeg) dX10_doBatches_160 (sk_stock hs48 hmx1) (sn_stock hs48 hmx1) g50 rfl ?_
  refine E_iload 7 dX10_doBatches_161 rfl ?_
  refine E_aload_n 0 dX10_doBatches_163 rfl rfl ?_
  refine E_getR 1 dX10_doBatches_164 fl_X10_49 rfl (sk_34 hs48) (sn hs48 (by decide)) (sr_34_0 hs48) ?_
  refine E_getR 5 dX10_doBatches_167 fl_X10_102 rfl (sk_1 hs48) (sn hs48 (by decide)) (sr_1_3 hs48) ?_
  refine E_iload_n 2 dX10_doBatches_170 rfl rfl ?_
  refine E_iconst (5 : Int32) dX10_doBatches_171 (by decide) ?_
  obtain ⟨d51, v56, σ52, hD53, hC54, h⟩ := h
  have hs55 := hC54.1.2.2.2.1 hs48
  refine E_callV (As := [.int x2, .int (5 : Int32)]) (rest := [.int x7, .int (gI σ45 x1 v49.toNatClampNeg), .int v49, .ref x1]) (r1 := (some (.int v56))) (b := 5) dX10_doBatches_172 ok_X8_at in_X8_at se_X8_at ml_X10_84 hD53 rfl rfl (Nat.le_of_ble_eq_true rfl) (sk_5 hs48) (sn hs48 (by decide)) (by decide) rfl (by decide +kernel) hC54 ?_
  refine E_imul dX10_doBatches_175 ?_
  refine E_iadd dX10_doBatches_176 ?_
  obtain ⟨g57, h⟩ := h
  refine E_iast2 (v49.toNatClampNeg) dX10_doBatches_177 (sk_stock hs55 hmx1) (sn_stock hs55 hmx1) (Or.inl ((by decide : ∀ b ∈ stockIds, m_X10_doBatches.2.2.2.2.1.contains b = true) _ hmx1)) g57 rfl ?_
  obtain ⟨rfl, rfl⟩ := h
  exact E_vret dX10_doBatches_178 rfl
def W_X10_doBatches_104 (X : Sx) (l : Launch) (D : Nat) (x1 : Nat) (x2 : Int32) (x3 : Int32) (x4 : Int32) (x5 : Int32) (x6 : Int32) (x7 : Int32) (σ : AH) (r : Option Value) (σ' : AH) : Prop := (if x6 ≤ 0 then W_X10_doBatches_123 X l D x1 x2 x3 x4 x5 x6 x7 σ r σ' else vp_in x4 5 ∧ ¬ x6 = 0 ∧ 1 ≤ D ∧ W_X10_doBatches_123 X l D x1 x2 x3 x4 x5 x6 (imin x7 ((gI σ x1 x4.toNatClampNeg) / x6)) σ r σ')
set_option maxRecDepth 100000 in
theorem w_X10_doBatches_104 {X : Sx} {l : Launch} {D : Nat} {x1 : Nat} {x2 : Int32} {x3 : Int32} {x4 : Int32} {x5 : Int32} {x6 : Int32} {x7 : Int32} {σ : AH} {r : Option Value} {σ' : AH} (hs : Sh σ) (hmx1 : x1 ∈ stockIds) (h : W_X10_doBatches_104 X l D x1 x2 x3 x4 x5 x6 x7 σ r σ') : E X l m_X10_doBatches D 104 [(0, .ref 34), (1, .ref x1), (2, .int x2), (3, .int x3), (4, .int x4), (5, .int x5), (6, .int x6), (7, .int x7)] [] σ r σ' := by
  unfold W_X10_doBatches_104 at h
  refine E_iload 6 dX10_doBatches_104 rfl ?_
  refine E_if_le 123 dX10_doBatches_106 (by decide) (fun c => ?_) (fun c => ?_)
  · rw [if_pos c] at h
    exact E_lv [0, 1, 2, 3, 4, 5, 6, 7] rfl (w_X10_doBatches_123 hs hmx1 h)
  · rw [if_neg c] at h
    refine E_iload 7 dX10_doBatches_109 rfl ?_
    refine E_aload_n 1 dX10_doBatches_111 rfl rfl ?_
    refine E_iload 4 dX10_doBatches_112 rfl ?_
    obtain ⟨g34, h⟩ := h
    refine E_iald2 (x4.toNatClampNeg) dX10_doBatches_114 (sk_stock hs hmx1) (sn_stock hs hmx1) g34 rfl ?_
    refine E_iload 6 dX10_doBatches_115 rfl ?_
    obtain ⟨g35, h⟩ := h
    refine E_idiv dX10_doBatches_117 g35 ?_
    obtain ⟨g36, h⟩ := h
    refine E_mmin dX10_doBatches_118 mm_X10_139 g36 (Nat.le_of_ble_eq_true rfl) ?_
    refine E_istore [(7, .int (imin x7 ((gI σ x1 x4.toNatClampNeg) / x6))), (0, .ref 34), (1, .ref x1), (2, .int x2), (3, .int x3), (4, .int x4), (5, .int x5), (6, .int x6)] dX10_doBatches_121 (by decide) rfl ?_
    exact E_lv [1, 2, 3, 4, 5, 6, 7, 0] rfl (w_X10_doBatches_123 hs hmx1 h)
def W_X10_doBatches_86 (X : Sx) (l : Launch) (D : Nat) (x1 : Nat) (x2 : Int32) (x3 : Int32) (x4 : Int32) (x5 : Int32) (x6 : Int32) (x7 : Int32) (σ : AH) (r : Option Value) (σ' : AH) : Prop := (if x5 ≤ 0 then W_X10_doBatches_104 X l D x1 x2 x3 x4 x5 x6 x7 σ r σ' else vp_in x3 5 ∧ ¬ x5 = 0 ∧ 1 ≤ D ∧ W_X10_doBatches_104 X l D x1 x2 x3 x4 x5 x6 (imin x7 ((gI σ x1 x3.toNatClampNeg) / x5)) σ r σ')
set_option maxRecDepth 100000 in
theorem w_X10_doBatches_86 {X : Sx} {l : Launch} {D : Nat} {x1 : Nat} {x2 : Int32} {x3 : Int32} {x4 : Int32} {x5 : Int32} {x6 : Int32} {x7 : Int32} {σ : AH} {r : Option Value} {σ' : AH} (hs : Sh σ) (hmx1 : x1 ∈ stockIds) (h : W_X10_doBatches_86 X l D x1 x2 x3 x4 x5 x6 x7 σ r σ') : E X l m_X10_doBatches D 86 [(0, .ref 34), (1, .ref x1), (2, .int x2), (3, .int x3), (4, .int x4), (5, .int x5), (6, .int x6), (7, .int x7)] [] σ r σ' := by
  unfold W_X10_doBatches_86 at h
  refine E_iload 5 dX10_doBatches_86 rfl ?_
  refine E_if_le 104 dX10_doBatches_88 (by decide) (fun c => ?_) (fun c => ?_)
  · rw [if_pos c] at h
    exact E_lv [0, 1, 2, 3, 4, 5, 6, 7] rfl (w_X10_doBatches_104 hs hmx1 h)
  · rw [if_neg c] at h
    refine E_iload 7 dX10_doBatches_91 rfl ?_
    refine E_aload_n 1 dX10_doBatches_93 rfl rfl ?_
    refine E_iload_n 3 dX10_doBatches_94 rfl rfl ?_
    obtain ⟨g31, h⟩ := h
    refine E_iald2 (x3.toNatClampNeg) dX10_doBatches_95 (sk_stock hs hmx1) (sn_stock hs hmx1) g31 rfl ?_
    refine E_iload 5 dX10_doBatches_96 rfl ?_
    obtain ⟨g32, h⟩ := h
    refine E_idiv dX10_doBatches_98 g32 ?_
    obtain ⟨g33, h⟩ := h
    refine E_mmin dX10_doBatches_99 mm_X10_139 g33 (Nat.le_of_ble_eq_true rfl) ?_
    refine E_istore [(7, .int (imin x7 ((gI σ x1 x3.toNatClampNeg) / x5))), (0, .ref 34), (1, .ref x1), (2, .int x2), (3, .int x3), (4, .int x4), (5, .int x5), (6, .int x6)] dX10_doBatches_102 (by decide) rfl ?_
    exact E_lv [1, 2, 3, 4, 5, 6, 7, 0] rfl (w_X10_doBatches_104 hs hmx1 h)
def W_X10_doBatches_0 (X : Sx) (l : Launch) (D : Nat) (x1 : Nat) (x2 : Int32) (σ : AH) (r : Option Value) (σ' : AH) : Prop := ∃ d1 : Nat, ∃ v6 : Int32, ∃ σ2 : AH, d1 + 1 ≤ D ∧ Call X l m_X8_at d1 [.ref 5, .int x2, .int (0 : Int32)] σ (some (.int v6)) σ2 ∧ ∃ d7 : Nat, ∃ v12 : Int32, ∃ σ8 : AH, d7 + 1 ≤ D ∧ Call X l m_X8_at d7 [.ref 5, .int x2, .int (2 : Int32)] σ2 (some (.int v12)) σ8 ∧ ∃ d13 : Nat, ∃ v18 : Int32, ∃ σ14 : AH, d13 + 1 ≤ D ∧ Call X l m_X8_at d13 [.ref 5, .int x2, .int (1 : Int32)] σ8 (some (.int v18)) σ14 ∧ ∃ d19 : Nat, ∃ v24 : Int32, ∃ σ20 : AH, d19 + 1 ≤ D ∧ Call X l m_X8_at d19 [.ref 5, .int x2, .int (3 : Int32)] σ14 (some (.int v24)) σ20 ∧ ∃ d25 : Nat, ∃ v30 : Int32, ∃ σ26 : AH, d25 + 1 ≤ D ∧ Call X l m_X8_at d25 [.ref 5, .int x2, .int (6 : Int32)] σ20 (some (.int v30)) σ26 ∧ (if v6 = v12 then W_X10_doBatches_86 X l D x1 x2 v6 v12 (v18 + v24) (0 : Int32) v30 σ26 r σ' else W_X10_doBatches_86 X l D x1 x2 v6 v12 v18 v24 v30 σ26 r σ')
set_option maxRecDepth 100000 in
theorem w_X10_doBatches_0 {X : Sx} {l : Launch} {D : Nat} {x1 : Nat} {x2 : Int32} {σ : AH} {r : Option Value} {σ' : AH} (hs : Sh σ) (hmx1 : x1 ∈ stockIds) (h : W_X10_doBatches_0 X l D x1 x2 σ r σ') : E X l m_X10_doBatches D 0 [(0, .ref 34), (1, .ref x1), (2, .int x2)] [] σ r σ' := by
  unfold W_X10_doBatches_0 at h
  refine E_aload_n 0 dX10_doBatches_0 rfl rfl ?_
  refine E_getR 1 dX10_doBatches_1 fl_X10_49 rfl (sk_34 hs) (sn hs (by decide)) (sr_34_0 hs) ?_
  refine E_getR 5 dX10_doBatches_4 fl_X10_102 rfl (sk_1 hs) (sn hs (by decide)) (sr_1_3 hs) ?_
  refine E_iload_n 2 dX10_doBatches_7 rfl rfl ?_
  refine E_iconst (0 : Int32) dX10_doBatches_8 (by decide) ?_
  obtain ⟨d1, v6, σ2, hD3, hC4, h⟩ := h
  have hs5 := hC4.1.2.2.2.1 hs
  refine E_callV (As := [.int x2, .int (0 : Int32)]) (rest := []) (r1 := (some (.int v6))) (b := 5) dX10_doBatches_9 ok_X8_at in_X8_at se_X8_at ml_X10_84 hD3 rfl rfl (Nat.le_of_ble_eq_true rfl) (sk_5 hs) (sn hs (by decide)) (by decide) rfl (by decide +kernel) hC4 ?_
  refine E_istore_n [(3, .int v6), (0, .ref 34), (1, .ref x1), (2, .int x2)] dX10_doBatches_12 rfl (by decide) rfl ?_
  refine E_aload_n 1 dX10_doBatches_13 rfl rfl ?_
  refine E_getR 1 dX10_doBatches_14 fl_X10_49 rfl (sk_34 hs5) (sn hs5 (by decide)) (sr_34_0 hs5) ?_
  refine E_getR 5 dX10_doBatches_17 fl_X10_102 rfl (sk_1 hs5) (sn hs5 (by decide)) (sr_1_3 hs5) ?_
  refine E_iload_n 3 dX10_doBatches_20 rfl rfl ?_
  refine E_iconst (2 : Int32) dX10_doBatches_21 (by decide) ?_
  obtain ⟨d7, v12, σ8, hD9, hC10, h⟩ := h
  have hs11 := hC10.1.2.2.2.1 hs5
  refine E_callV (As := [.int x2, .int (2 : Int32)]) (rest := []) (r1 := (some (.int v12))) (b := 5) dX10_doBatches_22 ok_X8_at in_X8_at se_X8_at ml_X10_84 hD9 rfl rfl (Nat.le_of_ble_eq_true rfl) (sk_5 hs5) (sn hs5 (by decide)) (by decide) rfl (by decide +kernel) hC10 ?_
  refine E_istore [(4, .int v12), (3, .int v6), (0, .ref 34), (1, .ref x1), (2, .int x2)] dX10_doBatches_25 (by decide) rfl ?_
  refine E_aload_n 2 dX10_doBatches_27 rfl rfl ?_
  refine E_getR 1 dX10_doBatches_28 fl_X10_49 rfl (sk_34 hs11) (sn hs11 (by decide)) (sr_34_0 hs11) ?_
  refine E_getR 5 dX10_doBatches_31 fl_X10_102 rfl (sk_1 hs11) (sn hs11 (by decide)) (sr_1_3 hs11) ?_
  refine E_iload_n 4 dX10_doBatches_34 rfl rfl ?_
  refine E_iconst (1 : Int32) dX10_doBatches_35 (by decide) ?_
  obtain ⟨d13, v18, σ14, hD15, hC16, h⟩ := h
  have hs17 := hC16.1.2.2.2.1 hs11
  refine E_callV (As := [.int x2, .int (1 : Int32)]) (rest := []) (r1 := (some (.int v18))) (b := 5) dX10_doBatches_36 ok_X8_at in_X8_at se_X8_at ml_X10_84 hD15 rfl rfl (Nat.le_of_ble_eq_true rfl) (sk_5 hs11) (sn hs11 (by decide)) (by decide) rfl (by decide +kernel) hC16 ?_
  refine E_istore [(5, .int v18), (4, .int v12), (3, .int v6), (0, .ref 34), (1, .ref x1), (2, .int x2)] dX10_doBatches_39 (by decide) rfl ?_
  refine E_aload_n 3 dX10_doBatches_41 rfl rfl ?_
  refine E_getR 1 dX10_doBatches_42 fl_X10_49 rfl (sk_34 hs17) (sn hs17 (by decide)) (sr_34_0 hs17) ?_
  refine E_getR 5 dX10_doBatches_45 fl_X10_102 rfl (sk_1 hs17) (sn hs17 (by decide)) (sr_1_3 hs17) ?_
  refine E_iload_n 5 dX10_doBatches_48 rfl rfl ?_
  refine E_iconst (3 : Int32) dX10_doBatches_49 (by decide) ?_
  obtain ⟨d19, v24, σ20, hD21, hC22, h⟩ := h
  have hs23 := hC22.1.2.2.2.1 hs17
  refine E_callV (As := [.int x2, .int (3 : Int32)]) (rest := []) (r1 := (some (.int v24))) (b := 5) dX10_doBatches_50 ok_X8_at in_X8_at se_X8_at ml_X10_84 hD21 rfl rfl (Nat.le_of_ble_eq_true rfl) (sk_5 hs17) (sn hs17 (by decide)) (by decide) rfl (by decide +kernel) hC22 ?_
  refine E_istore [(6, .int v24), (5, .int v18), (4, .int v12), (3, .int v6), (0, .ref 34), (1, .ref x1), (2, .int x2)] dX10_doBatches_53 (by decide) rfl ?_
  refine E_aload_n 4 dX10_doBatches_55 rfl rfl ?_
  refine E_getR 1 dX10_doBatches_56 fl_X10_49 rfl (sk_34 hs23) (sn hs23 (by decide)) (sr_34_0 hs23) ?_
  refine E_getR 5 dX10_doBatches_59 fl_X10_102 rfl (sk_1 hs23) (sn hs23 (by decide)) (sr_1_3 hs23) ?_
  refine E_iload_n 6 dX10_doBatches_62 rfl rfl ?_
  refine E_bipush (6 : Int32) dX10_doBatches_63 (by decide) ?_
  obtain ⟨d25, v30, σ26, hD27, hC28, h⟩ := h
  have hs29 := hC28.1.2.2.2.1 hs23
  refine E_callV (As := [.int x2, .int (6 : Int32)]) (rest := []) (r1 := (some (.int v30))) (b := 5) dX10_doBatches_65 ok_X8_at in_X8_at se_X8_at ml_X10_84 hD27 rfl rfl (Nat.le_of_ble_eq_true rfl) (sk_5 hs23) (sn hs23 (by decide)) (by decide) rfl (by decide +kernel) hC28 ?_
  refine E_istore [(7, .int v30), (6, .int v24), (5, .int v18), (4, .int v12), (3, .int v6), (0, .ref 34), (1, .ref x1), (2, .int x2)] dX10_doBatches_68 (by decide) rfl ?_
  refine E_iload_n 4 dX10_doBatches_70 rfl rfl ?_
  refine E_iload 3 dX10_doBatches_71 rfl ?_
  refine E_icmp_ne 86 dX10_doBatches_73 (by decide) (fun c => ?_) (fun c => ?_)
  · rw [if_neg c] at h
    exact E_lv [5, 6, 7, 4, 3, 2, 1, 0] rfl (w_X10_doBatches_86 hs29 hmx1 h)
  · rw [if_pos c] at h
    refine E_iload 2 dX10_doBatches_76 rfl ?_
    refine E_iload 1 dX10_doBatches_78 rfl ?_
    refine E_iadd dX10_doBatches_80 ?_
    refine E_istore [(5, .int (v18 + v24)), (7, .int v30), (6, .int v24), (4, .int v12), (3, .int v6), (0, .ref 34), (1, .ref x1), (2, .int x2)] dX10_doBatches_81 (by decide) rfl ?_
    refine E_iconst (0 : Int32) dX10_doBatches_83 (by decide) ?_
    refine E_istore [(6, .int (0 : Int32)), (5, .int (v18 + v24)), (7, .int v30), (4, .int v12), (3, .int v6), (0, .ref 34), (1, .ref x1), (2, .int x2)] dX10_doBatches_84 (by decide) rfl ?_
    exact E_lv [5, 6, 7, 4, 3, 1, 0, 2] rfl (w_X10_doBatches_86 hs29 hmx1 h)
def W_X10_lineUp_15 (X : Sx) (l : Launch) (D : Nat) (x1 : Nat) (x2 : Int32) (σ : AH) (r : Option Value) (σ' : AH) : Prop := E X l m_X10_lineUp D 17 [(0, .ref 34), (1, .ref x1), (2, .int x2), (3, .int (0 : Int32))] [] σ r σ'
set_option maxRecDepth 100000 in
theorem w_X10_lineUp_15 {X : Sx} {l : Launch} {D : Nat} {x1 : Nat} {x2 : Int32} {σ : AH} {r : Option Value} {σ' : AH} (hs : Sh σ) (hmx1 : x1 ∈ siteIds) (h : W_X10_lineUp_15 X l D x1 x2 σ r σ') : E X l m_X10_lineUp D 15 [(0, .ref 34), (1, .ref x1), (2, .int x2)] [] σ r σ' := by
  unfold W_X10_lineUp_15 at h
  refine E_iconst (0 : Int32) dX10_lineUp_15 (by decide) ?_
  refine E_istore_n [(3, .int (0 : Int32)), (0, .ref 34), (1, .ref x1), (2, .int x2)] dX10_lineUp_16 rfl (by decide) rfl ?_
  exact E_lv [1, 2, 3, 0] rfl h
def W_X10_lineUp_0 (X : Sx) (l : Launch) (D : Nat) (x1 : Nat) (x2 : Int32) (σ : AH) (r : Option Value) (σ' : AH) : Prop := (if (x2 - x2 / (13 : Int32) * (13 : Int32)) = 0 then 1 ≤ D ∧ (∀ τ2 : AH, τ2 = (sA σ (x1 + 3) (filln (gI σ (x1 + 3)) 18 (0 : Int32))) → W_X10_lineUp_15 X l D x1 x2 τ2 r σ') else W_X10_lineUp_15 X l D x1 x2 σ r σ')
set_option maxRecDepth 100000 in
theorem w_X10_lineUp_0 {X : Sx} {l : Launch} {D : Nat} {x1 : Nat} {x2 : Int32} {σ : AH} {r : Option Value} {σ' : AH} (hs : Sh σ) (hmx1 : x1 ∈ siteIds) (h : W_X10_lineUp_0 X l D x1 x2 σ r σ') : E X l m_X10_lineUp D 0 [(0, .ref 34), (1, .ref x1), (2, .int x2)] [] σ r σ' := by
  unfold W_X10_lineUp_0 at h
  refine E_iload_n 2 dX10_lineUp_0 rfl rfl ?_
  refine E_bipush (13 : Int32) dX10_lineUp_1 (by decide) ?_
  refine E_irem dX10_lineUp_3 (by decide) ?_
  refine E_if_ne 15 dX10_lineUp_4 (by decide) (fun c => ?_) (fun c => ?_)
  · rw [if_neg c] at h
    exact E_lv [0, 1, 2] rfl (w_X10_lineUp_15 hs hmx1 h)
  · rw [if_pos c] at h
    refine E_aload_n 1 dX10_lineUp_7 rfl rfl ?_
    refine E_getR (x1 + 3) dX10_lineUp_8 fl_X10_144 rfl (st_k hs hmx1) (st_n hs hmx1 (j := 0) (by decide)) (st_r3 hs hmx1) ?_
    refine E_iconst (0 : Int32) dX10_lineUp_11 (by decide) ?_
    obtain ⟨g1, h⟩ := h
    refine E_fill dX10_lineUp_12 ml_X10_57 (st_ka3 hs hmx1) (st_n hs hmx1 (by decide)) (Or.inl ((by decide : ∀ b ∈ siteIds, m_X10_lineUp.2.2.2.2.1.contains (b + 3) = true) _ hmx1)) g1 (by decide) (Nat.le_of_ble_eq_true rfl) ?_
    obtain ⟨τ2, e3⟩ : ∃ τ : AH, τ = (sA σ (x1 + 3) (filln (gI σ (x1 + 3)) 18 (0 : Int32))) := ⟨_, rfl⟩
    replace h := h τ2 e3
    rw [← e3]
    have hs4 : Sh τ2 := by rw [e3]; exact hs
    exact E_lv [0, 1, 2] rfl (w_X10_lineUp_15 hs4 hmx1 h)
def W_X10_lineUp_160 (X : Sx) (l : Launch) (D : Nat) (x1 : Nat) (x2 : Int32) (x3 : Int32) (σ : AH) (r : Option Value) (σ' : AH) : Prop := E X l m_X10_lineUp D 17 [(0, .ref 34), (1, .ref x1), (2, .int x2), (3, .int (x3 + 1))] [] σ r σ'
set_option maxRecDepth 100000 in
theorem w_X10_lineUp_160 {X : Sx} {l : Launch} {D : Nat} {x1 : Nat} {x2 : Int32} {x3 : Int32} {σ : AH} {r : Option Value} {σ' : AH} (hs : Sh σ) (hmx1 : x1 ∈ siteIds) (h : W_X10_lineUp_160 X l D x1 x2 x3 σ r σ') : E X l m_X10_lineUp D 160 [(0, .ref 34), (1, .ref x1), (2, .int x2), (3, .int x3)] [] σ r σ' := by
  unfold W_X10_lineUp_160 at h
  refine E_iinc 3 (x3 + 1) [(3, .int (x3 + 1)), (0, .ref 34), (1, .ref x1), (2, .int x2)] dX10_lineUp_160 rfl (congrArg (x3 + ·) (by decide : Int32.ofInt 1 = 1)) (by decide) rfl ?_
  refine E_goto 17 dX10_lineUp_163 (by decide) ?_
  exact E_lv [1, 2, 3, 0] rfl h
def W_X10_lineUp_122 (X : Sx) (l : Launch) (D : Nat) (x1 : Nat) (x2 : Int32) (x3 : Int32) (x5 : Int32) (σ : AH) (r : Option Value) (σ' : AH) : Prop := vp_in x5 18 ∧ vp_in x5 18 ∧ vp_in x3 30 ∧ vp_in (gI (sI (sI σ (x1 + 3) x5.toNatClampNeg ((gI σ (x1 + 3) x5.toNatClampNeg) + (1 : Int32))) (x1 + 4) x3.toNatClampNeg (1 : Int32)) x1 2) 30 ∧ (∀ τ36 : AH, τ36 = (sI (sI (sI σ (x1 + 3) x5.toNatClampNeg ((gI σ (x1 + 3) x5.toNatClampNeg) + (1 : Int32))) (x1 + 4) x3.toNatClampNeg (1 : Int32)) (x1 + 2) ((gI (sI (sI σ (x1 + 3) x5.toNatClampNeg ((gI σ (x1 + 3) x5.toNatClampNeg) + (1 : Int32))) (x1 + 4) x3.toNatClampNeg (1 : Int32)) x1 2).toNatClampNeg) x3) → W_X10_lineUp_160 X l D x1 x2 x3 (sI τ36 x1 2 ((gI τ36 x1 2) + (1 : Int32))) r σ')
set_option maxRecDepth 100000 in
theorem w_X10_lineUp_122 {X : Sx} {l : Launch} {D : Nat} {x1 : Nat} {x2 : Int32} {x3 : Int32} {x5 : Int32} {σ : AH} {r : Option Value} {σ' : AH} (hs : Sh σ) (hmx1 : x1 ∈ siteIds) (h : W_X10_lineUp_122 X l D x1 x2 x3 x5 σ r σ') : E X l m_X10_lineUp D 122 [(0, .ref 34), (1, .ref x1), (2, .int x2), (3, .int x3), (5, .int x5)] [] σ r σ' := by
  unfold W_X10_lineUp_122 at h
  refine E_aload_n 1 dX10_lineUp_122 rfl rfl ?_
  refine E_getR (x1 + 3) dX10_lineUp_123 fl_X10_144 rfl (st_k hs hmx1) (st_n hs hmx1 (j := 0) (by decide)) (st_r3 hs hmx1) ?_
  refine E_iload 4 dX10_lineUp_126 rfl ?_
  refine E_dup2 dX10_lineUp_128 rfl rfl ?_
  obtain ⟨g32, h⟩ := h
  refine E_iald2 (x5.toNatClampNeg) dX10_lineUp_129 (st_ka3 hs hmx1) (st_n hs hmx1 (by decide)) g32 rfl ?_
  refine E_iconst (1 : Int32) dX10_lineUp_130 (by decide) ?_
  refine E_iadd dX10_lineUp_131 ?_
  obtain ⟨g33, h⟩ := h
  refine E_iast2 (x5.toNatClampNeg) dX10_lineUp_132 (st_ka3 hs hmx1) (st_n hs hmx1 (by decide)) (Or.inl ((by decide : ∀ b ∈ siteIds, m_X10_lineUp.2.2.2.2.1.contains (b + 3) = true) _ hmx1)) g33 rfl ?_
  refine E_aload_n 1 dX10_lineUp_133 rfl rfl ?_
  refine E_getR (x1 + 4) dX10_lineUp_134 fl_X10_150 rfl (st_k hs hmx1) (st_n hs hmx1 (j := 0) (by decide)) (st_r4 hs hmx1) ?_
  refine E_iload_n 3 dX10_lineUp_137 rfl rfl ?_
  refine E_iconst (1 : Int32) dX10_lineUp_138 (by decide) ?_
  obtain ⟨g34, h⟩ := h
  refine E_iast2 (x3.toNatClampNeg) dX10_lineUp_139 (st_ka4 hs hmx1) (st_n hs hmx1 (by decide)) (Or.inl ((by decide : ∀ b ∈ siteIds, m_X10_lineUp.2.2.2.2.1.contains (b + 4) = true) _ hmx1)) g34 rfl ?_
  refine E_aload_n 1 dX10_lineUp_140 rfl rfl ?_
  refine E_getR (x1 + 2) dX10_lineUp_141 fl_X10_125 rfl (st_k hs hmx1) (st_n hs hmx1 (j := 0) (by decide)) (st_r1 hs hmx1) ?_
  refine E_aload_n 1 dX10_lineUp_144 rfl rfl ?_
  refine E_getI dX10_lineUp_145 fl_X10_112 rfl (st_k hs hmx1) (st_n hs hmx1 (j := 0) (by decide)) ?_
  refine E_iload_n 3 dX10_lineUp_148 rfl rfl ?_
  obtain ⟨g35, h⟩ := h
  refine E_iast2 ((gI (sI (sI σ (x1 + 3) x5.toNatClampNeg ((gI σ (x1 + 3) x5.toNatClampNeg) + (1 : Int32))) (x1 + 4) x3.toNatClampNeg (1 : Int32)) x1 2).toNatClampNeg) dX10_lineUp_149 (st_ka2 hs hmx1) (st_n hs hmx1 (by decide)) (Or.inl ((by decide : ∀ b ∈ siteIds, m_X10_lineUp.2.2.2.2.1.contains (b + 2) = true) _ hmx1)) g35 rfl ?_
  obtain ⟨τ36, e37⟩ : ∃ τ : AH, τ = (sI (sI (sI σ (x1 + 3) x5.toNatClampNeg ((gI σ (x1 + 3) x5.toNatClampNeg) + (1 : Int32))) (x1 + 4) x3.toNatClampNeg (1 : Int32)) (x1 + 2) ((gI (sI (sI σ (x1 + 3) x5.toNatClampNeg ((gI σ (x1 + 3) x5.toNatClampNeg) + (1 : Int32))) (x1 + 4) x3.toNatClampNeg (1 : Int32)) x1 2).toNatClampNeg) x3) := ⟨_, rfl⟩
  replace h := h τ36 e37
  rw [← e37]
  have hs38 : Sh τ36 := by rw [e37]; exact hs
  refine E_aload_n 1 dX10_lineUp_150 rfl rfl ?_
  refine E_dup dX10_lineUp_151 rfl ?_
  refine E_getI dX10_lineUp_152 fl_X10_112 rfl (st_k hs38 hmx1) (st_n hs38 hmx1 (j := 0) (by decide)) ?_
  refine E_iconst (1 : Int32) dX10_lineUp_155 (by decide) ?_
  refine E_iadd dX10_lineUp_156 ?_
  refine E_putI dX10_lineUp_157 fl_X10_112 rfl (Or.inl rfl) (st_k hs38 hmx1) (st_n hs38 hmx1 (j := 0) (by decide)) (Or.inl ((by decide : ∀ b ∈ siteIds, m_X10_lineUp.2.2.2.2.1.contains b = true) _ hmx1)) rfl rfl ?_
  exact E_lv [0, 1, 2, 3] rfl (w_X10_lineUp_160 hs38 hmx1 h)
def W_X10_lineUp_17 (X : Sx) (l : Launch) (D : Nat) (x1 : Nat) (x2 : Int32) (x3 : Int32) (σ : AH) (r : Option Value) (σ' : AH) : Prop := vp_in x2 260 ∧ (if (gI σ 39 x2.toNatClampNeg) ≤ 0 then (r = none ∧ σ' = σ) else ∃ d6 : Nat, ∃ v11 : Int32, ∃ σ7 : AH, d6 + 1 ≤ D ∧ Call X l m_X8_rows d6 [.ref 9] σ (some (.int v11)) σ7 ∧ (if v11 ≤ x3 then (r = none ∧ σ' = σ7) else vp_in x3 30 ∧ (if (gI σ7 38 x3.toNatClampNeg) = x2 then (if (30 : Int32) ≤ (gI σ7 x1 2) then W_X10_lineUp_160 X l D x1 x2 x3 σ7 r σ' else ∃ d13 : Nat, ∃ v18 : Int32, ∃ σ14 : AH, d13 + 1 ≤ D ∧ Call X l m_X8_at d13 [.ref 9, .int x3, .int (1 : Int32)] σ7 (some (.int v18)) σ14 ∧ ∃ d19 : Nat, ∃ v24 : Int32, ∃ σ20 : AH, d19 + 1 ≤ D ∧ Call X l m_X8_at d19 [.ref 9, .int x3, .int (0 : Int32)] σ14 (some (.int v24)) σ20 ∧ ∃ d25 : Nat, ∃ v30 : Int32, ∃ σ26 : AH, d25 + 1 ≤ D ∧ Call X l m_X10_licencesFor d25 [.ref 34, .int v18, .int (x2 / (13 : Int32))] σ20 (some (.int v30)) σ26 ∧ (if v30 = (-1 : Int32) then W_X10_lineUp_122 X l D x1 x2 x3 ((v24 * (3 : Int32)) + v18) σ26 r σ' else vp_in ((v24 * (3 : Int32)) + v18) 18 ∧ (if v30 ≤ (gI σ26 (x1 + 3) ((v24 * (3 : Int32)) + v18).toNatClampNeg) then W_X10_lineUp_160 X l D x1 x2 x3 σ26 r σ' else W_X10_lineUp_122 X l D x1 x2 x3 ((v24 * (3 : Int32)) + v18) σ26 r σ'))) else W_X10_lineUp_160 X l D x1 x2 x3 σ7 r σ')))
set_option maxRecDepth 100000 in
theorem w_X10_lineUp_17 {X : Sx} {l : Launch} {D : Nat} {x1 : Nat} {x2 : Int32} {x3 : Int32} {σ : AH} {r : Option Value} {σ' : AH} (hs : Sh σ) (hmx1 : x1 ∈ siteIds) (h : W_X10_lineUp_17 X l D x1 x2 x3 σ r σ') : E X l m_X10_lineUp D 17 [(0, .ref 34), (1, .ref x1), (2, .int x2), (3, .int x3)] [] σ r σ' := by
  unfold W_X10_lineUp_17 at h
  refine E_aload_n 0 dX10_lineUp_17 rfl rfl ?_
  refine E_getR 39 dX10_lineUp_18 fl_X10_34 rfl (sk_34 hs) (sn hs (by decide)) (sr_34_9 hs) ?_
  refine E_iload_n 2 dX10_lineUp_21 rfl rfl ?_
  obtain ⟨g5, h⟩ := h
  refine E_iald2 (x2.toNatClampNeg) dX10_lineUp_22 (sk_39 hs) (sn hs (by decide)) g5 rfl ?_
  refine E_if_le 166 dX10_lineUp_23 (by decide) (fun c => ?_) (fun c => ?_)
  · rw [if_pos c] at h
    obtain ⟨rfl, rfl⟩ := h
    exact E_vret dX10_lineUp_166 rfl
  · rw [if_neg c] at h
    refine E_iload_n 3 dX10_lineUp_26 rfl rfl ?_
    refine E_aload_n 0 dX10_lineUp_27 rfl rfl ?_
    refine E_getR 1 dX10_lineUp_28 fl_X10_49 rfl (sk_34 hs) (sn hs (by decide)) (sr_34_0 hs) ?_
    refine E_getR 9 dX10_lineUp_31 fl_X10_128 rfl (sk_1 hs) (sn hs (by decide)) (sr_1_5 hs) ?_
    obtain ⟨d6, v11, σ7, hD8, hC9, h⟩ := h
    have hs10 := hC9.1.2.2.2.1 hs
    refine E_callV (As := []) (rest := [.int x3]) (r1 := (some (.int v11))) (b := 9) dX10_lineUp_34 ok_X8_rows in_X8_rows se_X8_rows ml_X10_78 hD8 rfl rfl (Nat.le_of_ble_eq_true rfl) (sk_9 hs) (sn hs (by decide)) (by decide) rfl (by decide +kernel) hC9 ?_
    refine E_icmp_ge 166 dX10_lineUp_37 (by decide) (fun c => ?_) (fun c => ?_)
    · rw [if_pos c] at h
      obtain ⟨rfl, rfl⟩ := h
      exact E_vret dX10_lineUp_166 rfl
    · rw [if_neg c] at h
      refine E_aload_n 0 dX10_lineUp_40 rfl rfl ?_
      refine E_getR 38 dX10_lineUp_41 fl_X10_31 rfl (sk_34 hs10) (sn hs10 (by decide)) (sr_34_8 hs10) ?_
      refine E_iload_n 3 dX10_lineUp_44 rfl rfl ?_
      obtain ⟨g12, h⟩ := h
      refine E_iald2 (x3.toNatClampNeg) dX10_lineUp_45 (sk_38 hs10) (sn hs10 (by decide)) g12 rfl ?_
      refine E_iload_n 2 dX10_lineUp_46 rfl rfl ?_
      refine E_icmp_ne 160 dX10_lineUp_47 (by decide) (fun c => ?_) (fun c => ?_)
      · rw [if_neg c] at h
        exact E_lv [0, 1, 2, 3] rfl (w_X10_lineUp_160 hs10 hmx1 h)
      · rw [if_pos c] at h
        refine E_aload_n 1 dX10_lineUp_50 rfl rfl ?_
        refine E_getI dX10_lineUp_51 fl_X10_112 rfl (st_k hs10 hmx1) (st_n hs10 hmx1 (j := 0) (by decide)) ?_
        refine E_bipush (30 : Int32) dX10_lineUp_54 (by decide) ?_
        refine E_icmp_ge 160 dX10_lineUp_56 (by decide) (fun c => ?_) (fun c => ?_)
        · rw [if_pos c] at h
          exact E_lv [0, 1, 2, 3] rfl (w_X10_lineUp_160 hs10 hmx1 h)
        · rw [if_neg c] at h
          refine E_aload_n 0 dX10_lineUp_59 rfl rfl ?_
          refine E_getR 1 dX10_lineUp_60 fl_X10_49 rfl (sk_34 hs10) (sn hs10 (by decide)) (sr_34_0 hs10) ?_
          refine E_getR 9 dX10_lineUp_63 fl_X10_128 rfl (sk_1 hs10) (sn hs10 (by decide)) (sr_1_5 hs10) ?_
          refine E_iload_n 3 dX10_lineUp_66 rfl rfl ?_
          refine E_iconst (1 : Int32) dX10_lineUp_67 (by decide) ?_
          obtain ⟨d13, v18, σ14, hD15, hC16, h⟩ := h
          have hs17 := hC16.1.2.2.2.1 hs10
          refine E_callV (As := [.int x3, .int (1 : Int32)]) (rest := []) (r1 := (some (.int v18))) (b := 9) dX10_lineUp_68 ok_X8_at in_X8_at se_X8_at ml_X10_84 hD15 rfl rfl (Nat.le_of_ble_eq_true rfl) (sk_9 hs10) (sn hs10 (by decide)) (by decide) rfl (by decide +kernel) hC16 ?_
          refine E_istore [(4, .int v18), (0, .ref 34), (1, .ref x1), (2, .int x2), (3, .int x3)] dX10_lineUp_71 (by decide) rfl ?_
          refine E_aload_n 1 dX10_lineUp_73 rfl rfl ?_
          refine E_getR 1 dX10_lineUp_74 fl_X10_49 rfl (sk_34 hs17) (sn hs17 (by decide)) (sr_34_0 hs17) ?_
          refine E_getR 9 dX10_lineUp_77 fl_X10_128 rfl (sk_1 hs17) (sn hs17 (by decide)) (sr_1_5 hs17) ?_
          refine E_iload_n 4 dX10_lineUp_80 rfl rfl ?_
          refine E_iconst (0 : Int32) dX10_lineUp_81 (by decide) ?_
          obtain ⟨d19, v24, σ20, hD21, hC22, h⟩ := h
          have hs23 := hC22.1.2.2.2.1 hs17
          refine E_callV (As := [.int x3, .int (0 : Int32)]) (rest := []) (r1 := (some (.int v24))) (b := 9) dX10_lineUp_82 ok_X8_at in_X8_at se_X8_at ml_X10_84 hD21 rfl rfl (Nat.le_of_ble_eq_true rfl) (sk_9 hs17) (sn hs17 (by decide)) (by decide) rfl (by decide +kernel) hC22 ?_
          refine E_iconst (3 : Int32) dX10_lineUp_85 (by decide) ?_
          refine E_imul dX10_lineUp_86 ?_
          refine E_iload 0 dX10_lineUp_87 rfl ?_
          refine E_iadd dX10_lineUp_89 ?_
          refine E_istore [(5, .int ((v24 * (3 : Int32)) + v18)), (4, .int v18), (0, .ref 34), (1, .ref x1), (2, .int x2), (3, .int x3)] dX10_lineUp_90 (by decide) rfl ?_
          refine E_aload_n 2 dX10_lineUp_92 rfl rfl ?_
          refine E_iload 1 dX10_lineUp_93 rfl ?_
          refine E_iload_n 4 dX10_lineUp_95 rfl rfl ?_
          refine E_bipush (13 : Int32) dX10_lineUp_96 (by decide) ?_
          refine E_idiv dX10_lineUp_98 (by decide) ?_
          obtain ⟨d25, v30, σ26, hD27, hC28, h⟩ := h
          have hs29 := hC28.1.2.2.2.1 hs23
          refine E_callV (As := [.int v18, .int (x2 / (13 : Int32))]) (rest := []) (r1 := (some (.int v30))) (b := 34) dX10_lineUp_99 ok_X10_licencesFor in_X10_licencesFor se_X10_licencesFor ml_X10_147 hD27 rfl rfl (Nat.le_of_ble_eq_true rfl) (sk_34 hs23) (sn hs23 (by decide)) (by decide) rfl (by decide +kernel) hC28 ?_
          refine E_istore [(6, .int v30), (5, .int ((v24 * (3 : Int32)) + v18)), (4, .int v18), (0, .ref 34), (1, .ref x1), (2, .int x2), (3, .int x3)] dX10_lineUp_102 (by decide) rfl ?_
          refine E_iload 0 dX10_lineUp_104 rfl ?_
          refine E_iconst (-1 : Int32) dX10_lineUp_106 (by decide) ?_
          refine E_icmp_eq 122 dX10_lineUp_107 (by decide) (fun c => ?_) (fun c => ?_)
          · rw [if_pos c] at h
            exact E_lv [3, 4, 5, 6, 1] rfl (w_X10_lineUp_122 hs29 hmx1 h)
          · rw [if_neg c] at h
            refine E_aload_n 4 dX10_lineUp_110 rfl rfl ?_
            refine E_getR (x1 + 3) dX10_lineUp_111 fl_X10_144 rfl (st_k hs29 hmx1) (st_n hs29 hmx1 (j := 0) (by decide)) (st_r3 hs29 hmx1) ?_
            refine E_iload 1 dX10_lineUp_114 rfl ?_
            obtain ⟨g31, h⟩ := h
            refine E_iald2 (((v24 * (3 : Int32)) + v18).toNatClampNeg) dX10_lineUp_116 (st_ka3 hs29 hmx1) (st_n hs29 hmx1 (by decide)) g31 rfl ?_
            refine E_iload 0 dX10_lineUp_117 rfl ?_
            refine E_icmp_ge 160 dX10_lineUp_119 (by decide) (fun c => ?_) (fun c => ?_)
            · rw [if_pos c] at h
              exact E_lv [3, 4, 5, 6] rfl (w_X10_lineUp_160 hs29 hmx1 h)
            · rw [if_neg c] at h
              exact E_lv [3, 4, 5, 6, 1] rfl (w_X10_lineUp_122 hs29 hmx1 h)
def W_X10_licencesFor_61 (X : Sx) (l : Launch) (D : Nat) (x3 : Int32) (σ : AH) (r : Option Value) (σ' : AH) : Prop := vp_in x3 60 ∧ (r = some (.int (gI σ 40 x3.toNatClampNeg)) ∧ σ' = σ)
set_option maxRecDepth 100000 in
theorem w_X10_licencesFor_61 {X : Sx} {l : Launch} {D : Nat} {x3 : Int32} {σ : AH} {r : Option Value} {σ' : AH} (hs : Sh σ) (h : W_X10_licencesFor_61 X l D x3 σ r σ') : E X l m_X10_licencesFor D 61 [(0, .ref 34), (3, .int x3)] [] σ r σ' := by
  unfold W_X10_licencesFor_61 at h
  refine E_aload_n 0 dX10_licencesFor_61 rfl rfl ?_
  refine E_getR 40 dX10_licencesFor_62 fl_X10_37 rfl (sk_34 hs) (sn hs (by decide)) (sr_34_10 hs) ?_
  refine E_iload_n 1 dX10_licencesFor_65 rfl rfl ?_
  obtain ⟨g19, h⟩ := h
  refine E_iald2 (x3.toNatClampNeg) dX10_licencesFor_66 (sk_40 hs) (sn hs (by decide)) g19 rfl ?_
  obtain ⟨rfl, rfl⟩ := h
  exact E_iret dX10_licencesFor_67 rfl
def W_X10_licencesFor_0 (X : Sx) (l : Launch) (D : Nat) (x1 : Int32) (x2 : Int32) (σ : AH) (r : Option Value) (σ' : AH) : Prop := vp_in ((x2 * (3 : Int32)) + x1) 60 ∧ (if (gI σ 40 ((x2 * (3 : Int32)) + x1).toNatClampNeg) = (-2 : Int32) then ∃ d2 : Nat, ∃ σ3 : AH, d2 + 1 ≤ D ∧ Call X l m_X3_settle d2 [.ref 28, .int (x2 * (13 : Int32)), .int (gI σ 34 2)] σ none σ3 ∧ ∃ d7 : Nat, ∃ σ8 : AH, d7 + 1 ≤ D ∧ Call X l m_X3_ask d7 [.ref 28, .int (0 : Int32), .int (x2 * (13 : Int32))] σ3 none σ8 ∧ ∃ d12 : Nat, ∃ v17 : Int32, ∃ σ13 : AH, d12 + 1 ≤ D ∧ Call X l m_X3_counted d12 [.ref 28, .int ((55 : Int32) + x1)] σ8 (some (.int v17)) σ13 ∧ vp_in ((x2 * (3 : Int32)) + x1) 60 ∧ W_X10_licencesFor_61 X l D ((x2 * (3 : Int32)) + x1) (sI σ13 40 (((x2 * (3 : Int32)) + x1).toNatClampNeg) v17) r σ' else W_X10_licencesFor_61 X l D ((x2 * (3 : Int32)) + x1) σ r σ')
set_option maxRecDepth 100000 in
theorem w_X10_licencesFor_0 {X : Sx} {l : Launch} {D : Nat} {x1 : Int32} {x2 : Int32} {σ : AH} {r : Option Value} {σ' : AH} (hs : Sh σ) (h : W_X10_licencesFor_0 X l D x1 x2 σ r σ') : E X l m_X10_licencesFor D 0 [(0, .ref 34), (1, .int x1), (2, .int x2)] [] σ r σ' := by
  unfold W_X10_licencesFor_0 at h
  refine E_iload_n 2 dX10_licencesFor_0 rfl rfl ?_
  refine E_iconst (3 : Int32) dX10_licencesFor_1 (by decide) ?_
  refine E_imul dX10_licencesFor_2 ?_
  refine E_iload_n 1 dX10_licencesFor_3 rfl rfl ?_
  refine E_iadd dX10_licencesFor_4 ?_
  refine E_istore_n [(3, .int ((x2 * (3 : Int32)) + x1)), (0, .ref 34), (1, .int x1), (2, .int x2)] dX10_licencesFor_5 rfl (by decide) rfl ?_
  refine E_aload_n 1 dX10_licencesFor_6 rfl rfl ?_
  refine E_getR 40 dX10_licencesFor_7 fl_X10_37 rfl (sk_34 hs) (sn hs (by decide)) (sr_34_10 hs) ?_
  refine E_iload_n 0 dX10_licencesFor_10 rfl rfl ?_
  obtain ⟨g1, h⟩ := h
  refine E_iald2 (((x2 * (3 : Int32)) + x1).toNatClampNeg) dX10_licencesFor_11 (sk_40 hs) (sn hs (by decide)) g1 rfl ?_
  refine E_bipush (-2 : Int32) dX10_licencesFor_12 (by decide) ?_
  refine E_icmp_ne 61 dX10_licencesFor_14 (by decide) (fun c => ?_) (fun c => ?_)
  · rw [if_neg c] at h
    exact E_lv [1, 0] rfl (w_X10_licencesFor_61 hs h)
  · rw [if_pos c] at h
    refine E_aload_n 1 dX10_licencesFor_17 rfl rfl ?_
    refine E_getR 28 dX10_licencesFor_18 fl_X10_53 rfl (sk_34 hs) (sn hs (by decide)) (sr_34_1 hs) ?_
    refine E_iload_n 3 dX10_licencesFor_21 rfl rfl ?_
    refine E_bipush (13 : Int32) dX10_licencesFor_22 (by decide) ?_
    refine E_imul dX10_licencesFor_24 ?_
    refine E_aload_n 1 dX10_licencesFor_25 rfl rfl ?_
    refine E_getI dX10_licencesFor_26 fl_X10_9 rfl (sk_34 hs) (sn hs (by decide)) ?_
    obtain ⟨d2, σ3, hD4, hC5, h⟩ := h
    have hs6 := hC5.1.2.2.2.1 hs
    refine E_callV (As := [.int (x2 * (13 : Int32)), .int (gI σ 34 2)]) (rest := []) (r1 := none) (b := 28) dX10_licencesFor_29 ok_X3_settle in_X3_settle se_X3_settle ml_X10_153 hD4 rfl rfl (Nat.le_of_ble_eq_true rfl) (sk_28 hs) (sn hs (by decide)) (by decide) rfl (by decide +kernel) hC5 ?_
    refine E_aload_n 1 dX10_licencesFor_32 rfl rfl ?_
    refine E_getR 28 dX10_licencesFor_33 fl_X10_53 rfl (sk_34 hs6) (sn hs6 (by decide)) (sr_34_1 hs6) ?_
    refine E_iconst (0 : Int32) dX10_licencesFor_36 (by decide) ?_
    refine E_iload_n 3 dX10_licencesFor_37 rfl rfl ?_
    refine E_bipush (13 : Int32) dX10_licencesFor_38 (by decide) ?_
    refine E_imul dX10_licencesFor_40 ?_
    obtain ⟨d7, σ8, hD9, hC10, h⟩ := h
    have hs11 := hC10.1.2.2.2.1 hs6
    refine E_callV (As := [.int (0 : Int32), .int (x2 * (13 : Int32))]) (rest := []) (r1 := none) (b := 28) dX10_licencesFor_41 ok_X3_ask in_X3_ask se_X3_ask ml_X10_158 hD9 rfl rfl (Nat.le_of_ble_eq_true rfl) (sk_28 hs6) (sn hs6 (by decide)) (by decide) rfl (by decide +kernel) hC10 ?_
    refine E_aload_n 1 dX10_licencesFor_44 rfl rfl ?_
    refine E_getR 40 dX10_licencesFor_45 fl_X10_37 rfl (sk_34 hs11) (sn hs11 (by decide)) (sr_34_10 hs11) ?_
    refine E_iload_n 0 dX10_licencesFor_48 rfl rfl ?_
    refine E_aload_n 1 dX10_licencesFor_49 rfl rfl ?_
    refine E_getR 28 dX10_licencesFor_50 fl_X10_53 rfl (sk_34 hs11) (sn hs11 (by decide)) (sr_34_1 hs11) ?_
    refine E_bipush (55 : Int32) dX10_licencesFor_53 (by decide) ?_
    refine E_iload_n 2 dX10_licencesFor_55 rfl rfl ?_
    refine E_iadd dX10_licencesFor_56 ?_
    obtain ⟨d12, v17, σ13, hD14, hC15, h⟩ := h
    have hs16 := hC15.1.2.2.2.1 hs11
    refine E_callV (As := [.int ((55 : Int32) + x1)]) (rest := [.int ((x2 * (3 : Int32)) + x1), .ref 40]) (r1 := (some (.int v17))) (b := 28) dX10_licencesFor_57 ok_X3_counted in_X3_counted se_X3_counted ml_X10_161 hD14 rfl rfl (Nat.le_of_ble_eq_true rfl) (sk_28 hs11) (sn hs11 (by decide)) (by decide) rfl (by decide +kernel) hC15 ?_
    obtain ⟨g18, h⟩ := h
    refine E_iast2 (((x2 * (3 : Int32)) + x1).toNatClampNeg) dX10_licencesFor_60 (sk_40 hs16) (sn hs16 (by decide)) (Or.inl (by decide)) g18 rfl ?_
    exact E_lv [1, 0] rfl (w_X10_licencesFor_61 hs16 h)
def W_X10_firstKind_47 (X : Sx) (l : Launch) (D : Nat) (x1 : Int32) (σ : AH) (r : Option Value) (σ' : AH) : Prop := vp_in x1 260 ∧ (r = some (.int (gI σ 41 x1.toNatClampNeg)) ∧ σ' = σ)
set_option maxRecDepth 100000 in
theorem w_X10_firstKind_47 {X : Sx} {l : Launch} {D : Nat} {x1 : Int32} {σ : AH} {r : Option Value} {σ' : AH} (hs : Sh σ) (h : W_X10_firstKind_47 X l D x1 σ r σ') : E X l m_X10_firstKind D 47 [(0, .ref 34), (1, .int x1)] [] σ r σ' := by
  unfold W_X10_firstKind_47 at h
  refine E_aload_n 0 dX10_firstKind_47 rfl rfl ?_
  refine E_getR 41 dX10_firstKind_48 fl_X10_40 rfl (sk_34 hs) (sn hs (by decide)) (sr_34_11 hs) ?_
  refine E_iload_n 1 dX10_firstKind_51 rfl rfl ?_
  obtain ⟨g19, h⟩ := h
  refine E_iald2 (x1.toNatClampNeg) dX10_firstKind_52 (sk_41 hs) (sn hs (by decide)) g19 rfl ?_
  obtain ⟨rfl, rfl⟩ := h
  exact E_iret dX10_firstKind_53 rfl
def W_X10_firstKind_0 (X : Sx) (l : Launch) (D : Nat) (x1 : Int32) (σ : AH) (r : Option Value) (σ' : AH) : Prop := vp_in x1 260 ∧ (if (gI σ 41 x1.toNatClampNeg) = (-2 : Int32) then ∃ d2 : Nat, ∃ σ3 : AH, d2 + 1 ≤ D ∧ Call X l m_X3_settle d2 [.ref 28, .int x1, .int (gI σ 34 2)] σ none σ3 ∧ ∃ d7 : Nat, ∃ σ8 : AH, d7 + 1 ≤ D ∧ Call X l m_X3_ask d7 [.ref 28, .int (0 : Int32), .int x1] σ3 none σ8 ∧ ∃ d12 : Nat, ∃ v17 : Int32, ∃ σ13 : AH, d12 + 1 ≤ D ∧ Call X l m_X3_counted d12 [.ref 28, .int (61 : Int32)] σ8 (some (.int v17)) σ13 ∧ vp_in x1 260 ∧ W_X10_firstKind_47 X l D x1 (sI σ13 41 x1.toNatClampNeg v17) r σ' else W_X10_firstKind_47 X l D x1 σ r σ')
set_option maxRecDepth 100000 in
theorem w_X10_firstKind_0 {X : Sx} {l : Launch} {D : Nat} {x1 : Int32} {σ : AH} {r : Option Value} {σ' : AH} (hs : Sh σ) (h : W_X10_firstKind_0 X l D x1 σ r σ') : E X l m_X10_firstKind D 0 [(0, .ref 34), (1, .int x1)] [] σ r σ' := by
  unfold W_X10_firstKind_0 at h
  refine E_aload_n 0 dX10_firstKind_0 rfl rfl ?_
  refine E_getR 41 dX10_firstKind_1 fl_X10_40 rfl (sk_34 hs) (sn hs (by decide)) (sr_34_11 hs) ?_
  refine E_iload_n 1 dX10_firstKind_4 rfl rfl ?_
  obtain ⟨g1, h⟩ := h
  refine E_iald2 (x1.toNatClampNeg) dX10_firstKind_5 (sk_41 hs) (sn hs (by decide)) g1 rfl ?_
  refine E_bipush (-2 : Int32) dX10_firstKind_6 (by decide) ?_
  refine E_icmp_ne 47 dX10_firstKind_8 (by decide) (fun c => ?_) (fun c => ?_)
  · rw [if_neg c] at h
    exact E_lv [0, 1] rfl (w_X10_firstKind_47 hs h)
  · rw [if_pos c] at h
    refine E_aload_n 0 dX10_firstKind_11 rfl rfl ?_
    refine E_getR 28 dX10_firstKind_12 fl_X10_53 rfl (sk_34 hs) (sn hs (by decide)) (sr_34_1 hs) ?_
    refine E_iload_n 1 dX10_firstKind_15 rfl rfl ?_
    refine E_aload_n 0 dX10_firstKind_16 rfl rfl ?_
    refine E_getI dX10_firstKind_17 fl_X10_9 rfl (sk_34 hs) (sn hs (by decide)) ?_
    obtain ⟨d2, σ3, hD4, hC5, h⟩ := h
    have hs6 := hC5.1.2.2.2.1 hs
    refine E_callV (As := [.int x1, .int (gI σ 34 2)]) (rest := []) (r1 := none) (b := 28) dX10_firstKind_20 ok_X3_settle in_X3_settle se_X3_settle ml_X10_153 hD4 rfl rfl (Nat.le_of_ble_eq_true rfl) (sk_28 hs) (sn hs (by decide)) (by decide) rfl (by decide +kernel) hC5 ?_
    refine E_aload_n 0 dX10_firstKind_23 rfl rfl ?_
    refine E_getR 28 dX10_firstKind_24 fl_X10_53 rfl (sk_34 hs6) (sn hs6 (by decide)) (sr_34_1 hs6) ?_
    refine E_iconst (0 : Int32) dX10_firstKind_27 (by decide) ?_
    refine E_iload_n 1 dX10_firstKind_28 rfl rfl ?_
    obtain ⟨d7, σ8, hD9, hC10, h⟩ := h
    have hs11 := hC10.1.2.2.2.1 hs6
    refine E_callV (As := [.int (0 : Int32), .int x1]) (rest := []) (r1 := none) (b := 28) dX10_firstKind_29 ok_X3_ask in_X3_ask se_X3_ask ml_X10_158 hD9 rfl rfl (Nat.le_of_ble_eq_true rfl) (sk_28 hs6) (sn hs6 (by decide)) (by decide) rfl (by decide +kernel) hC10 ?_
    refine E_aload_n 0 dX10_firstKind_32 rfl rfl ?_
    refine E_getR 41 dX10_firstKind_33 fl_X10_40 rfl (sk_34 hs11) (sn hs11 (by decide)) (sr_34_11 hs11) ?_
    refine E_iload_n 1 dX10_firstKind_36 rfl rfl ?_
    refine E_aload_n 0 dX10_firstKind_37 rfl rfl ?_
    refine E_getR 28 dX10_firstKind_38 fl_X10_53 rfl (sk_34 hs11) (sn hs11 (by decide)) (sr_34_1 hs11) ?_
    refine E_bipush (61 : Int32) dX10_firstKind_41 (by decide) ?_
    obtain ⟨d12, v17, σ13, hD14, hC15, h⟩ := h
    have hs16 := hC15.1.2.2.2.1 hs11
    refine E_callV (As := [.int (61 : Int32)]) (rest := [.int x1, .ref 41]) (r1 := (some (.int v17))) (b := 28) dX10_firstKind_43 ok_X3_counted in_X3_counted se_X3_counted ml_X10_161 hD14 rfl rfl (Nat.le_of_ble_eq_true rfl) (sk_28 hs11) (sn hs11 (by decide)) (by decide) rfl (by decide +kernel) hC15 ?_
    obtain ⟨g18, h⟩ := h
    refine E_iast2 (x1.toNatClampNeg) dX10_firstKind_46 (sk_41 hs16) (sn hs16 (by decide)) (Or.inl (by decide)) g18 rfl ?_
    exact E_lv [0, 1] rfl (w_X10_firstKind_47 hs16 h)
def W_X10_serve_0 (X : Sx) (l : Launch) (D : Nat) (x1 : Nat) (x2 : Int32) (x3 : Int32) (σ : AH) (r : Option Value) (σ' : AH) : Prop := ∃ d1 : Nat, ∃ v6 : Int32, ∃ σ2 : AH, d1 + 1 ≤ D ∧ Call X l m_X8_at d1 [.ref 9, .int x2, .int (3 : Int32)] σ (some (.int v6)) σ2 ∧ (if v6 ≤ x3 then ∃ d7 : Nat, ∃ v12 : Int32, ∃ σ8 : AH, d7 + 1 ≤ D ∧ Call X l m_X8_at d7 [.ref 9, .int x2, .int (0 : Int32)] σ2 (some (.int v12)) σ8 ∧ ∃ d13 : Nat, ∃ v18 : Int32, ∃ σ14 : AH, d13 + 1 ≤ D ∧ Call X l m_X8_at d13 [.ref 9, .int x2, .int (1 : Int32)] σ8 (some (.int v18)) σ14 ∧ ∃ d19 : Nat, ∃ v24 : Int32, ∃ σ20 : AH, d19 + 1 ≤ D ∧ Call X l m_X8_at d19 [.ref 9, .int x2, .int (2 : Int32)] σ14 (some (.int v24)) σ20 ∧ vp_in x2 30 ∧ E X l m_X10_serve D 67 [(0, .ref 34), (1, .ref x1), (2, .int x2), (3, .int x3), (4, .int v12), (5, .int v18), (6, .int v24), (7, .int (gI σ20 (x1 + 5) x2.toNatClampNeg))] [] σ20 r σ' else (r = none ∧ σ' = σ2))
set_option maxRecDepth 100000 in
theorem w_X10_serve_0 {X : Sx} {l : Launch} {D : Nat} {x1 : Nat} {x2 : Int32} {x3 : Int32} {σ : AH} {r : Option Value} {σ' : AH} (hs : Sh σ) (hmx1 : x1 ∈ siteIds) (h : W_X10_serve_0 X l D x1 x2 x3 σ r σ') : E X l m_X10_serve D 0 [(0, .ref 34), (1, .ref x1), (2, .int x2), (3, .int x3)] [] σ r σ' := by
  unfold W_X10_serve_0 at h
  refine E_aload_n 0 dX10_serve_0 rfl rfl ?_
  refine E_getR 1 dX10_serve_1 fl_X10_49 rfl (sk_34 hs) (sn hs (by decide)) (sr_34_0 hs) ?_
  refine E_getR 9 dX10_serve_4 fl_X10_128 rfl (sk_1 hs) (sn hs (by decide)) (sr_1_5 hs) ?_
  refine E_iload_n 2 dX10_serve_7 rfl rfl ?_
  refine E_iconst (3 : Int32) dX10_serve_8 (by decide) ?_
  obtain ⟨d1, v6, σ2, hD3, hC4, h⟩ := h
  have hs5 := hC4.1.2.2.2.1 hs
  refine E_callV (As := [.int x2, .int (3 : Int32)]) (rest := []) (r1 := (some (.int v6))) (b := 9) dX10_serve_9 ok_X8_at in_X8_at se_X8_at ml_X10_84 hD3 rfl rfl (Nat.le_of_ble_eq_true rfl) (sk_9 hs) (sn hs (by decide)) (by decide) rfl (by decide +kernel) hC4 ?_
  refine E_iload_n 3 dX10_serve_12 rfl rfl ?_
  refine E_icmp_le 17 dX10_serve_13 (by decide) (fun c => ?_) (fun c => ?_)
  · rw [if_pos c] at h
    refine E_aload_n 0 dX10_serve_17 rfl rfl ?_
    refine E_getR 1 dX10_serve_18 fl_X10_49 rfl (sk_34 hs5) (sn hs5 (by decide)) (sr_34_0 hs5) ?_
    refine E_getR 9 dX10_serve_21 fl_X10_128 rfl (sk_1 hs5) (sn hs5 (by decide)) (sr_1_5 hs5) ?_
    refine E_iload_n 2 dX10_serve_24 rfl rfl ?_
    refine E_iconst (0 : Int32) dX10_serve_25 (by decide) ?_
    obtain ⟨d7, v12, σ8, hD9, hC10, h⟩ := h
    have hs11 := hC10.1.2.2.2.1 hs5
    refine E_callV (As := [.int x2, .int (0 : Int32)]) (rest := []) (r1 := (some (.int v12))) (b := 9) dX10_serve_26 ok_X8_at in_X8_at se_X8_at ml_X10_84 hD9 rfl rfl (Nat.le_of_ble_eq_true rfl) (sk_9 hs5) (sn hs5 (by decide)) (by decide) rfl (by decide +kernel) hC10 ?_
    refine E_istore [(4, .int v12), (0, .ref 34), (1, .ref x1), (2, .int x2), (3, .int x3)] dX10_serve_29 (by decide) rfl ?_
    refine E_aload_n 1 dX10_serve_31 rfl rfl ?_
    refine E_getR 1 dX10_serve_32 fl_X10_49 rfl (sk_34 hs11) (sn hs11 (by decide)) (sr_34_0 hs11) ?_
    refine E_getR 9 dX10_serve_35 fl_X10_128 rfl (sk_1 hs11) (sn hs11 (by decide)) (sr_1_5 hs11) ?_
    refine E_iload_n 3 dX10_serve_38 rfl rfl ?_
    refine E_iconst (1 : Int32) dX10_serve_39 (by decide) ?_
    obtain ⟨d13, v18, σ14, hD15, hC16, h⟩ := h
    have hs17 := hC16.1.2.2.2.1 hs11
    refine E_callV (As := [.int x2, .int (1 : Int32)]) (rest := []) (r1 := (some (.int v18))) (b := 9) dX10_serve_40 ok_X8_at in_X8_at se_X8_at ml_X10_84 hD15 rfl rfl (Nat.le_of_ble_eq_true rfl) (sk_9 hs11) (sn hs11 (by decide)) (by decide) rfl (by decide +kernel) hC16 ?_
    refine E_istore [(5, .int v18), (4, .int v12), (0, .ref 34), (1, .ref x1), (2, .int x2), (3, .int x3)] dX10_serve_43 (by decide) rfl ?_
    refine E_aload_n 2 dX10_serve_45 rfl rfl ?_
    refine E_getR 1 dX10_serve_46 fl_X10_49 rfl (sk_34 hs17) (sn hs17 (by decide)) (sr_34_0 hs17) ?_
    refine E_getR 9 dX10_serve_49 fl_X10_128 rfl (sk_1 hs17) (sn hs17 (by decide)) (sr_1_5 hs17) ?_
    refine E_iload_n 4 dX10_serve_52 rfl rfl ?_
    refine E_iconst (2 : Int32) dX10_serve_53 (by decide) ?_
    obtain ⟨d19, v24, σ20, hD21, hC22, h⟩ := h
    have hs23 := hC22.1.2.2.2.1 hs17
    refine E_callV (As := [.int x2, .int (2 : Int32)]) (rest := []) (r1 := (some (.int v24))) (b := 9) dX10_serve_54 ok_X8_at in_X8_at se_X8_at ml_X10_84 hD21 rfl rfl (Nat.le_of_ble_eq_true rfl) (sk_9 hs17) (sn hs17 (by decide)) (by decide) rfl (by decide +kernel) hC22 ?_
    refine E_istore [(6, .int v24), (5, .int v18), (4, .int v12), (0, .ref 34), (1, .ref x1), (2, .int x2), (3, .int x3)] dX10_serve_57 (by decide) rfl ?_
    refine E_aload_n 4 dX10_serve_59 rfl rfl ?_
    refine E_getR (x1 + 5) dX10_serve_60 fl_X10_164 rfl (st_k hs23 hmx1) (st_n hs23 hmx1 (j := 0) (by decide)) (st_r5 hs23 hmx1) ?_
    refine E_iload_n 5 dX10_serve_63 rfl rfl ?_
    obtain ⟨g25, h⟩ := h
    refine E_iald2 (x2.toNatClampNeg) dX10_serve_64 (st_ka5 hs23 hmx1) (st_n hs23 hmx1 (by decide)) g25 rfl ?_
    refine E_istore [(7, .int (gI σ20 (x1 + 5) x2.toNatClampNeg)), (6, .int v24), (5, .int v18), (4, .int v12), (0, .ref 34), (1, .ref x1), (2, .int x2), (3, .int x3)] dX10_serve_65 (by decide) rfl ?_
    exact E_lv [4, 5, 6, 7, 3, 2, 1, 0] rfl h
  · rw [if_neg c] at h
    obtain ⟨rfl, rfl⟩ := h
    exact E_vret dX10_serve_16 rfl
def W_X10_serve_105 (X : Sx) (l : Launch) (D : Nat) (x1 : Nat) (x2 : Int32) (x3 : Int32) (x4 : Int32) (x5 : Int32) (x6 : Int32) (x7 : Int32) (σ : AH) (r : Option Value) (σ' : AH) : Prop := vp_in x2 30 ∧ (if (gI σ (x1 + 6) x2.toNatClampNeg) ≤ 0 then ∃ d40 : Nat, ∃ σ41 : AH, d40 + 1 ≤ D ∧ Call X l m_X7_finishStage d40 [.ref x1, .int x2, .int x3] σ none σ41 ∧ E X l m_X10_serve D 67 [(0, .ref 34), (1, .ref x1), (2, .int x2), (3, .int x3), (4, .int x4), (5, .int x5), (6, .int x6), (7, .int (x7 + 1))] [] σ41 r σ' else vp_in x4 6 ∧ (if (gI σ 37 x4.toNatClampNeg) ≤ 0 then (r = none ∧ σ' = σ) else vp_in x4 6 ∧ vp_in x4 6 ∧ vp_in x2 30 ∧ vp_in x2 30 ∧ (∀ τ50 : AH, τ50 = (sI (sI σ 37 x4.toNatClampNeg ((gI σ 37 x4.toNatClampNeg) - (1 : Int32))) (x1 + 6) x2.toNatClampNeg ((gI (sI σ 37 x4.toNatClampNeg ((gI σ 37 x4.toNatClampNeg) - (1 : Int32))) (x1 + 6) x2.toNatClampNeg) - (1 : Int32))) → vp_in x2 30 ∧ (if (gI τ50 (x1 + 6) x2.toNatClampNeg) = 0 then ∃ d54 : Nat, ∃ σ55 : AH, d54 + 1 ≤ D ∧ Call X l m_X7_finishStage d54 [.ref x1, .int x2, .int x3] τ50 none σ55 ∧ (r = none ∧ σ' = σ55) else (r = none ∧ σ' = τ50)))))
set_option maxRecDepth 100000 in
theorem w_X10_serve_105 {X : Sx} {l : Launch} {D : Nat} {x1 : Nat} {x2 : Int32} {x3 : Int32} {x4 : Int32} {x5 : Int32} {x6 : Int32} {x7 : Int32} {σ : AH} {r : Option Value} {σ' : AH} (hs : Sh σ) (hmx1 : x1 ∈ siteIds) (h : W_X10_serve_105 X l D x1 x2 x3 x4 x5 x6 x7 σ r σ') : E X l m_X10_serve D 105 [(0, .ref 34), (1, .ref x1), (2, .int x2), (3, .int x3), (4, .int x4), (5, .int x5), (6, .int x6), (7, .int x7)] [] σ r σ' := by
  unfold W_X10_serve_105 at h
  refine E_aload_n 1 dX10_serve_105 rfl rfl ?_
  refine E_getR (x1 + 6) dX10_serve_106 fl_X10_167 rfl (st_k hs hmx1) (st_n hs hmx1 (j := 0) (by decide)) (st_r6 hs hmx1) ?_
  refine E_iload_n 2 dX10_serve_109 rfl rfl ?_
  obtain ⟨g39, h⟩ := h
  refine E_iald2 (x2.toNatClampNeg) dX10_serve_110 (st_ka6 hs hmx1) (st_n hs hmx1 (by decide)) g39 rfl ?_
  refine E_if_le 161 dX10_serve_111 (by decide) (fun c => ?_) (fun c => ?_)
  · rw [if_pos c] at h
    refine E_aload_n 1 dX10_serve_161 rfl rfl ?_
    refine E_iload_n 2 dX10_serve_162 rfl rfl ?_
    refine E_iload_n 3 dX10_serve_163 rfl rfl ?_
    obtain ⟨d40, σ41, hD42, hC43, h⟩ := h
    have hs44 := hC43.1.2.2.2.1 hs
    refine E_callV (As := [.int x2, .int x3]) (rest := []) (r1 := none) (b := x1) dX10_serve_164 ok_X7_finishStage in_X7_finishStage se_X7_finishStage ml_X10_178 hD42 rfl rfl (Nat.le_of_ble_eq_true rfl) (st_k hs hmx1) (st_n hs hmx1 (j := 0) (by decide)) (by decide) rfl (by decide +kernel) hC43 ?_
    refine E_iinc 7 (x7 + 1) [(7, .int (x7 + 1)), (0, .ref 34), (1, .ref x1), (2, .int x2), (3, .int x3), (4, .int x4), (5, .int x5), (6, .int x6)] dX10_serve_167 rfl (congrArg (x7 + ·) (by decide : Int32.ofInt 1 = 1)) (by decide) rfl ?_
    refine E_goto 67 dX10_serve_170 (by decide) ?_
    exact E_lv [1, 2, 3, 4, 5, 6, 7, 0] rfl h
  · rw [if_neg c] at h
    refine E_aload_n 0 dX10_serve_114 rfl rfl ?_
    refine E_getR 37 dX10_serve_115 fl_X10_28 rfl (sk_34 hs) (sn hs (by decide)) (sr_34_7 hs) ?_
    refine E_iload 4 dX10_serve_118 rfl ?_
    obtain ⟨g45, h⟩ := h
    refine E_iald2 (x4.toNatClampNeg) dX10_serve_120 (sk_37 hs) (sn hs (by decide)) g45 rfl ?_
    refine E_if_le 160 dX10_serve_121 (by decide) (fun c => ?_) (fun c => ?_)
    · rw [if_pos c] at h
      obtain ⟨rfl, rfl⟩ := h
      exact E_vret dX10_serve_160 rfl
    · rw [if_neg c] at h
      refine E_aload_n 0 dX10_serve_124 rfl rfl ?_
      refine E_getR 37 dX10_serve_125 fl_X10_28 rfl (sk_34 hs) (sn hs (by decide)) (sr_34_7 hs) ?_
      refine E_iload 4 dX10_serve_128 rfl ?_
      refine E_dup2 dX10_serve_130 rfl rfl ?_
      obtain ⟨g46, h⟩ := h
      refine E_iald2 (x4.toNatClampNeg) dX10_serve_131 (sk_37 hs) (sn hs (by decide)) g46 rfl ?_
      refine E_iconst (1 : Int32) dX10_serve_132 (by decide) ?_
      refine E_isub dX10_serve_133 ?_
      obtain ⟨g47, h⟩ := h
      refine E_iast2 (x4.toNatClampNeg) dX10_serve_134 (sk_37 hs) (sn hs (by decide)) (Or.inl (by decide)) g47 rfl ?_
      refine E_aload_n 1 dX10_serve_135 rfl rfl ?_
      refine E_getR (x1 + 6) dX10_serve_136 fl_X10_167 rfl (st_k hs hmx1) (st_n hs hmx1 (j := 0) (by decide)) (st_r6 hs hmx1) ?_
      refine E_iload_n 2 dX10_serve_139 rfl rfl ?_
      refine E_dup2 dX10_serve_140 rfl rfl ?_
      obtain ⟨g48, h⟩ := h
      refine E_iald2 (x2.toNatClampNeg) dX10_serve_141 (st_ka6 hs hmx1) (st_n hs hmx1 (by decide)) g48 rfl ?_
      refine E_iconst (1 : Int32) dX10_serve_142 (by decide) ?_
      refine E_isub dX10_serve_143 ?_
      obtain ⟨g49, h⟩ := h
      refine E_iast2 (x2.toNatClampNeg) dX10_serve_144 (st_ka6 hs hmx1) (st_n hs hmx1 (by decide)) (Or.inl ((by decide : ∀ b ∈ siteIds, m_X10_serve.2.2.2.2.1.contains (b + 6) = true) _ hmx1)) g49 rfl ?_
      obtain ⟨τ50, e51⟩ : ∃ τ : AH, τ = (sI (sI σ 37 x4.toNatClampNeg ((gI σ 37 x4.toNatClampNeg) - (1 : Int32))) (x1 + 6) x2.toNatClampNeg ((gI (sI σ 37 x4.toNatClampNeg ((gI σ 37 x4.toNatClampNeg) - (1 : Int32))) (x1 + 6) x2.toNatClampNeg) - (1 : Int32))) := ⟨_, rfl⟩
      replace h := h τ50 e51
      rw [← e51]
      have hs52 : Sh τ50 := by rw [e51]; exact hs
      refine E_aload_n 1 dX10_serve_145 rfl rfl ?_
      refine E_getR (x1 + 6) dX10_serve_146 fl_X10_167 rfl (st_k hs52 hmx1) (st_n hs52 hmx1 (j := 0) (by decide)) (st_r6 hs52 hmx1) ?_
      refine E_iload_n 2 dX10_serve_149 rfl rfl ?_
      obtain ⟨g53, h⟩ := h
      refine E_iald2 (x2.toNatClampNeg) dX10_serve_150 (st_ka6 hs52 hmx1) (st_n hs52 hmx1 (by decide)) g53 rfl ?_
      refine E_if_ne 160 dX10_serve_151 (by decide) (fun c => ?_) (fun c => ?_)
      · rw [if_neg c] at h
        obtain ⟨rfl, rfl⟩ := h
        exact E_vret dX10_serve_160 rfl
      · rw [if_pos c] at h
        refine E_aload_n 1 dX10_serve_154 rfl rfl ?_
        refine E_iload_n 2 dX10_serve_155 rfl rfl ?_
        refine E_iload_n 3 dX10_serve_156 rfl rfl ?_
        obtain ⟨d54, σ55, hD56, hC57, h⟩ := h
        have hs58 := hC57.1.2.2.2.1 hs52
        refine E_callV (As := [.int x2, .int x3]) (rest := []) (r1 := none) (b := x1) dX10_serve_157 ok_X7_finishStage in_X7_finishStage se_X7_finishStage ml_X10_178 hD56 rfl rfl (Nat.le_of_ble_eq_true rfl) (st_k hs52 hmx1) (st_n hs52 hmx1 (j := 0) (by decide)) (by decide) rfl (by decide +kernel) hC57 ?_
        obtain ⟨rfl, rfl⟩ := h
        exact E_vret dX10_serve_160 rfl
def W_X10_serve_67 (X : Sx) (l : Launch) (D : Nat) (x1 : Nat) (x2 : Int32) (x3 : Int32) (x4 : Int32) (x5 : Int32) (x6 : Int32) (x7 : Int32) (σ : AH) (r : Option Value) (σ' : AH) : Prop := (if (3 : Int32) ≤ x7 then (r = none ∧ σ' = σ) else vp_in x2 30 ∧ (if (gI σ (x1 + 6) x2.toNatClampNeg) = (-1 : Int32) then ∃ d27 : Nat, ∃ v32 : Int32, ∃ σ28 : AH, d27 + 1 ≤ D ∧ Call X l m_X10_needsAt d27 [.ref 34, .int x5, .int x7, .int x6, .int x3] σ (some (.int v32)) σ28 ∧ ∃ d33 : Nat, ∃ v38 : Int32, ∃ σ34 : AH, d33 + 1 ≤ D ∧ Call X l m_X10_takeNeeds d33 [.ref 34, .ref x1, .int x2, .int x3, .int v32] σ28 (some (.int v38)) σ34 ∧ (if v38 = 0 then (r = none ∧ σ' = σ34) else W_X10_serve_105 X l D x1 x2 x3 x4 x5 x6 x7 σ34 r σ') else W_X10_serve_105 X l D x1 x2 x3 x4 x5 x6 x7 σ r σ'))
set_option maxRecDepth 100000 in
theorem w_X10_serve_67 {X : Sx} {l : Launch} {D : Nat} {x1 : Nat} {x2 : Int32} {x3 : Int32} {x4 : Int32} {x5 : Int32} {x6 : Int32} {x7 : Int32} {σ : AH} {r : Option Value} {σ' : AH} (hs : Sh σ) (hmx1 : x1 ∈ siteIds) (h : W_X10_serve_67 X l D x1 x2 x3 x4 x5 x6 x7 σ r σ') : E X l m_X10_serve D 67 [(0, .ref 34), (1, .ref x1), (2, .int x2), (3, .int x3), (4, .int x4), (5, .int x5), (6, .int x6), (7, .int x7)] [] σ r σ' := by
  unfold W_X10_serve_67 at h
  refine E_iload 7 dX10_serve_67 rfl ?_
  refine E_iconst (3 : Int32) dX10_serve_69 (by decide) ?_
  refine E_icmp_ge 173 dX10_serve_70 (by decide) (fun c => ?_) (fun c => ?_)
  · rw [if_pos c] at h
    obtain ⟨rfl, rfl⟩ := h
    exact E_vret dX10_serve_173 rfl
  · rw [if_neg c] at h
    refine E_aload_n 1 dX10_serve_73 rfl rfl ?_
    refine E_getR (x1 + 6) dX10_serve_74 fl_X10_167 rfl (st_k hs hmx1) (st_n hs hmx1 (j := 0) (by decide)) (st_r6 hs hmx1) ?_
    refine E_iload_n 2 dX10_serve_77 rfl rfl ?_
    obtain ⟨g26, h⟩ := h
    refine E_iald2 (x2.toNatClampNeg) dX10_serve_78 (st_ka6 hs hmx1) (st_n hs hmx1 (by decide)) g26 rfl ?_
    refine E_iconst (-1 : Int32) dX10_serve_79 (by decide) ?_
    refine E_icmp_ne 105 dX10_serve_80 (by decide) (fun c => ?_) (fun c => ?_)
    · rw [if_neg c] at h
      exact E_lv [0, 1, 2, 3, 4, 5, 6, 7] rfl (w_X10_serve_105 hs hmx1 h)
    · rw [if_pos c] at h
      refine E_aload_n 0 dX10_serve_83 rfl rfl ?_
      refine E_aload_n 1 dX10_serve_84 rfl rfl ?_
      refine E_iload_n 2 dX10_serve_85 rfl rfl ?_
      refine E_iload_n 3 dX10_serve_86 rfl rfl ?_
      refine E_aload_n 0 dX10_serve_87 rfl rfl ?_
      refine E_iload 5 dX10_serve_88 rfl ?_
      refine E_iload 7 dX10_serve_90 rfl ?_
      refine E_iload 6 dX10_serve_92 rfl ?_
      refine E_iload_n 3 dX10_serve_94 rfl rfl ?_
      obtain ⟨d27, v32, σ28, hD29, hC30, h⟩ := h
      have hs31 := hC30.1.2.2.2.1 hs
      refine E_callV (As := [.int x5, .int x7, .int x6, .int x3]) (rest := [.int x3, .int x2, .ref x1, .ref 34]) (r1 := (some (.int v32))) (b := 34) dX10_serve_95 ok_X10_needsAt in_X10_needsAt se_X10_needsAt ml_X10_170 hD29 rfl rfl (Nat.le_of_ble_eq_true rfl) (sk_34 hs) (sn hs (by decide)) (by decide) rfl (by decide +kernel) hC30 ?_
      obtain ⟨d33, v38, σ34, hD35, hC36, h⟩ := h
      have hs37 := hC36.1.2.2.2.1 hs31
      refine E_callV (As := [.ref x1, .int x2, .int x3, .int v32]) (rest := []) (r1 := (some (.int v38))) (b := 34) dX10_serve_98 ok_X10_takeNeeds in_X10_takeNeeds se_X10_takeNeeds ml_X10_174 hD35 rfl rfl (Nat.le_of_ble_eq_true rfl) (sk_34 hs31) (sn hs31 (by decide)) (by decide) rfl (by decide +kernel) hC36 ?_
      refine E_if_ne 105 dX10_serve_101 (by decide) (fun c => ?_) (fun c => ?_)
      · rw [if_neg c] at h
        exact E_lv [0, 1, 2, 3, 4, 5, 6, 7] rfl (w_X10_serve_105 hs37 hmx1 h)
      · rw [if_pos c] at h
        obtain ⟨rfl, rfl⟩ := h
        exact E_vret dX10_serve_104 rfl
def W_X10_takeNeeds_31 (X : Sx) (l : Launch) (D : Nat) (x1 : Nat) (x2 : Int32) (x3 : Int32) (x4 : Int32) (x5 : Int32) (σ : AH) (r : Option Value) (σ' : AH) : Prop := E X l m_X10_takeNeeds D 34 [(0, .ref 34), (1, .ref x1), (2, .int x2), (3, .int x3), (4, .int x4), (5, .int x5), (6, .int (0 : Int32))] [] σ r σ'
set_option maxRecDepth 100000 in
theorem w_X10_takeNeeds_31 {X : Sx} {l : Launch} {D : Nat} {x1 : Nat} {x2 : Int32} {x3 : Int32} {x4 : Int32} {x5 : Int32} {σ : AH} {r : Option Value} {σ' : AH} (hs : Sh σ) (hmx1 : x1 ∈ siteIds) (h : W_X10_takeNeeds_31 X l D x1 x2 x3 x4 x5 σ r σ') : E X l m_X10_takeNeeds D 31 [(0, .ref 34), (1, .ref x1), (2, .int x2), (3, .int x3), (4, .int x4), (5, .int x5)] [] σ r σ' := by
  unfold W_X10_takeNeeds_31 at h
  refine E_iconst (0 : Int32) dX10_takeNeeds_31 (by decide) ?_
  refine E_istore [(6, .int (0 : Int32)), (0, .ref 34), (1, .ref x1), (2, .int x2), (3, .int x3), (4, .int x4), (5, .int x5)] dX10_takeNeeds_32 (by decide) rfl ?_
  exact E_lv [1, 2, 3, 4, 5, 6, 0] rfl h
def W_X10_takeNeeds_0 (X : Sx) (l : Launch) (D : Nat) (x1 : Nat) (x2 : Int32) (x3 : Int32) (x4 : Int32) (σ : AH) (r : Option Value) (σ' : AH) : Prop := vp_in x2 30 ∧ vp_in ((x2 * (3 : Int32)) + (gI σ (x1 + 5) x2.toNatClampNeg)) 90 ∧ (if (gI σ (x1 + 7) ((x2 * (3 : Int32)) + (gI σ (x1 + 5) x2.toNatClampNeg)).toNatClampNeg) = (-1 : Int32) then vp_in ((x2 * (3 : Int32)) + (gI σ (x1 + 5) x2.toNatClampNeg)) 90 ∧ W_X10_takeNeeds_31 X l D x1 x2 x3 x4 ((x2 * (3 : Int32)) + (gI σ (x1 + 5) x2.toNatClampNeg)) (sI σ (x1 + 7) (((x2 * (3 : Int32)) + (gI σ (x1 + 5) x2.toNatClampNeg)).toNatClampNeg) x3) r σ' else W_X10_takeNeeds_31 X l D x1 x2 x3 x4 ((x2 * (3 : Int32)) + (gI σ (x1 + 5) x2.toNatClampNeg)) σ r σ')
set_option maxRecDepth 100000 in
theorem w_X10_takeNeeds_0 {X : Sx} {l : Launch} {D : Nat} {x1 : Nat} {x2 : Int32} {x3 : Int32} {x4 : Int32} {σ : AH} {r : Option Value} {σ' : AH} (hs : Sh σ) (hmx1 : x1 ∈ siteIds) (h : W_X10_takeNeeds_0 X l D x1 x2 x3 x4 σ r σ') : E X l m_X10_takeNeeds D 0 [(0, .ref 34), (1, .ref x1), (2, .int x2), (3, .int x3), (4, .int x4)] [] σ r σ' := by
  unfold W_X10_takeNeeds_0 at h
  refine E_iload_n 2 dX10_takeNeeds_0 rfl rfl ?_
  refine E_iconst (3 : Int32) dX10_takeNeeds_1 (by decide) ?_
  refine E_imul dX10_takeNeeds_2 ?_
  refine E_aload_n 1 dX10_takeNeeds_3 rfl rfl ?_
  refine E_getR (x1 + 5) dX10_takeNeeds_4 fl_X10_164 rfl (st_k hs hmx1) (st_n hs hmx1 (j := 0) (by decide)) (st_r5 hs hmx1) ?_
  refine E_iload_n 2 dX10_takeNeeds_7 rfl rfl ?_
  obtain ⟨g1, h⟩ := h
  refine E_iald2 (x2.toNatClampNeg) dX10_takeNeeds_8 (st_ka5 hs hmx1) (st_n hs hmx1 (by decide)) g1 rfl ?_
  refine E_iadd dX10_takeNeeds_9 ?_
  refine E_istore [(5, .int ((x2 * (3 : Int32)) + (gI σ (x1 + 5) x2.toNatClampNeg))), (0, .ref 34), (1, .ref x1), (2, .int x2), (3, .int x3), (4, .int x4)] dX10_takeNeeds_10 (by decide) rfl ?_
  refine E_aload_n 2 dX10_takeNeeds_12 rfl rfl ?_
  refine E_getR (x1 + 7) dX10_takeNeeds_13 fl_X10_181 rfl (st_k hs hmx1) (st_n hs hmx1 (j := 0) (by decide)) (st_r7 hs hmx1) ?_
  refine E_iload 0 dX10_takeNeeds_16 rfl ?_
  obtain ⟨g2, h⟩ := h
  refine E_iald2 (((x2 * (3 : Int32)) + (gI σ (x1 + 5) x2.toNatClampNeg)).toNatClampNeg) dX10_takeNeeds_18 (st_ka7 hs hmx1) (st_n hs hmx1 (by decide)) g2 rfl ?_
  refine E_iconst (-1 : Int32) dX10_takeNeeds_19 (by decide) ?_
  refine E_icmp_ne 31 dX10_takeNeeds_20 (by decide) (fun c => ?_) (fun c => ?_)
  · rw [if_neg c] at h
    exact E_lv [1, 2, 3, 4, 5, 0] rfl (w_X10_takeNeeds_31 hs hmx1 h)
  · rw [if_pos c] at h
    refine E_aload_n 2 dX10_takeNeeds_23 rfl rfl ?_
    refine E_getR (x1 + 7) dX10_takeNeeds_24 fl_X10_181 rfl (st_k hs hmx1) (st_n hs hmx1 (j := 0) (by decide)) (st_r7 hs hmx1) ?_
    refine E_iload 0 dX10_takeNeeds_27 rfl ?_
    refine E_iload_n 4 dX10_takeNeeds_29 rfl rfl ?_
    obtain ⟨g3, h⟩ := h
    refine E_iast2 (((x2 * (3 : Int32)) + (gI σ (x1 + 5) x2.toNatClampNeg)).toNatClampNeg) dX10_takeNeeds_30 (st_ka7 hs hmx1) (st_n hs hmx1 (by decide)) (Or.inl ((by decide : ∀ b ∈ siteIds, m_X10_takeNeeds.2.2.2.2.1.contains (b + 7) = true) _ hmx1)) g3 rfl ?_
    exact E_lv [1, 2, 3, 4, 5, 0] rfl (w_X10_takeNeeds_31 hs hmx1 h)
def W_X10_takeNeeds_34 (X : Sx) (l : Launch) (D : Nat) (x1 : Nat) (x2 : Int32) (x3 : Int32) (x4 : Int32) (x5 : Int32) (x6 : Int32) (σ : AH) (r : Option Value) (σ' : AH) : Prop := (if (5 : Int32) ≤ x6 then E X l m_X10_takeNeeds D 71 [(0, .ref 34), (1, .ref x1), (2, .int x2), (3, .int x3), (4, .int x4), (5, .int x5), (6, .int (0 : Int32))] [] σ r σ' else vp_in x6 5 ∧ vp_in (x4 + x6) 4212 ∧ (if (gI σ 42 (x4 + x6).toNatClampNeg) ≤ (gI σ (x1 + 1) x6.toNatClampNeg) then E X l m_X10_takeNeeds D 34 [(0, .ref 34), (1, .ref x1), (2, .int x2), (3, .int x3), (4, .int x4), (5, .int x5), (6, .int (x6 + 1))] [] σ r σ' else (r = some (.int (0 : Int32)) ∧ σ' = σ)))
set_option maxRecDepth 100000 in
theorem w_X10_takeNeeds_34 {X : Sx} {l : Launch} {D : Nat} {x1 : Nat} {x2 : Int32} {x3 : Int32} {x4 : Int32} {x5 : Int32} {x6 : Int32} {σ : AH} {r : Option Value} {σ' : AH} (hs : Sh σ) (hmx1 : x1 ∈ siteIds) (h : W_X10_takeNeeds_34 X l D x1 x2 x3 x4 x5 x6 σ r σ') : E X l m_X10_takeNeeds D 34 [(0, .ref 34), (1, .ref x1), (2, .int x2), (3, .int x3), (4, .int x4), (5, .int x5), (6, .int x6)] [] σ r σ' := by
  unfold W_X10_takeNeeds_34 at h
  refine E_iload 6 dX10_takeNeeds_34 rfl ?_
  refine E_iconst (5 : Int32) dX10_takeNeeds_36 (by decide) ?_
  refine E_icmp_ge 68 dX10_takeNeeds_37 (by decide) (fun c => ?_) (fun c => ?_)
  · rw [if_pos c] at h
    refine E_iconst (0 : Int32) dX10_takeNeeds_68 (by decide) ?_
    refine E_istore [(6, .int (0 : Int32)), (0, .ref 34), (1, .ref x1), (2, .int x2), (3, .int x3), (4, .int x4), (5, .int x5)] dX10_takeNeeds_69 (by decide) rfl ?_
    exact E_lv [1, 2, 3, 4, 5, 6, 0] rfl h
  · rw [if_neg c] at h
    refine E_aload_n 1 dX10_takeNeeds_40 rfl rfl ?_
    refine E_getR (x1 + 1) dX10_takeNeeds_41 fl_X10_97 rfl (st_k hs hmx1) (st_n hs hmx1 (j := 0) (by decide)) (st_r0 hs hmx1) ?_
    refine E_iload 6 dX10_takeNeeds_44 rfl ?_
    obtain ⟨g4, h⟩ := h
    refine E_iald2 (x6.toNatClampNeg) dX10_takeNeeds_46 (sk_stock hs (st_stock hmx1)) (sn_stock hs (st_stock hmx1)) g4 rfl ?_
    refine E_aload_n 0 dX10_takeNeeds_47 rfl rfl ?_
    refine E_getR 42 dX10_takeNeeds_48 fl_X10_43 rfl (sk_34 hs) (sn hs (by decide)) (sr_34_12 hs) ?_
    refine E_iload 4 dX10_takeNeeds_51 rfl ?_
    refine E_iload 6 dX10_takeNeeds_53 rfl ?_
    refine E_iadd dX10_takeNeeds_55 ?_
    obtain ⟨g5, h⟩ := h
    refine E_iald2 ((x4 + x6).toNatClampNeg) dX10_takeNeeds_56 (sk_42 hs) (sn hs (by decide)) g5 rfl ?_
    refine E_icmp_ge 62 dX10_takeNeeds_57 (by decide) (fun c => ?_) (fun c => ?_)
    · rw [if_pos c] at h
      refine E_iinc 6 (x6 + 1) [(6, .int (x6 + 1)), (0, .ref 34), (1, .ref x1), (2, .int x2), (3, .int x3), (4, .int x4), (5, .int x5)] dX10_takeNeeds_62 rfl (congrArg (x6 + ·) (by decide : Int32.ofInt 1 = 1)) (by decide) rfl ?_
      refine E_goto 34 dX10_takeNeeds_65 (by decide) ?_
      exact E_lv [1, 2, 3, 4, 5, 6, 0] rfl h
    · rw [if_neg c] at h
      refine E_iconst (0 : Int32) dX10_takeNeeds_60 (by decide) ?_
      obtain ⟨rfl, rfl⟩ := h
      exact E_zret dX10_takeNeeds_61 rfl (Or.inl rfl)
def W_X10_takeNeeds_71 (X : Sx) (l : Launch) (D : Nat) (x1 : Nat) (x2 : Int32) (x3 : Int32) (x4 : Int32) (x5 : Int32) (x6 : Int32) (σ : AH) (r : Option Value) (σ' : AH) : Prop := (if (5 : Int32) ≤ x6 then vp_in x5 90 ∧ vp_in (x4 + (5 : Int32)) 4212 ∧ vp_in x2 30 ∧ (r = some (.int (1 : Int32)) ∧ σ' = (sI (sI σ (x1 + 8) x5.toNatClampNeg x3) (x1 + 6) x2.toNatClampNeg (gI (sI σ (x1 + 8) x5.toNatClampNeg x3) 42 (x4 + (5 : Int32)).toNatClampNeg))) else vp_in x6 5 ∧ vp_in (x4 + x6) 4212 ∧ vp_in x6 5 ∧ E X l m_X10_takeNeeds D 71 [(0, .ref 34), (1, .ref x1), (2, .int x2), (3, .int x3), (4, .int x4), (5, .int x5), (6, .int (x6 + 1))] [] (sI σ (x1 + 1) x6.toNatClampNeg ((gI σ (x1 + 1) x6.toNatClampNeg) - (gI σ 42 (x4 + x6).toNatClampNeg))) r σ')
set_option maxRecDepth 100000 in
theorem w_X10_takeNeeds_71 {X : Sx} {l : Launch} {D : Nat} {x1 : Nat} {x2 : Int32} {x3 : Int32} {x4 : Int32} {x5 : Int32} {x6 : Int32} {σ : AH} {r : Option Value} {σ' : AH} (hs : Sh σ) (hmx1 : x1 ∈ siteIds) (h : W_X10_takeNeeds_71 X l D x1 x2 x3 x4 x5 x6 σ r σ') : E X l m_X10_takeNeeds D 71 [(0, .ref 34), (1, .ref x1), (2, .int x2), (3, .int x3), (4, .int x4), (5, .int x5), (6, .int x6)] [] σ r σ' := by
  unfold W_X10_takeNeeds_71 at h
  refine E_iload 6 dX10_takeNeeds_71 rfl ?_
  refine E_iconst (5 : Int32) dX10_takeNeeds_73 (by decide) ?_
  refine E_icmp_ge 103 dX10_takeNeeds_74 (by decide) (fun c => ?_) (fun c => ?_)
  · rw [if_pos c] at h
    refine E_aload_n 1 dX10_takeNeeds_103 rfl rfl ?_
    refine E_getR (x1 + 8) dX10_takeNeeds_104 fl_X10_184 rfl (st_k hs hmx1) (st_n hs hmx1 (j := 0) (by decide)) (st_r8 hs hmx1) ?_
    refine E_iload 5 dX10_takeNeeds_107 rfl ?_
    refine E_iload_n 3 dX10_takeNeeds_109 rfl rfl ?_
    obtain ⟨g6, h⟩ := h
    refine E_iast2 (x5.toNatClampNeg) dX10_takeNeeds_110 (st_ka8 hs hmx1) (st_n hs hmx1 (by decide)) (Or.inl ((by decide : ∀ b ∈ siteIds, m_X10_takeNeeds.2.2.2.2.1.contains (b + 8) = true) _ hmx1)) g6 rfl ?_
    refine E_aload_n 1 dX10_takeNeeds_111 rfl rfl ?_
    refine E_getR (x1 + 6) dX10_takeNeeds_112 fl_X10_167 rfl (st_k hs hmx1) (st_n hs hmx1 (j := 0) (by decide)) (st_r6 hs hmx1) ?_
    refine E_iload_n 2 dX10_takeNeeds_115 rfl rfl ?_
    refine E_aload_n 0 dX10_takeNeeds_116 rfl rfl ?_
    refine E_getR 42 dX10_takeNeeds_117 fl_X10_43 rfl (sk_34 hs) (sn hs (by decide)) (sr_34_12 hs) ?_
    refine E_iload 4 dX10_takeNeeds_120 rfl ?_
    refine E_iconst (5 : Int32) dX10_takeNeeds_122 (by decide) ?_
    refine E_iadd dX10_takeNeeds_123 ?_
    obtain ⟨g7, h⟩ := h
    refine E_iald2 ((x4 + (5 : Int32)).toNatClampNeg) dX10_takeNeeds_124 (sk_42 hs) (sn hs (by decide)) g7 rfl ?_
    obtain ⟨g8, h⟩ := h
    refine E_iast2 (x2.toNatClampNeg) dX10_takeNeeds_125 (st_ka6 hs hmx1) (st_n hs hmx1 (by decide)) (Or.inl ((by decide : ∀ b ∈ siteIds, m_X10_takeNeeds.2.2.2.2.1.contains (b + 6) = true) _ hmx1)) g8 rfl ?_
    refine E_iconst (1 : Int32) dX10_takeNeeds_126 (by decide) ?_
    obtain ⟨rfl, rfl⟩ := h
    exact E_zret dX10_takeNeeds_127 rfl (Or.inr rfl)
  · rw [if_neg c] at h
    refine E_aload_n 1 dX10_takeNeeds_77 rfl rfl ?_
    refine E_getR (x1 + 1) dX10_takeNeeds_78 fl_X10_97 rfl (st_k hs hmx1) (st_n hs hmx1 (j := 0) (by decide)) (st_r0 hs hmx1) ?_
    refine E_iload 6 dX10_takeNeeds_81 rfl ?_
    refine E_dup2 dX10_takeNeeds_83 rfl rfl ?_
    obtain ⟨g9, h⟩ := h
    refine E_iald2 (x6.toNatClampNeg) dX10_takeNeeds_84 (sk_stock hs (st_stock hmx1)) (sn_stock hs (st_stock hmx1)) g9 rfl ?_
    refine E_aload_n 0 dX10_takeNeeds_85 rfl rfl ?_
    refine E_getR 42 dX10_takeNeeds_86 fl_X10_43 rfl (sk_34 hs) (sn hs (by decide)) (sr_34_12 hs) ?_
    refine E_iload 4 dX10_takeNeeds_89 rfl ?_
    refine E_iload 6 dX10_takeNeeds_91 rfl ?_
    refine E_iadd dX10_takeNeeds_93 ?_
    obtain ⟨g10, h⟩ := h
    refine E_iald2 ((x4 + x6).toNatClampNeg) dX10_takeNeeds_94 (sk_42 hs) (sn hs (by decide)) g10 rfl ?_
    refine E_isub dX10_takeNeeds_95 ?_
    obtain ⟨g11, h⟩ := h
    refine E_iast2 (x6.toNatClampNeg) dX10_takeNeeds_96 (sk_stock hs (st_stock hmx1)) (sn_stock hs (st_stock hmx1)) (Or.inl ((by decide : ∀ b ∈ stockIds, m_X10_takeNeeds.2.2.2.2.1.contains b = true) _ (st_stock hmx1))) g11 rfl ?_
    refine E_iinc 6 (x6 + 1) [(6, .int (x6 + 1)), (0, .ref 34), (1, .ref x1), (2, .int x2), (3, .int x3), (4, .int x4), (5, .int x5)] dX10_takeNeeds_97 rfl (congrArg (x6 + ·) (by decide : Int32.ofInt 1 = 1)) (by decide) rfl ?_
    refine E_goto 71 dX10_takeNeeds_100 (by decide) ?_
    exact E_lv [1, 2, 3, 4, 5, 6, 0] rfl h
