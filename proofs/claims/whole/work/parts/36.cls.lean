theorem dX11_knock_0 : decode cX11_knock 0 = .ok (.iload_n 1, 1) := by decide +kernel
theorem dX11_knock_1 : decode cX11_knock 1 = .ok (.invokestatic 95, 3) := by decide +kernel
theorem dX11_knock_4 : decode cX11_knock 4 = .ok (.ifCond .eq 13, 3) := by decide +kernel
theorem dX11_knock_7 : decode cX11_knock 7 = .ok (.iload_n 2, 1) := by decide +kernel
theorem dX11_knock_8 : decode cX11_knock 8 = .ok (.iconst 1, 1) := by decide +kernel
theorem dX11_knock_9 : decode cX11_knock 9 = .ok (.bipush 26, 2) := by decide +kernel
theorem dX11_knock_11 : decode cX11_knock 11 = .ok (.invokestatic 124, 3) := by decide +kernel
theorem dX11_knock_14 : decode cX11_knock 14 = .ok (.ifCond .ne 6, 3) := by decide +kernel
theorem dX11_knock_17 : decode cX11_knock 17 = .ok (.ldc 229, 2) := by decide +kernel
theorem dX11_knock_19 : decode cX11_knock 19 = .ok (.ireturn, 1) := by decide +kernel
theorem dX11_knock_20 : decode cX11_knock 20 = .ok (.aload_n 0, 1) := by decide +kernel
theorem dX11_knock_21 : decode cX11_knock 21 = .ok (.iload_n 1, 1) := by decide +kernel
theorem dX11_knock_22 : decode cX11_knock 22 = .ok (.iconst 0, 1) := by decide +kernel
theorem dX11_knock_23 : decode cX11_knock 23 = .ok (.invokevirtual 194, 3) := by decide +kernel
theorem dX11_knock_26 : decode cX11_knock 26 = .ok (.astore_n 3, 1) := by decide +kernel
theorem dX11_knock_27 : decode cX11_knock 27 = .ok (.aload_n 0, 1) := by decide +kernel
theorem dX11_knock_28 : decode cX11_knock 28 = .ok (.iload_n 1, 1) := by decide +kernel
theorem dX11_knock_29 : decode cX11_knock 29 = .ok (.iload_n 2, 1) := by decide +kernel
theorem dX11_knock_30 : decode cX11_knock 30 = .ok (.invokevirtual 194, 3) := by decide +kernel
theorem dX11_knock_33 : decode cX11_knock 33 = .ok (.astore 4, 2) := by decide +kernel
theorem dX11_knock_35 : decode cX11_knock 35 = .ok (.iconst 0, 1) := by decide +kernel
theorem dX11_knock_36 : decode cX11_knock 36 = .ok (.istore 5, 2) := by decide +kernel
theorem dX11_knock_38 : decode cX11_knock 38 = .ok (.iconst 0, 1) := by decide +kernel
theorem dX11_knock_39 : decode cX11_knock 39 = .ok (.istore 6, 2) := by decide +kernel
theorem dX11_knock_41 : decode cX11_knock 41 = .ok (.iload 6, 2) := by decide +kernel
theorem dX11_knock_43 : decode cX11_knock 43 = .ok (.aload_n 0, 1) := by decide +kernel
theorem dX11_knock_44 : decode cX11_knock 44 = .ok (.getfield 10, 3) := by decide +kernel
theorem dX11_knock_47 : decode cX11_knock 47 = .ok (.getfield 182, 3) := by decide +kernel
theorem dX11_knock_50 : decode cX11_knock 50 = .ok (.invokevirtual 173, 3) := by decide +kernel
theorem dX11_knock_53 : decode cX11_knock 53 = .ok (.if_icmp .ge 54, 3) := by decide +kernel
theorem dX11_knock_56 : decode cX11_knock 56 = .ok (.aload_n 3, 1) := by decide +kernel
theorem dX11_knock_57 : decode cX11_knock 57 = .ok (.iload 6, 2) := by decide +kernel
theorem dX11_knock_59 : decode cX11_knock 59 = .ok (.invokevirtual 230, 3) := by decide +kernel
theorem dX11_knock_62 : decode cX11_knock 62 = .ok (.istore 7, 2) := by decide +kernel
theorem dX11_knock_64 : decode cX11_knock 64 = .ok (.iload 7, 2) := by decide +kernel
theorem dX11_knock_66 : decode cX11_knock 66 = .ok (.iconst (-1), 1) := by decide +kernel
theorem dX11_knock_67 : decode cX11_knock 67 = .ok (.if_icmp .eq 34, 3) := by decide +kernel
theorem dX11_knock_70 : decode cX11_knock 70 = .ok (.aload 4, 2) := by decide +kernel
theorem dX11_knock_72 : decode cX11_knock 72 = .ok (.iload 6, 2) := by decide +kernel
theorem dX11_knock_74 : decode cX11_knock 74 = .ok (.invokevirtual 230, 3) := by decide +kernel
theorem dX11_knock_77 : decode cX11_knock 77 = .ok (.istore 8, 2) := by decide +kernel
theorem dX11_knock_79 : decode cX11_knock 79 = .ok (.iload 5, 2) := by decide +kernel
theorem dX11_knock_81 : decode cX11_knock 81 = .ok (.iload 8, 2) := by decide +kernel
theorem dX11_knock_83 : decode cX11_knock 83 = .ok (.iconst (-1), 1) := by decide +kernel
theorem dX11_knock_84 : decode cX11_knock 84 = .ok (.if_icmp .ne 9, 3) := by decide +kernel
theorem dX11_knock_87 : decode cX11_knock 87 = .ok (.sipush 260, 3) := by decide +kernel
theorem dX11_knock_90 : decode cX11_knock 90 = .ok (.goto 5, 3) := by decide +kernel
theorem dX11_knock_93 : decode cX11_knock 93 = .ok (.iload 8, 2) := by decide +kernel
theorem dX11_knock_95 : decode cX11_knock 95 = .ok (.iload 7, 2) := by decide +kernel
theorem dX11_knock_97 : decode cX11_knock 97 = .ok (.isub, 1) := by decide +kernel
theorem dX11_knock_98 : decode cX11_knock 98 = .ok (.iadd, 1) := by decide +kernel
theorem dX11_knock_99 : decode cX11_knock 99 = .ok (.istore 5, 2) := by decide +kernel
theorem dX11_knock_101 : decode cX11_knock 101 = .ok (.iinc 6 1, 3) := by decide +kernel
theorem dX11_knock_104 : decode cX11_knock 104 = .ok (.goto (-63), 3) := by decide +kernel
theorem dX11_knock_107 : decode cX11_knock 107 = .ok (.iload 5, 2) := by decide +kernel
theorem dX11_knock_109 : decode cX11_knock 109 = .ok (.ireturn, 1) := by decide +kernel
theorem dX11_wish_0 : decode cX11_wish 0 = .ok (.aload_n 0, 1) := by decide +kernel
theorem dX11_wish_1 : decode cX11_wish 1 = .ok (.iload_n 1, 1) := by decide +kernel
theorem dX11_wish_2 : decode cX11_wish 2 = .ok (.invokevirtual 185, 3) := by decide +kernel
theorem dX11_wish_5 : decode cX11_wish 5 = .ok (.ifCond .ne 10, 3) := by decide +kernel
theorem dX11_wish_8 : decode cX11_wish 8 = .ok (.aload_n 0, 1) := by decide +kernel
theorem dX11_wish_9 : decode cX11_wish 9 = .ok (.bipush (-2), 2) := by decide +kernel
theorem dX11_wish_11 : decode cX11_wish 11 = .ok (.invokevirtual 105, 3) := by decide +kernel
theorem dX11_wish_14 : decode cX11_wish 14 = .ok (.ireturn, 1) := by decide +kernel
theorem dX11_wish_15 : decode cX11_wish 15 = .ok (.aload_n 0, 1) := by decide +kernel
theorem dX11_wish_16 : decode cX11_wish 16 = .ok (.iload_n 1, 1) := by decide +kernel
theorem dX11_wish_17 : decode cX11_wish 17 = .ok (.sipush 260, 3) := by decide +kernel
theorem dX11_wish_20 : decode cX11_wish 20 = .ok (.invokevirtual 220, 3) := by decide +kernel
theorem dX11_wish_23 : decode cX11_wish 23 = .ok (.iconst (-1), 1) := by decide +kernel
theorem dX11_wish_24 : decode cX11_wish 24 = .ok (.if_icmp .eq 10, 3) := by decide +kernel
theorem dX11_wish_27 : decode cX11_wish 27 = .ok (.aload_n 0, 1) := by decide +kernel
theorem dX11_wish_28 : decode cX11_wish 28 = .ok (.bipush (-3), 2) := by decide +kernel
theorem dX11_wish_30 : decode cX11_wish 30 = .ok (.invokevirtual 105, 3) := by decide +kernel
theorem dX11_wish_33 : decode cX11_wish 33 = .ok (.ireturn, 1) := by decide +kernel
theorem dX11_wish_34 : decode cX11_wish 34 = .ok (.aload_n 0, 1) := by decide +kernel
theorem dX11_wish_35 : decode cX11_wish 35 = .ok (.getfield 60, 3) := by decide +kernel
theorem dX11_wish_38 : decode cX11_wish 38 = .ok (.iload_n 1, 1) := by decide +kernel
theorem dX11_wish_39 : decode cX11_wish 39 = .ok (.invokevirtual 188, 3) := by decide +kernel
theorem dX11_wish_42 : decode cX11_wish 42 = .ok (.ifCond .eq 10, 3) := by decide +kernel
theorem dX11_wish_45 : decode cX11_wish 45 = .ok (.aload_n 0, 1) := by decide +kernel
theorem dX11_wish_46 : decode cX11_wish 46 = .ok (.bipush (-4), 2) := by decide +kernel
theorem dX11_wish_48 : decode cX11_wish 48 = .ok (.invokevirtual 105, 3) := by decide +kernel
theorem dX11_wish_51 : decode cX11_wish 51 = .ok (.ireturn, 1) := by decide +kernel
theorem dX11_wish_52 : decode cX11_wish 52 = .ok (.aload_n 0, 1) := by decide +kernel
theorem dX11_wish_53 : decode cX11_wish 53 = .ok (.getfield 60, 3) := by decide +kernel
theorem dX11_wish_56 : decode cX11_wish 56 = .ok (.getfield 233, 3) := by decide +kernel
theorem dX11_wish_59 : decode cX11_wish 59 = .ok (.bipush 6, 2) := by decide +kernel
theorem dX11_wish_61 : decode cX11_wish 61 = .ok (.if_icmp .lt 10, 3) := by decide +kernel
theorem dX11_wish_64 : decode cX11_wish 64 = .ok (.aload_n 0, 1) := by decide +kernel
theorem dX11_wish_65 : decode cX11_wish 65 = .ok (.bipush (-5), 2) := by decide +kernel
theorem dX11_wish_67 : decode cX11_wish 67 = .ok (.invokevirtual 105, 3) := by decide +kernel
theorem dX11_wish_70 : decode cX11_wish 70 = .ok (.ireturn, 1) := by decide +kernel
theorem dX11_wish_71 : decode cX11_wish 71 = .ok (.aload_n 0, 1) := by decide +kernel
theorem dX11_wish_72 : decode cX11_wish 72 = .ok (.getfield 60, 3) := by decide +kernel
theorem dX11_wish_75 : decode cX11_wish 75 = .ok (.getfield 236, 3) := by decide +kernel
theorem dX11_wish_78 : decode cX11_wish 78 = .ok (.aload_n 0, 1) := by decide +kernel
theorem dX11_wish_79 : decode cX11_wish 79 = .ok (.getfield 60, 3) := by decide +kernel
theorem dX11_wish_82 : decode cX11_wish 82 = .ok (.getfield 233, 3) := by decide +kernel
theorem dX11_wish_85 : decode cX11_wish 85 = .ok (.iload_n 1, 1) := by decide +kernel
theorem dX11_wish_86 : decode cX11_wish 86 = .ok (.iastore, 1) := by decide +kernel
theorem dX11_wish_87 : decode cX11_wish 87 = .ok (.aload_n 0, 1) := by decide +kernel
theorem dX11_wish_88 : decode cX11_wish 88 = .ok (.getfield 60, 3) := by decide +kernel
theorem dX11_wish_91 : decode cX11_wish 91 = .ok (.dup, 1) := by decide +kernel
theorem dX11_wish_92 : decode cX11_wish 92 = .ok (.getfield 233, 3) := by decide +kernel
theorem dX11_wish_95 : decode cX11_wish 95 = .ok (.iconst 1, 1) := by decide +kernel
theorem dX11_wish_96 : decode cX11_wish 96 = .ok (.iadd, 1) := by decide +kernel
theorem dX11_wish_97 : decode cX11_wish 97 = .ok (.putfield 233, 3) := by decide +kernel
theorem dX11_wish_100 : decode cX11_wish 100 = .ok (.aload_n 0, 1) := by decide +kernel
theorem dX11_wish_101 : decode cX11_wish 101 = .ok (.aload_n 0, 1) := by decide +kernel
theorem dX11_wish_102 : decode cX11_wish 102 = .ok (.getfield 60, 3) := by decide +kernel
theorem dX11_wish_105 : decode cX11_wish 105 = .ok (.getfield 233, 3) := by decide +kernel
theorem dX11_wish_108 : decode cX11_wish 108 = .ok (.invokevirtual 105, 3) := by decide +kernel
theorem dX11_wish_111 : decode cX11_wish 111 = .ok (.ireturn, 1) := by decide +kernel
theorem dX11_clear_0 : decode cX11_clear 0 = .ok (.aload_n 0, 1) := by decide +kernel
theorem dX11_clear_1 : decode cX11_clear 1 = .ok (.getfield 60, 3) := by decide +kernel
theorem dX11_clear_4 : decode cX11_clear 4 = .ok (.getfield 233, 3) := by decide +kernel
theorem dX11_clear_7 : decode cX11_clear 7 = .ok (.istore_n 1, 1) := by decide +kernel
theorem dX11_clear_8 : decode cX11_clear 8 = .ok (.aload_n 0, 1) := by decide +kernel
theorem dX11_clear_9 : decode cX11_clear 9 = .ok (.getfield 60, 3) := by decide +kernel
theorem dX11_clear_12 : decode cX11_clear 12 = .ok (.iconst 0, 1) := by decide +kernel
theorem dX11_clear_13 : decode cX11_clear 13 = .ok (.putfield 233, 3) := by decide +kernel
theorem dX11_clear_16 : decode cX11_clear 16 = .ok (.iload_n 1, 1) := by decide +kernel
theorem dX11_clear_17 : decode cX11_clear 17 = .ok (.ireturn, 1) := by decide +kernel
theorem dX11_best_0 : decode cX11_best 0 = .ok (.iload_n 1, 1) := by decide +kernel
theorem dX11_best_1 : decode cX11_best 1 = .ok (.iconst 0, 1) := by decide +kernel
theorem dX11_best_2 : decode cX11_best 2 = .ok (.bipush 19, 2) := by decide +kernel
theorem dX11_best_4 : decode cX11_best 4 = .ok (.invokestatic 124, 3) := by decide +kernel
theorem dX11_best_7 : decode cX11_best 7 = .ok (.ifCond .ne 5, 3) := by decide +kernel
theorem dX11_best_10 : decode cX11_best 10 = .ok (.iconst (-1), 1) := by decide +kernel
theorem dX11_best_11 : decode cX11_best 11 = .ok (.ireturn, 1) := by decide +kernel
theorem dX11_best_12 : decode cX11_best 12 = .ok (.aload_n 0, 1) := by decide +kernel
theorem dX11_best_13 : decode cX11_best 13 = .ok (.getfield 60, 3) := by decide +kernel
theorem dX11_best_16 : decode cX11_best 16 = .ok (.iload_n 1, 1) := by decide +kernel
theorem dX11_best_17 : decode cX11_best 17 = .ok (.aload_n 0, 1) := by decide +kernel
theorem dX11_best_18 : decode cX11_best 18 = .ok (.iload_n 1, 1) := by decide +kernel
theorem dX11_best_19 : decode cX11_best 19 = .ok (.bipush 13, 2) := by decide +kernel
theorem dX11_best_21 : decode cX11_best 21 = .ok (.imul, 1) := by decide +kernel
theorem dX11_best_22 : decode cX11_best 22 = .ok (.invokevirtual 239, 3) := by decide +kernel
theorem dX11_best_25 : decode cX11_best 25 = .ok (.aload_n 0, 1) := by decide +kernel
theorem dX11_best_26 : decode cX11_best 26 = .ok (.getfield 121, 3) := by decide +kernel
theorem dX11_best_29 : decode cX11_best 29 = .ok (.invokevirtual 242, 3) := by decide +kernel
theorem dX11_best_32 : decode cX11_best 32 = .ok (.aload_n 0, 1) := by decide +kernel
theorem dX11_best_33 : decode cX11_best 33 = .ok (.getfield 60, 3) := by decide +kernel
theorem dX11_best_36 : decode cX11_best 36 = .ok (.invokevirtual 245, 3) := by decide +kernel
theorem dX11_best_39 : decode cX11_best 39 = .ok (.iconst 1, 1) := by decide +kernel
theorem dX11_best_40 : decode cX11_best 40 = .ok (.aload_n 0, 1) := by decide +kernel
theorem dX11_best_41 : decode cX11_best 41 = .ok (.getfield 60, 3) := by decide +kernel
theorem dX11_best_44 : decode cX11_best 44 = .ok (.getfield 233, 3) := by decide +kernel
theorem dX11_best_47 : decode cX11_best 47 = .ok (.ishl, 1) := by decide +kernel
theorem dX11_best_48 : decode cX11_best 48 = .ok (.iconst 1, 1) := by decide +kernel
theorem dX11_best_49 : decode cX11_best 49 = .ok (.isub, 1) := by decide +kernel
theorem dX11_best_50 : decode cX11_best 50 = .ok (.istore_n 2, 1) := by decide +kernel
theorem dX11_best_51 : decode cX11_best 51 = .ok (.iload_n 2, 1) := by decide +kernel
theorem dX11_best_52 : decode cX11_best 52 = .ok (.istore_n 3, 1) := by decide +kernel
theorem dX11_best_53 : decode cX11_best 53 = .ok (.iload_n 3, 1) := by decide +kernel
theorem dX11_best_54 : decode cX11_best 54 = .ok (.ifCond .lt 119, 3) := by decide +kernel
theorem dX11_best_57 : decode cX11_best 57 = .ok (.aload_n 0, 1) := by decide +kernel
theorem dX11_best_58 : decode cX11_best 58 = .ok (.getfield 60, 3) := by decide +kernel
theorem dX11_best_61 : decode cX11_best 61 = .ok (.iconst 0, 1) := by decide +kernel
theorem dX11_best_62 : decode cX11_best 62 = .ok (.iload_n 3, 1) := by decide +kernel
theorem dX11_best_63 : decode cX11_best 63 = .ok (.invokevirtual 248, 3) := by decide +kernel
theorem dX11_best_66 : decode cX11_best 66 = .ok (.iload_n 2, 1) := by decide +kernel
theorem dX11_best_67 : decode cX11_best 67 = .ok (.istore 4, 2) := by decide +kernel
theorem dX11_best_69 : decode cX11_best 69 = .ok (.iload 4, 2) := by decide +kernel
theorem dX11_best_71 : decode cX11_best 71 = .ok (.ifCond .lt 96, 3) := by decide +kernel
theorem dX11_best_74 : decode cX11_best 74 = .ok (.iload 4, 2) := by decide +kernel
theorem dX11_best_76 : decode cX11_best 76 = .ok (.iload_n 3, 1) := by decide +kernel
theorem dX11_best_77 : decode cX11_best 77 = .ok (.iand, 1) := by decide +kernel
theorem dX11_best_78 : decode cX11_best 78 = .ok (.ifCond .eq 6, 3) := by decide +kernel
theorem dX11_best_81 : decode cX11_best 81 = .ok (.goto 80, 3) := by decide +kernel
theorem dX11_best_84 : decode cX11_best 84 = .ok (.aload_n 0, 1) := by decide +kernel
theorem dX11_best_85 : decode cX11_best 85 = .ok (.getfield 60, 3) := by decide +kernel
theorem dX11_best_88 : decode cX11_best 88 = .ok (.iconst 1, 1) := by decide +kernel
theorem dX11_best_89 : decode cX11_best 89 = .ok (.iload 4, 2) := by decide +kernel
theorem dX11_best_91 : decode cX11_best 91 = .ok (.invokevirtual 248, 3) := by decide +kernel
theorem dX11_best_94 : decode cX11_best 94 = .ok (.iload_n 3, 1) := by decide +kernel
theorem dX11_best_95 : decode cX11_best 95 = .ok (.iload 4, 2) := by decide +kernel
theorem dX11_best_97 : decode cX11_best 97 = .ok (.ior, 1) := by decide +kernel
theorem dX11_best_98 : decode cX11_best 98 = .ok (.istore 5, 2) := by decide +kernel
theorem dX11_best_100 : decode cX11_best 100 = .ok (.iload_n 2, 1) := by decide +kernel
theorem dX11_best_101 : decode cX11_best 101 = .ok (.istore 6, 2) := by decide +kernel
theorem dX11_best_103 : decode cX11_best 103 = .ok (.iload 6, 2) := by decide +kernel
theorem dX11_best_105 : decode cX11_best 105 = .ok (.ifCond .lt 56, 3) := by decide +kernel
theorem dX11_best_108 : decode cX11_best 108 = .ok (.iload 6, 2) := by decide +kernel
theorem dX11_best_110 : decode cX11_best 110 = .ok (.iload 5, 2) := by decide +kernel
theorem dX11_best_112 : decode cX11_best 112 = .ok (.iand, 1) := by decide +kernel
theorem dX11_best_113 : decode cX11_best 113 = .ok (.ifCond .ne 42, 3) := by decide +kernel
theorem dX11_best_116 : decode cX11_best 116 = .ok (.aload_n 0, 1) := by decide +kernel
theorem dX11_best_117 : decode cX11_best 117 = .ok (.getfield 60, 3) := by decide +kernel
theorem dX11_best_120 : decode cX11_best 120 = .ok (.iload 5, 2) := by decide +kernel
theorem dX11_best_122 : decode cX11_best 122 = .ok (.iload 6, 2) := by decide +kernel
theorem dX11_best_124 : decode cX11_best 124 = .ok (.ior, 1) := by decide +kernel
theorem dX11_best_125 : decode cX11_best 125 = .ok (.invokevirtual 251, 3) := by decide +kernel
theorem dX11_best_128 : decode cX11_best 128 = .ok (.aload_n 0, 1) := by decide +kernel
theorem dX11_best_129 : decode cX11_best 129 = .ok (.getfield 60, 3) := by decide +kernel
theorem dX11_best_132 : decode cX11_best 132 = .ok (.getfield 254, 3) := by decide +kernel
theorem dX11_best_135 : decode cX11_best 135 = .ok (.if_icmp .lt 20, 3) := by decide +kernel
theorem dX11_best_138 : decode cX11_best 138 = .ok (.aload_n 0, 1) := by decide +kernel
theorem dX11_best_139 : decode cX11_best 139 = .ok (.getfield 60, 3) := by decide +kernel
theorem dX11_best_142 : decode cX11_best 142 = .ok (.iconst 2, 1) := by decide +kernel
theorem dX11_best_143 : decode cX11_best 143 = .ok (.iload 6, 2) := by decide +kernel
theorem dX11_best_145 : decode cX11_best 145 = .ok (.invokevirtual 248, 3) := by decide +kernel
theorem dX11_best_148 : decode cX11_best 148 = .ok (.aload_n 0, 1) := by decide +kernel
theorem dX11_best_149 : decode cX11_best 149 = .ok (.getfield 60, 3) := by decide +kernel
theorem dX11_best_152 : decode cX11_best 152 = .ok (.invokevirtual 257, 3) := by decide +kernel
theorem dX11_best_155 : decode cX11_best 155 = .ok (.iinc 6 (-1), 3) := by decide +kernel
theorem dX11_best_158 : decode cX11_best 158 = .ok (.goto (-55), 3) := by decide +kernel
theorem dX11_best_161 : decode cX11_best 161 = .ok (.iinc 4 (-1), 3) := by decide +kernel
theorem dX11_best_164 : decode cX11_best 164 = .ok (.goto (-95), 3) := by decide +kernel
theorem dX11_best_167 : decode cX11_best 167 = .ok (.iinc 3 (-1), 3) := by decide +kernel
theorem dX11_best_170 : decode cX11_best 170 = .ok (.goto (-117), 3) := by decide +kernel
theorem dX11_best_173 : decode cX11_best 173 = .ok (.aload_n 0, 1) := by decide +kernel
theorem dX11_best_174 : decode cX11_best 174 = .ok (.getfield 60, 3) := by decide +kernel
theorem dX11_best_177 : decode cX11_best 177 = .ok (.getfield 254, 3) := by decide +kernel
theorem dX11_best_180 : decode cX11_best 180 = .ok (.ireturn, 1) := by decide +kernel
theorem dX11_chosen_0 : decode cX11_chosen 0 = .ok (.iload_n 1, 1) := by decide +kernel
theorem dX11_chosen_1 : decode cX11_chosen 1 = .ok (.iconst (-1), 1) := by decide +kernel
theorem dX11_chosen_2 : decode cX11_chosen 2 = .ok (.if_icmp .ne 11, 3) := by decide +kernel
theorem dX11_chosen_5 : decode cX11_chosen 5 = .ok (.aload_n 0, 1) := by decide +kernel
theorem dX11_chosen_6 : decode cX11_chosen 6 = .ok (.getfield 60, 3) := by decide +kernel
theorem dX11_chosen_9 : decode cX11_chosen 9 = .ok (.getfield 260, 3) := by decide +kernel
theorem dX11_chosen_12 : decode cX11_chosen 12 = .ok (.ireturn, 1) := by decide +kernel
theorem dX11_chosen_13 : decode cX11_chosen 13 = .ok (.iload_n 1, 1) := by decide +kernel
theorem dX11_chosen_14 : decode cX11_chosen 14 = .ok (.iconst 0, 1) := by decide +kernel
theorem dX11_chosen_15 : decode cX11_chosen 15 = .ok (.aload_n 0, 1) := by decide +kernel
theorem dX11_chosen_16 : decode cX11_chosen 16 = .ok (.getfield 60, 3) := by decide +kernel
theorem dX11_chosen_19 : decode cX11_chosen 19 = .ok (.getfield 263, 3) := by decide +kernel
theorem dX11_chosen_22 : decode cX11_chosen 22 = .ok (.iconst 1, 1) := by decide +kernel
theorem dX11_chosen_23 : decode cX11_chosen 23 = .ok (.isub, 1) := by decide +kernel
theorem dX11_chosen_24 : decode cX11_chosen 24 = .ok (.invokestatic 124, 3) := by decide +kernel
theorem dX11_chosen_27 : decode cX11_chosen 27 = .ok (.ifCond .eq 15, 3) := by decide +kernel
theorem dX11_chosen_30 : decode cX11_chosen 30 = .ok (.aload_n 0, 1) := by decide +kernel
theorem dX11_chosen_31 : decode cX11_chosen 31 = .ok (.getfield 60, 3) := by decide +kernel
theorem dX11_chosen_34 : decode cX11_chosen 34 = .ok (.getfield 266, 3) := by decide +kernel
theorem dX11_chosen_37 : decode cX11_chosen 37 = .ok (.iload_n 1, 1) := by decide +kernel
theorem dX11_chosen_38 : decode cX11_chosen 38 = .ok (.iaload, 1) := by decide +kernel
theorem dX11_chosen_39 : decode cX11_chosen 39 = .ok (.goto 4, 3) := by decide +kernel
theorem dX11_chosen_42 : decode cX11_chosen 42 = .ok (.iconst (-1), 1) := by decide +kernel
theorem dX11_chosen_43 : decode cX11_chosen 43 = .ok (.ireturn, 1) := by decide +kernel
theorem dX11_bound_0 : decode cX11_bound 0 = .ok (.iload_n 1, 1) := by decide +kernel
theorem dX11_bound_1 : decode cX11_bound 1 = .ok (.iconst 0, 1) := by decide +kernel
theorem dX11_bound_2 : decode cX11_bound 2 = .ok (.bipush 19, 2) := by decide +kernel
theorem dX11_bound_4 : decode cX11_bound 4 = .ok (.invokestatic 124, 3) := by decide +kernel
theorem dX11_bound_7 : decode cX11_bound 7 = .ok (.ifCond .ne 5, 3) := by decide +kernel
theorem dX11_bound_10 : decode cX11_bound 10 = .ok (.iconst (-1), 1) := by decide +kernel
theorem dX11_bound_11 : decode cX11_bound 11 = .ok (.ireturn, 1) := by decide +kernel
theorem dX11_bound_12 : decode cX11_bound 12 = .ok (.aload_n 0, 1) := by decide +kernel
theorem dX11_bound_13 : decode cX11_bound 13 = .ok (.getfield 60, 3) := by decide +kernel
theorem dX11_bound_16 : decode cX11_bound 16 = .ok (.iload_n 1, 1) := by decide +kernel
theorem dX11_bound_17 : decode cX11_bound 17 = .ok (.aload_n 0, 1) := by decide +kernel
theorem dX11_bound_18 : decode cX11_bound 18 = .ok (.iload_n 1, 1) := by decide +kernel
theorem dX11_bound_19 : decode cX11_bound 19 = .ok (.bipush 13, 2) := by decide +kernel
theorem dX11_bound_21 : decode cX11_bound 21 = .ok (.imul, 1) := by decide +kernel
theorem dX11_bound_22 : decode cX11_bound 22 = .ok (.invokevirtual 239, 3) := by decide +kernel
theorem dX11_bound_25 : decode cX11_bound 25 = .ok (.aload_n 0, 1) := by decide +kernel
theorem dX11_bound_26 : decode cX11_bound 26 = .ok (.getfield 121, 3) := by decide +kernel
theorem dX11_bound_29 : decode cX11_bound 29 = .ok (.invokevirtual 242, 3) := by decide +kernel
theorem dX11_bound_32 : decode cX11_bound 32 = .ok (.iconst 0, 1) := by decide +kernel
theorem dX11_bound_33 : decode cX11_bound 33 = .ok (.istore_n 2, 1) := by decide +kernel
theorem dX11_bound_34 : decode cX11_bound 34 = .ok (.iconst 0, 1) := by decide +kernel
theorem dX11_bound_35 : decode cX11_bound 35 = .ok (.istore_n 3, 1) := by decide +kernel
theorem dX11_bound_36 : decode cX11_bound 36 = .ok (.iload_n 3, 1) := by decide +kernel
theorem dX11_bound_37 : decode cX11_bound 37 = .ok (.aload_n 0, 1) := by decide +kernel
theorem dX11_bound_38 : decode cX11_bound 38 = .ok (.getfield 60, 3) := by decide +kernel
theorem dX11_bound_41 : decode cX11_bound 41 = .ok (.getfield 233, 3) := by decide +kernel
theorem dX11_bound_44 : decode cX11_bound 44 = .ok (.if_icmp .ge 89, 3) := by decide +kernel
theorem dX11_bound_47 : decode cX11_bound 47 = .ok (.iconst 0, 1) := by decide +kernel
theorem dX11_bound_48 : decode cX11_bound 48 = .ok (.istore 4, 2) := by decide +kernel
theorem dX11_bound_50 : decode cX11_bound 50 = .ok (.iconst 1, 1) := by decide +kernel
theorem dX11_bound_51 : decode cX11_bound 51 = .ok (.istore 5, 2) := by decide +kernel
theorem dX11_bound_53 : decode cX11_bound 53 = .ok (.iload 5, 2) := by decide +kernel
theorem dX11_bound_55 : decode cX11_bound 55 = .ok (.iconst 3, 1) := by decide +kernel
theorem dX11_bound_56 : decode cX11_bound 56 = .ok (.if_icmp .gt 51, 3) := by decide +kernel
theorem dX11_bound_59 : decode cX11_bound 59 = .ok (.iload 4, 2) := by decide +kernel
theorem dX11_bound_61 : decode cX11_bound 61 = .ok (.ifCond .ne 46, 3) := by decide +kernel
theorem dX11_bound_64 : decode cX11_bound 64 = .ok (.aload_n 0, 1) := by decide +kernel
theorem dX11_bound_65 : decode cX11_bound 65 = .ok (.getfield 60, 3) := by decide +kernel
theorem dX11_bound_68 : decode cX11_bound 68 = .ok (.iload 5, 2) := by decide +kernel
theorem dX11_bound_70 : decode cX11_bound 70 = .ok (.iconst 2, 1) := by decide +kernel
theorem dX11_bound_71 : decode cX11_bound 71 = .ok (.iload_n 3, 1) := by decide +kernel
theorem dX11_bound_72 : decode cX11_bound 72 = .ok (.imul, 1) := by decide +kernel
theorem dX11_bound_73 : decode cX11_bound 73 = .ok (.ishl, 1) := by decide +kernel
theorem dX11_bound_74 : decode cX11_bound 74 = .ok (.invokevirtual 269, 3) := by decide +kernel
theorem dX11_bound_77 : decode cX11_bound 77 = .ok (.aload_n 0, 1) := by decide +kernel
theorem dX11_bound_78 : decode cX11_bound 78 = .ok (.getfield 60, 3) := by decide +kernel
theorem dX11_bound_81 : decode cX11_bound 81 = .ok (.aload_n 0, 1) := by decide +kernel
theorem dX11_bound_82 : decode cX11_bound 82 = .ok (.getfield 60, 3) := by decide +kernel
theorem dX11_bound_85 : decode cX11_bound 85 = .ok (.invokevirtual 272, 3) := by decide +kernel
theorem dX11_bound_88 : decode cX11_bound 88 = .ok (.invokevirtual 276, 3) := by decide +kernel
theorem dX11_bound_91 : decode cX11_bound 91 = .ok (.ifCond .le 7, 3) := by decide +kernel
theorem dX11_bound_94 : decode cX11_bound 94 = .ok (.iconst 1, 1) := by decide +kernel
theorem dX11_bound_95 : decode cX11_bound 95 = .ok (.goto 4, 3) := by decide +kernel
theorem dX11_bound_98 : decode cX11_bound 98 = .ok (.iconst 0, 1) := by decide +kernel
theorem dX11_bound_99 : decode cX11_bound 99 = .ok (.istore 4, 2) := by decide +kernel
theorem dX11_bound_101 : decode cX11_bound 101 = .ok (.iinc 5 1, 3) := by decide +kernel
theorem dX11_bound_104 : decode cX11_bound 104 = .ok (.goto (-51), 3) := by decide +kernel
theorem dX11_bound_107 : decode cX11_bound 107 = .ok (.iload_n 2, 1) := by decide +kernel
theorem dX11_bound_108 : decode cX11_bound 108 = .ok (.iload 4, 2) := by decide +kernel
theorem dX11_bound_110 : decode cX11_bound 110 = .ok (.ifCond .eq 14, 3) := by decide +kernel
theorem dX11_bound_113 : decode cX11_bound 113 = .ok (.aload_n 0, 1) := by decide +kernel
theorem dX11_bound_114 : decode cX11_bound 114 = .ok (.getfield 60, 3) := by decide +kernel
theorem dX11_bound_117 : decode cX11_bound 117 = .ok (.iload_n 3, 1) := by decide +kernel
theorem dX11_bound_118 : decode cX11_bound 118 = .ok (.invokevirtual 280, 3) := by decide +kernel
theorem dX11_bound_121 : decode cX11_bound 121 = .ok (.goto 4, 3) := by decide +kernel
theorem dX11_bound_124 : decode cX11_bound 124 = .ok (.iconst 0, 1) := by decide +kernel
theorem dX11_bound_125 : decode cX11_bound 125 = .ok (.iadd, 1) := by decide +kernel
theorem dX11_bound_126 : decode cX11_bound 126 = .ok (.istore_n 2, 1) := by decide +kernel
theorem dX11_bound_127 : decode cX11_bound 127 = .ok (.iinc 3 1, 3) := by decide +kernel
theorem dX11_bound_130 : decode cX11_bound 130 = .ok (.goto (-94), 3) := by decide +kernel
theorem dX11_bound_133 : decode cX11_bound 133 = .ok (.iload_n 2, 1) := by decide +kernel
theorem dX11_bound_134 : decode cX11_bound 134 = .ok (.ireturn, 1) := by decide +kernel
theorem dX11_judge_0 : decode cX11_judge 0 = .ok (.iload_n 1, 1) := by decide +kernel
theorem dX11_judge_1 : decode cX11_judge 1 = .ok (.iconst 0, 1) := by decide +kernel
theorem dX11_judge_2 : decode cX11_judge 2 = .ok (.bipush 19, 2) := by decide +kernel
theorem dX11_judge_4 : decode cX11_judge 4 = .ok (.invokestatic 124, 3) := by decide +kernel
theorem dX11_judge_7 : decode cX11_judge 7 = .ok (.ifCond .eq 24, 3) := by decide +kernel
theorem dX11_judge_10 : decode cX11_judge 10 = .ok (.iload_n 2, 1) := by decide +kernel
theorem dX11_judge_11 : decode cX11_judge 11 = .ok (.iconst 0, 1) := by decide +kernel
theorem dX11_judge_12 : decode cX11_judge 12 = .ok (.iconst 1, 1) := by decide +kernel
theorem dX11_judge_13 : decode cX11_judge 13 = .ok (.iconst 2, 1) := by decide +kernel
theorem dX11_judge_14 : decode cX11_judge 14 = .ok (.aload_n 0, 1) := by decide +kernel
theorem dX11_judge_15 : decode cX11_judge 15 = .ok (.getfield 60, 3) := by decide +kernel
theorem dX11_judge_18 : decode cX11_judge 18 = .ok (.getfield 233, 3) := by decide +kernel
theorem dX11_judge_21 : decode cX11_judge 21 = .ok (.imul, 1) := by decide +kernel
theorem dX11_judge_22 : decode cX11_judge 22 = .ok (.ishl, 1) := by decide +kernel
theorem dX11_judge_23 : decode cX11_judge 23 = .ok (.iconst 1, 1) := by decide +kernel
theorem dX11_judge_24 : decode cX11_judge 24 = .ok (.isub, 1) := by decide +kernel
theorem dX11_judge_25 : decode cX11_judge 25 = .ok (.invokestatic 124, 3) := by decide +kernel
theorem dX11_judge_28 : decode cX11_judge 28 = .ok (.ifCond .ne 5, 3) := by decide +kernel
theorem dX11_judge_31 : decode cX11_judge 31 = .ok (.iconst (-1), 1) := by decide +kernel
theorem dX11_judge_32 : decode cX11_judge 32 = .ok (.ireturn, 1) := by decide +kernel
theorem dX11_judge_33 : decode cX11_judge 33 = .ok (.aload_n 0, 1) := by decide +kernel
theorem dX11_judge_34 : decode cX11_judge 34 = .ok (.getfield 60, 3) := by decide +kernel
theorem dX11_judge_37 : decode cX11_judge 37 = .ok (.iload_n 1, 1) := by decide +kernel
theorem dX11_judge_38 : decode cX11_judge 38 = .ok (.aload_n 0, 1) := by decide +kernel
theorem dX11_judge_39 : decode cX11_judge 39 = .ok (.iload_n 1, 1) := by decide +kernel
theorem dX11_judge_40 : decode cX11_judge 40 = .ok (.bipush 13, 2) := by decide +kernel
theorem dX11_judge_42 : decode cX11_judge 42 = .ok (.imul, 1) := by decide +kernel
theorem dX11_judge_43 : decode cX11_judge 43 = .ok (.invokevirtual 239, 3) := by decide +kernel
theorem dX11_judge_46 : decode cX11_judge 46 = .ok (.aload_n 0, 1) := by decide +kernel
theorem dX11_judge_47 : decode cX11_judge 47 = .ok (.getfield 121, 3) := by decide +kernel
theorem dX11_judge_50 : decode cX11_judge 50 = .ok (.invokevirtual 242, 3) := by decide +kernel
theorem dX11_judge_53 : decode cX11_judge 53 = .ok (.aload_n 0, 1) := by decide +kernel
theorem dX11_judge_54 : decode cX11_judge 54 = .ok (.getfield 60, 3) := by decide +kernel
theorem dX11_judge_57 : decode cX11_judge 57 = .ok (.iload_n 2, 1) := by decide +kernel
theorem dX11_judge_58 : decode cX11_judge 58 = .ok (.invokevirtual 269, 3) := by decide +kernel
theorem dX11_judge_61 : decode cX11_judge 61 = .ok (.aload_n 0, 1) := by decide +kernel
theorem dX11_judge_62 : decode cX11_judge 62 = .ok (.getfield 60, 3) := by decide +kernel
theorem dX11_judge_65 : decode cX11_judge 65 = .ok (.invokevirtual 272, 3) := by decide +kernel
theorem dX11_judge_68 : decode cX11_judge 68 = .ok (.astore_n 3, 1) := by decide +kernel
theorem dX11_judge_69 : decode cX11_judge 69 = .ok (.aload_n 0, 1) := by decide +kernel
theorem dX11_judge_70 : decode cX11_judge 70 = .ok (.getfield 60, 3) := by decide +kernel
theorem dX11_judge_73 : decode cX11_judge 73 = .ok (.aload_n 3, 1) := by decide +kernel
theorem dX11_judge_74 : decode cX11_judge 74 = .ok (.invokevirtual 276, 3) := by decide +kernel
theorem dX11_judge_77 : decode cX11_judge 77 = .ok (.bipush 10, 2) := by decide +kernel
theorem dX11_judge_79 : decode cX11_judge 79 = .ok (.imul, 1) := by decide +kernel
theorem dX11_judge_80 : decode cX11_judge 80 = .ok (.aload_n 0, 1) := by decide +kernel
theorem dX11_judge_81 : decode cX11_judge 81 = .ok (.getfield 60, 3) := by decide +kernel
theorem dX11_judge_84 : decode cX11_judge 84 = .ok (.aload_n 3, 1) := by decide +kernel
theorem dX11_judge_85 : decode cX11_judge 85 = .ok (.invokevirtual 283, 3) := by decide +kernel
theorem dX11_judge_88 : decode cX11_judge 88 = .ok (.iadd, 1) := by decide +kernel
theorem dX11_judge_89 : decode cX11_judge 89 = .ok (.ireturn, 1) := by decide +kernel
theorem dX11_entry_0 : decode cX11_entry 0 = .ok (.iload_n 1, 1) := by decide +kernel
theorem dX11_entry_1 : decode cX11_entry 1 = .ok (.iconst 0, 1) := by decide +kernel
theorem dX11_entry_2 : decode cX11_entry 2 = .ok (.iconst 5, 1) := by decide +kernel
theorem dX11_entry_3 : decode cX11_entry 3 = .ok (.invokestatic 124, 3) := by decide +kernel
theorem dX11_entry_6 : decode cX11_entry 6 = .ok (.ifCond .eq 61, 3) := by decide +kernel
theorem dX11_entry_9 : decode cX11_entry 9 = .ok (.iload_n 2, 1) := by decide +kernel
theorem dX11_entry_10 : decode cX11_entry 10 = .ok (.invokestatic 95, 3) := by decide +kernel
theorem dX11_entry_13 : decode cX11_entry 13 = .ok (.ifCond .eq 54, 3) := by decide +kernel
theorem dX11_entry_16 : decode cX11_entry 16 = .ok (.iload_n 3, 1) := by decide +kernel
theorem dX11_entry_17 : decode cX11_entry 17 = .ok (.iconst 1, 1) := by decide +kernel
theorem dX11_entry_18 : decode cX11_entry 18 = .ok (.bipush 20, 2) := by decide +kernel
theorem dX11_entry_20 : decode cX11_entry 20 = .ok (.invokestatic 124, 3) := by decide +kernel
theorem dX11_entry_23 : decode cX11_entry 23 = .ok (.ifCond .eq 44, 3) := by decide +kernel
theorem dX11_entry_26 : decode cX11_entry 26 = .ok (.iload 4, 2) := by decide +kernel
theorem dX11_entry_28 : decode cX11_entry 28 = .ok (.iconst 0, 1) := by decide +kernel
theorem dX11_entry_29 : decode cX11_entry 29 = .ok (.iload_n 3, 1) := by decide +kernel
theorem dX11_entry_30 : decode cX11_entry 30 = .ok (.iconst 1, 1) := by decide +kernel
theorem dX11_entry_31 : decode cX11_entry 31 = .ok (.isub, 1) := by decide +kernel
theorem dX11_entry_32 : decode cX11_entry 32 = .ok (.invokestatic 124, 3) := by decide +kernel
theorem dX11_entry_35 : decode cX11_entry 35 = .ok (.ifCond .eq 32, 3) := by decide +kernel
theorem dX11_entry_38 : decode cX11_entry 38 = .ok (.iload 5, 2) := by decide +kernel
theorem dX11_entry_40 : decode cX11_entry 40 = .ok (.iconst 0, 1) := by decide +kernel
theorem dX11_entry_41 : decode cX11_entry 41 = .ok (.bipush 9, 2) := by decide +kernel
theorem dX11_entry_43 : decode cX11_entry 43 = .ok (.invokestatic 124, 3) := by decide +kernel
theorem dX11_entry_46 : decode cX11_entry 46 = .ok (.ifCond .eq 21, 3) := by decide +kernel
theorem dX11_entry_49 : decode cX11_entry 49 = .ok (.iload 6, 2) := by decide +kernel
theorem dX11_entry_51 : decode cX11_entry 51 = .ok (.iconst 0, 1) := by decide +kernel
theorem dX11_entry_52 : decode cX11_entry 52 = .ok (.iconst 1, 1) := by decide +kernel
theorem dX11_entry_53 : decode cX11_entry 53 = .ok (.invokestatic 124, 3) := by decide +kernel
theorem dX11_entry_56 : decode cX11_entry 56 = .ok (.ifCond .eq 11, 3) := by decide +kernel
theorem dX11_entry_59 : decode cX11_entry 59 = .ok (.iload 7, 2) := by decide +kernel
theorem dX11_entry_61 : decode cX11_entry 61 = .ok (.invokestatic 95, 3) := by decide +kernel
theorem dX11_entry_64 : decode cX11_entry 64 = .ok (.ifCond .ne 9, 3) := by decide +kernel
theorem dX11_entry_67 : decode cX11_entry 67 = .ok (.aload_n 0, 1) := by decide +kernel
theorem dX11_entry_68 : decode cX11_entry 68 = .ok (.iconst (-1), 1) := by decide +kernel
theorem dX11_entry_69 : decode cX11_entry 69 = .ok (.invokevirtual 105, 3) := by decide +kernel
theorem dX11_entry_72 : decode cX11_entry 72 = .ok (.ireturn, 1) := by decide +kernel
theorem dX11_entry_73 : decode cX11_entry 73 = .ok (.aload_n 0, 1) := by decide +kernel
theorem dX11_entry_74 : decode cX11_entry 74 = .ok (.getfield 10, 3) := by decide +kernel
theorem dX11_entry_77 : decode cX11_entry 77 = .ok (.getfield 286, 3) := by decide +kernel
theorem dX11_entry_80 : decode cX11_entry 80 = .ok (.invokevirtual 160, 3) := by decide +kernel
theorem dX11_entry_83 : decode cX11_entry 83 = .ok (.ifCond .eq 10, 3) := by decide +kernel
theorem dX11_entry_86 : decode cX11_entry 86 = .ok (.aload_n 0, 1) := by decide +kernel
theorem dX11_entry_87 : decode cX11_entry 87 = .ok (.bipush (-5), 2) := by decide +kernel
theorem dX11_entry_89 : decode cX11_entry 89 = .ok (.invokevirtual 105, 3) := by decide +kernel
theorem dX11_entry_92 : decode cX11_entry 92 = .ok (.ireturn, 1) := by decide +kernel
theorem dX11_entry_93 : decode cX11_entry 93 = .ok (.aload_n 0, 1) := by decide +kernel
theorem dX11_entry_94 : decode cX11_entry 94 = .ok (.getfield 10, 3) := by decide +kernel
theorem dX11_entry_97 : decode cX11_entry 97 = .ok (.getfield 286, 3) := by decide +kernel
theorem dX11_entry_100 : decode cX11_entry 100 = .ok (.invokevirtual 166, 3) := by decide +kernel
theorem dX11_entry_103 : decode cX11_entry 103 = .ok (.istore 8, 2) := by decide +kernel
theorem dX11_entry_105 : decode cX11_entry 105 = .ok (.aload_n 0, 1) := by decide +kernel
theorem dX11_entry_106 : decode cX11_entry 106 = .ok (.getfield 10, 3) := by decide +kernel
theorem dX11_entry_109 : decode cX11_entry 109 = .ok (.getfield 286, 3) := by decide +kernel
theorem dX11_entry_112 : decode cX11_entry 112 = .ok (.iload 8, 2) := by decide +kernel
theorem dX11_entry_114 : decode cX11_entry 114 = .ok (.iconst 0, 1) := by decide +kernel
theorem dX11_entry_115 : decode cX11_entry 115 = .ok (.iload_n 1, 1) := by decide +kernel
theorem dX11_entry_116 : decode cX11_entry 116 = .ok (.invokevirtual 169, 3) := by decide +kernel
theorem dX11_entry_119 : decode cX11_entry 119 = .ok (.aload_n 0, 1) := by decide +kernel
theorem dX11_entry_120 : decode cX11_entry 120 = .ok (.getfield 10, 3) := by decide +kernel
theorem dX11_entry_123 : decode cX11_entry 123 = .ok (.getfield 286, 3) := by decide +kernel
theorem dX11_entry_126 : decode cX11_entry 126 = .ok (.iload 8, 2) := by decide +kernel
theorem dX11_entry_128 : decode cX11_entry 128 = .ok (.iconst 1, 1) := by decide +kernel
theorem dX11_entry_129 : decode cX11_entry 129 = .ok (.iload_n 2, 1) := by decide +kernel
theorem dX11_entry_130 : decode cX11_entry 130 = .ok (.invokevirtual 169, 3) := by decide +kernel
theorem dX11_entry_133 : decode cX11_entry 133 = .ok (.aload_n 0, 1) := by decide +kernel
theorem dX11_entry_134 : decode cX11_entry 134 = .ok (.getfield 10, 3) := by decide +kernel
theorem dX11_entry_137 : decode cX11_entry 137 = .ok (.getfield 286, 3) := by decide +kernel
theorem dX11_entry_140 : decode cX11_entry 140 = .ok (.iload 8, 2) := by decide +kernel
theorem dX11_entry_142 : decode cX11_entry 142 = .ok (.iconst 2, 1) := by decide +kernel
theorem dX11_entry_143 : decode cX11_entry 143 = .ok (.iload_n 3, 1) := by decide +kernel
theorem dX11_entry_144 : decode cX11_entry 144 = .ok (.invokevirtual 169, 3) := by decide +kernel
theorem dX11_entry_147 : decode cX11_entry 147 = .ok (.aload_n 0, 1) := by decide +kernel
theorem dX11_entry_148 : decode cX11_entry 148 = .ok (.getfield 10, 3) := by decide +kernel
theorem dX11_entry_151 : decode cX11_entry 151 = .ok (.getfield 286, 3) := by decide +kernel
theorem dX11_entry_154 : decode cX11_entry 154 = .ok (.iload 8, 2) := by decide +kernel
theorem dX11_entry_156 : decode cX11_entry 156 = .ok (.iconst 3, 1) := by decide +kernel
theorem dX11_entry_157 : decode cX11_entry 157 = .ok (.iload 4, 2) := by decide +kernel
theorem dX11_entry_159 : decode cX11_entry 159 = .ok (.invokevirtual 169, 3) := by decide +kernel
theorem dX11_entry_162 : decode cX11_entry 162 = .ok (.aload_n 0, 1) := by decide +kernel
theorem dX11_entry_163 : decode cX11_entry 163 = .ok (.getfield 10, 3) := by decide +kernel
theorem dX11_entry_166 : decode cX11_entry 166 = .ok (.getfield 286, 3) := by decide +kernel
theorem dX11_entry_169 : decode cX11_entry 169 = .ok (.iload 8, 2) := by decide +kernel
theorem dX11_entry_171 : decode cX11_entry 171 = .ok (.iconst 4, 1) := by decide +kernel
theorem dX11_entry_172 : decode cX11_entry 172 = .ok (.iload 5, 2) := by decide +kernel
theorem dX11_entry_174 : decode cX11_entry 174 = .ok (.invokevirtual 169, 3) := by decide +kernel
theorem dX11_entry_177 : decode cX11_entry 177 = .ok (.aload_n 0, 1) := by decide +kernel
theorem dX11_entry_178 : decode cX11_entry 178 = .ok (.getfield 10, 3) := by decide +kernel
theorem dX11_entry_181 : decode cX11_entry 181 = .ok (.getfield 286, 3) := by decide +kernel
theorem dX11_entry_184 : decode cX11_entry 184 = .ok (.iload 8, 2) := by decide +kernel
theorem dX11_entry_186 : decode cX11_entry 186 = .ok (.iconst 5, 1) := by decide +kernel
theorem dX11_entry_187 : decode cX11_entry 187 = .ok (.iload 6, 2) := by decide +kernel
theorem dX11_entry_189 : decode cX11_entry 189 = .ok (.invokevirtual 169, 3) := by decide +kernel
theorem dX11_entry_192 : decode cX11_entry 192 = .ok (.aload_n 0, 1) := by decide +kernel
theorem dX11_entry_193 : decode cX11_entry 193 = .ok (.getfield 10, 3) := by decide +kernel
theorem dX11_entry_196 : decode cX11_entry 196 = .ok (.getfield 286, 3) := by decide +kernel
theorem dX11_entry_199 : decode cX11_entry 199 = .ok (.iload 8, 2) := by decide +kernel
theorem dX11_entry_201 : decode cX11_entry 201 = .ok (.bipush 6, 2) := by decide +kernel
theorem dX11_entry_203 : decode cX11_entry 203 = .ok (.iload 7, 2) := by decide +kernel
theorem dX11_entry_205 : decode cX11_entry 205 = .ok (.invokevirtual 169, 3) := by decide +kernel
theorem dX11_entry_208 : decode cX11_entry 208 = .ok (.iconst 0, 1) := by decide +kernel
theorem dX11_entry_209 : decode cX11_entry 209 = .ok (.istore 9, 2) := by decide +kernel
theorem dX11_entry_211 : decode cX11_entry 211 = .ok (.iload 9, 2) := by decide +kernel
theorem dX11_entry_213 : decode cX11_entry 213 = .ok (.iconst 3, 1) := by decide +kernel
theorem dX11_entry_214 : decode cX11_entry 214 = .ok (.if_icmp .ge 27, 3) := by decide +kernel
theorem dX11_entry_217 : decode cX11_entry 217 = .ok (.aload_n 0, 1) := by decide +kernel
theorem dX11_entry_218 : decode cX11_entry 218 = .ok (.getfield 10, 3) := by decide +kernel
theorem dX11_entry_221 : decode cX11_entry 221 = .ok (.getfield 286, 3) := by decide +kernel
theorem dX11_entry_224 : decode cX11_entry 224 = .ok (.iload 8, 2) := by decide +kernel
theorem dX11_entry_226 : decode cX11_entry 226 = .ok (.bipush 7, 2) := by decide +kernel
theorem dX11_entry_228 : decode cX11_entry 228 = .ok (.iload 9, 2) := by decide +kernel
theorem dX11_entry_230 : decode cX11_entry 230 = .ok (.iadd, 1) := by decide +kernel
theorem dX11_entry_231 : decode cX11_entry 231 = .ok (.iconst (-1), 1) := by decide +kernel
theorem dX11_entry_232 : decode cX11_entry 232 = .ok (.invokevirtual 169, 3) := by decide +kernel
theorem dX11_entry_235 : decode cX11_entry 235 = .ok (.iinc 9 1, 3) := by decide +kernel
theorem dX11_entry_238 : decode cX11_entry 238 = .ok (.goto (-27), 3) := by decide +kernel
theorem dX11_entry_241 : decode cX11_entry 241 = .ok (.aload_n 0, 1) := by decide +kernel
theorem dX11_entry_242 : decode cX11_entry 242 = .ok (.dup, 1) := by decide +kernel
theorem dX11_entry_243 : decode cX11_entry 243 = .ok (.getfield 289, 3) := by decide +kernel
theorem dX11_entry_246 : decode cX11_entry 246 = .ok (.iconst 1, 1) := by decide +kernel
theorem dX11_entry_247 : decode cX11_entry 247 = .ok (.iadd, 1) := by decide +kernel
theorem dX11_entry_248 : decode cX11_entry 248 = .ok (.putfield 289, 3) := by decide +kernel
theorem dX11_entry_251 : decode cX11_entry 251 = .ok (.aload_n 0, 1) := by decide +kernel
theorem dX11_entry_252 : decode cX11_entry 252 = .ok (.iload 8, 2) := by decide +kernel
theorem dX11_entry_254 : decode cX11_entry 254 = .ok (.invokevirtual 105, 3) := by decide +kernel
theorem dX11_entry_257 : decode cX11_entry 257 = .ok (.ireturn, 1) := by decide +kernel
theorem dX11_mark_0 : decode cX11_mark 0 = .ok (.iload_n 2, 1) := by decide +kernel
theorem dX11_mark_1 : decode cX11_mark 1 = .ok (.iconst 0, 1) := by decide +kernel
theorem dX11_mark_2 : decode cX11_mark 2 = .ok (.iconst 2, 1) := by decide +kernel
theorem dX11_mark_3 : decode cX11_mark 3 = .ok (.invokestatic 124, 3) := by decide +kernel
theorem dX11_mark_6 : decode cX11_mark 6 = .ok (.ifCond .eq 14, 3) := by decide +kernel
theorem dX11_mark_9 : decode cX11_mark 9 = .ok (.iload_n 3, 1) := by decide +kernel
theorem dX11_mark_10 : decode cX11_mark 10 = .ok (.iconst 0, 1) := by decide +kernel
theorem dX11_mark_11 : decode cX11_mark 11 = .ok (.sipush 9999, 3) := by decide +kernel
theorem dX11_mark_14 : decode cX11_mark 14 = .ok (.invokestatic 124, 3) := by decide +kernel
theorem dX11_mark_17 : decode cX11_mark 17 = .ok (.ifCond .ne 9, 3) := by decide +kernel
theorem dX11_mark_20 : decode cX11_mark 20 = .ok (.aload_n 0, 1) := by decide +kernel
theorem dX11_mark_21 : decode cX11_mark 21 = .ok (.iconst (-1), 1) := by decide +kernel
theorem dX11_mark_22 : decode cX11_mark 22 = .ok (.invokevirtual 105, 3) := by decide +kernel
theorem dX11_mark_25 : decode cX11_mark 25 = .ok (.ireturn, 1) := by decide +kernel
theorem dX11_mark_26 : decode cX11_mark 26 = .ok (.aload_n 0, 1) := by decide +kernel
theorem dX11_mark_27 : decode cX11_mark 27 = .ok (.iload_n 1, 1) := by decide +kernel
theorem dX11_mark_28 : decode cX11_mark 28 = .ok (.invokevirtual 292, 3) := by decide +kernel
theorem dX11_mark_31 : decode cX11_mark 31 = .ok (.ifCond .ne 10, 3) := by decide +kernel
theorem dX11_mark_34 : decode cX11_mark 34 = .ok (.aload_n 0, 1) := by decide +kernel
theorem dX11_mark_35 : decode cX11_mark 35 = .ok (.bipush (-2), 2) := by decide +kernel
theorem dX11_mark_37 : decode cX11_mark 37 = .ok (.invokevirtual 105, 3) := by decide +kernel
theorem dX11_mark_40 : decode cX11_mark 40 = .ok (.ireturn, 1) := by decide +kernel
theorem dX11_mark_41 : decode cX11_mark 41 = .ok (.aload_n 0, 1) := by decide +kernel
theorem dX11_mark_42 : decode cX11_mark 42 = .ok (.getfield 10, 3) := by decide +kernel
theorem dX11_mark_45 : decode cX11_mark 45 = .ok (.getfield 286, 3) := by decide +kernel
theorem dX11_mark_48 : decode cX11_mark 48 = .ok (.iload_n 1, 1) := by decide +kernel
theorem dX11_mark_49 : decode cX11_mark 49 = .ok (.bipush 7, 2) := by decide +kernel
theorem dX11_mark_51 : decode cX11_mark 51 = .ok (.iload_n 2, 1) := by decide +kernel
theorem dX11_mark_52 : decode cX11_mark 52 = .ok (.iadd, 1) := by decide +kernel
theorem dX11_mark_53 : decode cX11_mark 53 = .ok (.invokevirtual 223, 3) := by decide +kernel
theorem dX11_mark_56 : decode cX11_mark 56 = .ok (.iconst (-1), 1) := by decide +kernel
theorem dX11_mark_57 : decode cX11_mark 57 = .ok (.if_icmp .eq 10, 3) := by decide +kernel
theorem dX11_mark_60 : decode cX11_mark 60 = .ok (.aload_n 0, 1) := by decide +kernel
theorem dX11_mark_61 : decode cX11_mark 61 = .ok (.bipush (-4), 2) := by decide +kernel
theorem dX11_mark_63 : decode cX11_mark 63 = .ok (.invokevirtual 105, 3) := by decide +kernel
theorem dX11_mark_66 : decode cX11_mark 66 = .ok (.ireturn, 1) := by decide +kernel
theorem dX11_mark_67 : decode cX11_mark 67 = .ok (.aload_n 0, 1) := by decide +kernel
theorem dX11_mark_68 : decode cX11_mark 68 = .ok (.getfield 10, 3) := by decide +kernel
theorem dX11_mark_71 : decode cX11_mark 71 = .ok (.getfield 286, 3) := by decide +kernel
theorem dX11_mark_74 : decode cX11_mark 74 = .ok (.iload_n 1, 1) := by decide +kernel
theorem dX11_mark_75 : decode cX11_mark 75 = .ok (.bipush 7, 2) := by decide +kernel
theorem dX11_mark_77 : decode cX11_mark 77 = .ok (.iload_n 2, 1) := by decide +kernel
theorem dX11_mark_78 : decode cX11_mark 78 = .ok (.iadd, 1) := by decide +kernel
theorem dX11_mark_79 : decode cX11_mark 79 = .ok (.iload_n 3, 1) := by decide +kernel
theorem dX11_mark_80 : decode cX11_mark 80 = .ok (.invokevirtual 169, 3) := by decide +kernel
theorem dX11_mark_83 : decode cX11_mark 83 = .ok (.aload_n 0, 1) := by decide +kernel
theorem dX11_mark_84 : decode cX11_mark 84 = .ok (.dup, 1) := by decide +kernel
theorem dX11_mark_85 : decode cX11_mark 85 = .ok (.getfield 289, 3) := by decide +kernel
theorem dX11_mark_88 : decode cX11_mark 88 = .ok (.iconst 1, 1) := by decide +kernel
theorem dX11_mark_89 : decode cX11_mark 89 = .ok (.iadd, 1) := by decide +kernel
theorem dX11_mark_90 : decode cX11_mark 90 = .ok (.putfield 289, 3) := by decide +kernel
theorem dX11_mark_93 : decode cX11_mark 93 = .ok (.aload_n 0, 1) := by decide +kernel
theorem dX11_mark_94 : decode cX11_mark 94 = .ok (.iconst 0, 1) := by decide +kernel
theorem dX11_mark_95 : decode cX11_mark 95 = .ok (.invokevirtual 105, 3) := by decide +kernel
theorem dX11_mark_98 : decode cX11_mark 98 = .ok (.ireturn, 1) := by decide +kernel
theorem dX11_family_0 : decode cX11_family 0 = .ok (.iload_n 2, 1) := by decide +kernel
theorem dX11_family_1 : decode cX11_family 1 = .ok (.invokestatic 95, 3) := by decide +kernel
theorem dX11_family_4 : decode cX11_family 4 = .ok (.ifCond .eq 12, 3) := by decide +kernel
theorem dX11_family_7 : decode cX11_family 7 = .ok (.aload_n 0, 1) := by decide +kernel
theorem dX11_family_8 : decode cX11_family 8 = .ok (.iload_n 1, 1) := by decide +kernel
theorem dX11_family_9 : decode cX11_family 9 = .ok (.iload_n 2, 1) := by decide +kernel
theorem dX11_family_10 : decode cX11_family 10 = .ok (.invokevirtual 295, 3) := by decide +kernel
theorem dX11_family_13 : decode cX11_family 13 = .ok (.ifCond .ne 5, 3) := by decide +kernel
theorem dX11_family_16 : decode cX11_family 16 = .ok (.iconst (-1), 1) := by decide +kernel
theorem dX11_family_17 : decode cX11_family 17 = .ok (.ireturn, 1) := by decide +kernel
theorem dX11_family_18 : decode cX11_family 18 = .ok (.aload_n 0, 1) := by decide +kernel
theorem dX11_family_19 : decode cX11_family 19 = .ok (.getfield 67, 3) := by decide +kernel
theorem dX11_family_22 : decode cX11_family 22 = .ok (.iload_n 2, 1) := by decide +kernel
theorem dX11_family_23 : decode cX11_family 23 = .ok (.aload_n 0, 1) := by decide +kernel
theorem dX11_family_24 : decode cX11_family 24 = .ok (.getfield 289, 3) := by decide +kernel
theorem dX11_family_27 : decode cX11_family 27 = .ok (.invokevirtual 298, 3) := by decide +kernel
theorem dX11_family_30 : decode cX11_family 30 = .ok (.aload_n 0, 1) := by decide +kernel
theorem dX11_family_31 : decode cX11_family 31 = .ok (.getfield 67, 3) := by decide +kernel
theorem dX11_family_34 : decode cX11_family 34 = .ok (.getfield 301, 3) := by decide +kernel
theorem dX11_family_37 : decode cX11_family 37 = .ok (.iload_n 1, 1) := by decide +kernel
theorem dX11_family_38 : decode cX11_family 38 = .ok (.iaload, 1) := by decide +kernel
theorem dX11_family_39 : decode cX11_family 39 = .ok (.ireturn, 1) := by decide +kernel
theorem dX11_points_0 : decode cX11_points 0 = .ok (.iload_n 2, 1) := by decide +kernel
theorem dX11_points_1 : decode cX11_points 1 = .ok (.invokestatic 95, 3) := by decide +kernel
theorem dX11_points_4 : decode cX11_points 4 = .ok (.ifCond .eq 19, 3) := by decide +kernel
theorem dX11_points_7 : decode cX11_points 7 = .ok (.iload_n 3, 1) := by decide +kernel
theorem dX11_points_8 : decode cX11_points 8 = .ok (.invokestatic 95, 3) := by decide +kernel
theorem dX11_points_11 : decode cX11_points 11 = .ok (.ifCond .eq 12, 3) := by decide +kernel
theorem dX11_points_14 : decode cX11_points 14 = .ok (.aload_n 0, 1) := by decide +kernel
theorem dX11_points_15 : decode cX11_points 15 = .ok (.iload_n 1, 1) := by decide +kernel
theorem dX11_points_16 : decode cX11_points 16 = .ok (.iload_n 3, 1) := by decide +kernel
theorem dX11_points_17 : decode cX11_points 17 = .ok (.invokevirtual 295, 3) := by decide +kernel
theorem dX11_points_20 : decode cX11_points 20 = .ok (.ifCond .ne 6, 3) := by decide +kernel
theorem dX11_points_23 : decode cX11_points 23 = .ok (.ldc 229, 2) := by decide +kernel
theorem dX11_points_25 : decode cX11_points 25 = .ok (.ireturn, 1) := by decide +kernel
theorem dX11_points_26 : decode cX11_points 26 = .ok (.aload_n 0, 1) := by decide +kernel
theorem dX11_points_27 : decode cX11_points 27 = .ok (.getfield 32, 3) := by decide +kernel
theorem dX11_points_30 : decode cX11_points 30 = .ok (.iload_n 2, 1) := by decide +kernel
theorem dX11_points_31 : decode cX11_points 31 = .ok (.iload_n 3, 1) := by decide +kernel
theorem dX11_points_32 : decode cX11_points 32 = .ok (.invokevirtual 131, 3) := by decide +kernel
theorem dX11_points_35 : decode cX11_points 35 = .ok (.ldc2_w 304, 3) := by decide +kernel
theorem dX11_points_38 : decode cX11_points 38 = .ok (.ldc2_w 306, 3) := by decide +kernel
theorem dX11_points_41 : decode cX11_points 41 = .ok (.aload_n 0, 1) := by decide +kernel
theorem dX11_points_42 : decode cX11_points 42 = .ok (.getfield 67, 3) := by decide +kernel
theorem dX11_points_45 : decode cX11_points 45 = .ok (.iload_n 1, 1) := by decide +kernel
theorem dX11_points_46 : decode cX11_points 46 = .ok (.iload_n 2, 1) := by decide +kernel
theorem dX11_points_47 : decode cX11_points 47 = .ok (.invokevirtual 308, 3) := by decide +kernel
theorem dX11_points_50 : decode cX11_points 50 = .ok (.invokestatic 312, 3) := by decide +kernel
theorem dX11_points_53 : decode cX11_points 53 = .ok (.invokestatic 316, 3) := by decide +kernel
theorem dX11_points_56 : decode cX11_points 56 = .ok (.l2i, 1) := by decide +kernel
theorem dX11_points_57 : decode cX11_points 57 = .ok (.ireturn, 1) := by decide +kernel
theorem dX11_order_0 : decode cX11_order 0 = .ok (.iload_n 1, 1) := by decide +kernel
theorem dX11_order_1 : decode cX11_order 1 = .ok (.iconst 0, 1) := by decide +kernel
theorem dX11_order_2 : decode cX11_order 2 = .ok (.iconst 5, 1) := by decide +kernel
theorem dX11_order_3 : decode cX11_order 3 = .ok (.invokestatic 124, 3) := by decide +kernel
theorem dX11_order_6 : decode cX11_order 6 = .ok (.ifCond .eq 17, 3) := by decide +kernel
theorem dX11_order_9 : decode cX11_order 9 = .ok (.iload_n 2, 1) := by decide +kernel
theorem dX11_order_10 : decode cX11_order 10 = .ok (.invokestatic 95, 3) := by decide +kernel
theorem dX11_order_13 : decode cX11_order 13 = .ok (.ifCond .eq 10, 3) := by decide +kernel
theorem dX11_order_16 : decode cX11_order 16 = .ok (.iload_n 3, 1) := by decide +kernel
theorem dX11_order_17 : decode cX11_order 17 = .ok (.invokestatic 95, 3) := by decide +kernel
theorem dX11_order_20 : decode cX11_order 20 = .ok (.ifCond .ne 5, 3) := by decide +kernel
theorem dX11_order_23 : decode cX11_order 23 = .ok (.iconst (-1), 1) := by decide +kernel
theorem dX11_order_24 : decode cX11_order 24 = .ok (.ireturn, 1) := by decide +kernel
theorem dX11_order_25 : decode cX11_order 25 = .ok (.aload_n 0, 1) := by decide +kernel
theorem dX11_order_26 : decode cX11_order 26 = .ok (.getfield 67, 3) := by decide +kernel
theorem dX11_order_29 : decode cX11_order 29 = .ok (.iload_n 1, 1) := by decide +kernel
theorem dX11_order_30 : decode cX11_order 30 = .ok (.iload_n 2, 1) := by decide +kernel
theorem dX11_order_31 : decode cX11_order 31 = .ok (.iload_n 3, 1) := by decide +kernel
theorem dX11_order_32 : decode cX11_order 32 = .ok (.invokevirtual 318, 3) := by decide +kernel
theorem dX11_order_35 : decode cX11_order 35 = .ok (.iload 4, 2) := by decide +kernel
theorem dX11_order_37 : decode cX11_order 37 = .ok (.iconst (-1), 1) := by decide +kernel
theorem dX11_order_38 : decode cX11_order 38 = .ok (.if_icmp .ne 13, 3) := by decide +kernel
theorem dX11_order_41 : decode cX11_order 41 = .ok (.aload_n 0, 1) := by decide +kernel
theorem dX11_order_42 : decode cX11_order 42 = .ok (.getfield 67, 3) := by decide +kernel
theorem dX11_order_45 : decode cX11_order 45 = .ok (.getfield 321, 3) := by decide +kernel
theorem dX11_order_48 : decode cX11_order 48 = .ok (.iload_n 1, 1) := by decide +kernel
theorem dX11_order_49 : decode cX11_order 49 = .ok (.iaload, 1) := by decide +kernel
theorem dX11_order_50 : decode cX11_order 50 = .ok (.ireturn, 1) := by decide +kernel
theorem dX11_order_51 : decode cX11_order 51 = .ok (.iload 4, 2) := by decide +kernel
theorem dX11_order_53 : decode cX11_order 53 = .ok (.iconst 0, 1) := by decide +kernel
theorem dX11_order_54 : decode cX11_order 54 = .ok (.aload_n 0, 1) := by decide +kernel
theorem dX11_order_55 : decode cX11_order 55 = .ok (.getfield 67, 3) := by decide +kernel
theorem dX11_order_58 : decode cX11_order 58 = .ok (.getfield 321, 3) := by decide +kernel
theorem dX11_order_61 : decode cX11_order 61 = .ok (.iload_n 1, 1) := by decide +kernel
theorem dX11_order_62 : decode cX11_order 62 = .ok (.iaload, 1) := by decide +kernel
theorem dX11_order_63 : decode cX11_order 63 = .ok (.iconst 1, 1) := by decide +kernel
theorem dX11_order_64 : decode cX11_order 64 = .ok (.isub, 1) := by decide +kernel
theorem dX11_order_65 : decode cX11_order 65 = .ok (.invokestatic 124, 3) := by decide +kernel
theorem dX11_order_68 : decode cX11_order 68 = .ok (.ifCond .eq 21, 3) := by decide +kernel
theorem dX11_order_71 : decode cX11_order 71 = .ok (.aload_n 0, 1) := by decide +kernel
theorem dX11_order_72 : decode cX11_order 72 = .ok (.getfield 67, 3) := by decide +kernel
theorem dX11_order_75 : decode cX11_order 75 = .ok (.getfield 324, 3) := by decide +kernel
theorem dX11_order_78 : decode cX11_order 78 = .ok (.iload_n 1, 1) := by decide +kernel
theorem dX11_order_79 : decode cX11_order 79 = .ok (.bipush 60, 2) := by decide +kernel
theorem dX11_order_81 : decode cX11_order 81 = .ok (.imul, 1) := by decide +kernel
theorem dX11_order_82 : decode cX11_order 82 = .ok (.iload 4, 2) := by decide +kernel
theorem dX11_order_84 : decode cX11_order 84 = .ok (.iadd, 1) := by decide +kernel
theorem dX11_order_85 : decode cX11_order 85 = .ok (.iaload, 1) := by decide +kernel
theorem dX11_order_86 : decode cX11_order 86 = .ok (.goto 4, 3) := by decide +kernel
theorem dX11_order_89 : decode cX11_order 89 = .ok (.iconst (-1), 1) := by decide +kernel
theorem dX11_order_90 : decode cX11_order 90 = .ok (.ireturn, 1) := by decide +kernel
theorem dX11_beside_0 : decode cX11_beside 0 = .ok (.iload_n 1, 1) := by decide +kernel
theorem dX11_beside_1 : decode cX11_beside 1 = .ok (.iconst 0, 1) := by decide +kernel
theorem dX11_beside_2 : decode cX11_beside 2 = .ok (.iconst 5, 1) := by decide +kernel
theorem dX11_beside_3 : decode cX11_beside 3 = .ok (.invokestatic 124, 3) := by decide +kernel
theorem dX11_beside_6 : decode cX11_beside 6 = .ok (.ifCond .eq 25, 3) := by decide +kernel
theorem dX11_beside_9 : decode cX11_beside 9 = .ok (.iload_n 2, 1) := by decide +kernel
theorem dX11_beside_10 : decode cX11_beside 10 = .ok (.invokestatic 95, 3) := by decide +kernel
theorem dX11_beside_13 : decode cX11_beside 13 = .ok (.ifCond .eq 18, 3) := by decide +kernel
theorem dX11_beside_16 : decode cX11_beside 16 = .ok (.iload_n 3, 1) := by decide +kernel
theorem dX11_beside_17 : decode cX11_beside 17 = .ok (.invokestatic 95, 3) := by decide +kernel
theorem dX11_beside_20 : decode cX11_beside 20 = .ok (.ifCond .eq 11, 3) := by decide +kernel
theorem dX11_beside_23 : decode cX11_beside 23 = .ok (.iload 4, 2) := by decide +kernel
theorem dX11_beside_25 : decode cX11_beside 25 = .ok (.invokestatic 95, 3) := by decide +kernel
theorem dX11_beside_28 : decode cX11_beside 28 = .ok (.ifCond .ne 5, 3) := by decide +kernel
theorem dX11_beside_31 : decode cX11_beside 31 = .ok (.iconst (-1), 1) := by decide +kernel
theorem dX11_beside_32 : decode cX11_beside 32 = .ok (.ireturn, 1) := by decide +kernel
theorem dX11_beside_33 : decode cX11_beside 33 = .ok (.aload_n 0, 1) := by decide +kernel
theorem dX11_beside_34 : decode cX11_beside 34 = .ok (.getfield 67, 3) := by decide +kernel
theorem dX11_beside_37 : decode cX11_beside 37 = .ok (.iload_n 1, 1) := by decide +kernel
theorem dX11_beside_38 : decode cX11_beside 38 = .ok (.iload_n 2, 1) := by decide +kernel
theorem dX11_beside_39 : decode cX11_beside 39 = .ok (.iload_n 3, 1) := by decide +kernel
theorem dX11_beside_40 : decode cX11_beside 40 = .ok (.iload 4, 2) := by decide +kernel
theorem dX11_beside_42 : decode cX11_beside 42 = .ok (.invokevirtual 327, 3) := by decide +kernel
theorem dX11_beside_45 : decode cX11_beside 45 = .ok (.ireturn, 1) := by decide +kernel
theorem dX11_offer_0 : decode cX11_offer 0 = .ok (.aload_n 0, 1) := by decide +kernel
theorem dX11_offer_1 : decode cX11_offer 1 = .ok (.iload_n 1, 1) := by decide +kernel
theorem dX11_offer_2 : decode cX11_offer 2 = .ok (.invokevirtual 331, 3) := by decide +kernel
theorem dX11_offer_5 : decode cX11_offer 5 = .ok (.ifCond .ne 9, 3) := by decide +kernel
theorem dX11_offer_8 : decode cX11_offer 8 = .ok (.aload_n 0, 1) := by decide +kernel
theorem dX11_offer_9 : decode cX11_offer 9 = .ok (.iconst (-1), 1) := by decide +kernel
theorem dX11_offer_10 : decode cX11_offer 10 = .ok (.invokevirtual 105, 3) := by decide +kernel
theorem dX11_offer_13 : decode cX11_offer 13 = .ok (.ireturn, 1) := by decide +kernel
theorem dX11_offer_14 : decode cX11_offer 14 = .ok (.aload_n 0, 1) := by decide +kernel
theorem dX11_offer_15 : decode cX11_offer 15 = .ok (.getfield 10, 3) := by decide +kernel
theorem dX11_offer_18 : decode cX11_offer 18 = .ok (.getfield 334, 3) := by decide +kernel
theorem dX11_offer_21 : decode cX11_offer 21 = .ok (.bipush 100, 2) := by decide +kernel
theorem dX11_offer_23 : decode cX11_offer 23 = .ok (.if_icmp .lt 10, 3) := by decide +kernel
theorem dX11_offer_26 : decode cX11_offer 26 = .ok (.aload_n 0, 1) := by decide +kernel
theorem dX11_offer_27 : decode cX11_offer 27 = .ok (.bipush (-5), 2) := by decide +kernel
theorem dX11_offer_29 : decode cX11_offer 29 = .ok (.invokevirtual 105, 3) := by decide +kernel
theorem dX11_offer_32 : decode cX11_offer 32 = .ok (.ireturn, 1) := by decide +kernel
theorem dX11_offer_33 : decode cX11_offer 33 = .ok (.aload_n 0, 1) := by decide +kernel
theorem dX11_offer_34 : decode cX11_offer 34 = .ok (.iload_n 1, 1) := by decide +kernel
theorem dX11_offer_35 : decode cX11_offer 35 = .ok (.iconst 0, 1) := by decide +kernel
theorem dX11_offer_36 : decode cX11_offer 36 = .ok (.invokevirtual 194, 3) := by decide +kernel
theorem dX11_offer_39 : decode cX11_offer 39 = .ok (.astore_n 2, 1) := by decide +kernel
theorem dX11_offer_40 : decode cX11_offer 40 = .ok (.aload_n 0, 1) := by decide +kernel
theorem dX11_offer_41 : decode cX11_offer 41 = .ok (.getfield 67, 3) := by decide +kernel
theorem dX11_offer_44 : decode cX11_offer 44 = .ok (.iload_n 1, 1) := by decide +kernel
theorem dX11_offer_45 : decode cX11_offer 45 = .ok (.aload_n 0, 1) := by decide +kernel
theorem dX11_offer_46 : decode cX11_offer 46 = .ok (.getfield 289, 3) := by decide +kernel
theorem dX11_offer_49 : decode cX11_offer 49 = .ok (.invokevirtual 298, 3) := by decide +kernel
theorem dX11_offer_52 : decode cX11_offer 52 = .ok (.aload_n 0, 1) := by decide +kernel
theorem dX11_offer_53 : decode cX11_offer 53 = .ok (.getfield 67, 3) := by decide +kernel
theorem dX11_offer_56 : decode cX11_offer 56 = .ok (.iload_n 1, 1) := by decide +kernel
theorem dX11_offer_57 : decode cX11_offer 57 = .ok (.invokevirtual 337, 3) := by decide +kernel
theorem dX11_offer_60 : decode cX11_offer 60 = .ok (.aload_n 0, 1) := by decide +kernel
theorem dX11_offer_61 : decode cX11_offer 61 = .ok (.getfield 76, 3) := by decide +kernel
theorem dX11_offer_64 : decode cX11_offer 64 = .ok (.iload_n 1, 1) := by decide +kernel
theorem dX11_offer_65 : decode cX11_offer 65 = .ok (.aload_n 2, 1) := by decide +kernel
theorem dX11_offer_66 : decode cX11_offer 66 = .ok (.invokevirtual 340, 3) := by decide +kernel
theorem dX11_offer_69 : decode cX11_offer 69 = .ok (.aload_n 0, 1) := by decide +kernel
theorem dX11_offer_70 : decode cX11_offer 70 = .ok (.getfield 76, 3) := by decide +kernel
theorem dX11_offer_73 : decode cX11_offer 73 = .ok (.iload_n 1, 1) := by decide +kernel
theorem dX11_offer_74 : decode cX11_offer 74 = .ok (.invokevirtual 344, 3) := by decide +kernel
theorem dX11_offer_77 : decode cX11_offer 77 = .ok (.istore_n 3, 1) := by decide +kernel
theorem dX11_offer_78 : decode cX11_offer 78 = .ok (.aload_n 0, 1) := by decide +kernel
theorem dX11_offer_79 : decode cX11_offer 79 = .ok (.getfield 10, 3) := by decide +kernel
theorem dX11_offer_82 : decode cX11_offer 82 = .ok (.dup, 1) := by decide +kernel
theorem dX11_offer_83 : decode cX11_offer 83 = .ok (.getfield 334, 3) := by decide +kernel
theorem dX11_offer_86 : decode cX11_offer 86 = .ok (.iconst 1, 1) := by decide +kernel
theorem dX11_offer_87 : decode cX11_offer 87 = .ok (.iadd, 1) := by decide +kernel
theorem dX11_offer_88 : decode cX11_offer 88 = .ok (.putfield 334, 3) := by decide +kernel
theorem dX11_offer_91 : decode cX11_offer 91 = .ok (.aload_n 0, 1) := by decide +kernel
theorem dX11_offer_92 : decode cX11_offer 92 = .ok (.getfield 10, 3) := by decide +kernel
theorem dX11_offer_95 : decode cX11_offer 95 = .ok (.dup, 1) := by decide +kernel
theorem dX11_offer_96 : decode cX11_offer 96 = .ok (.getfield 347, 3) := by decide +kernel
theorem dX11_offer_99 : decode cX11_offer 99 = .ok (.iload_n 3, 1) := by decide +kernel
theorem dX11_offer_100 : decode cX11_offer 100 = .ok (.iadd, 1) := by decide +kernel
theorem dX11_offer_101 : decode cX11_offer 101 = .ok (.putfield 347, 3) := by decide +kernel
theorem dX11_offer_104 : decode cX11_offer 104 = .ok (.aload_n 0, 1) := by decide +kernel
theorem dX11_offer_105 : decode cX11_offer 105 = .ok (.getfield 10, 3) := by decide +kernel
theorem dX11_offer_108 : decode cX11_offer 108 = .ok (.iload_n 1, 1) := by decide +kernel
theorem dX11_offer_109 : decode cX11_offer 109 = .ok (.putfield 350, 3) := by decide +kernel
theorem dX11_offer_112 : decode cX11_offer 112 = .ok (.aload_n 0, 1) := by decide +kernel
theorem dX11_offer_113 : decode cX11_offer 113 = .ok (.iload_n 3, 1) := by decide +kernel
theorem dX11_offer_114 : decode cX11_offer 114 = .ok (.invokevirtual 105, 3) := by decide +kernel
theorem dX11_offer_117 : decode cX11_offer 117 = .ok (.ireturn, 1) := by decide +kernel
theorem dX11_lives_0 : decode cX11_lives 0 = .ok (.aload_n 0, 1) := by decide +kernel
theorem dX11_lives_1 : decode cX11_lives 1 = .ok (.iload_n 1, 1) := by decide +kernel
theorem dX11_lives_2 : decode cX11_lives 2 = .ok (.invokevirtual 185, 3) := by decide +kernel
theorem dX11_lives_5 : decode cX11_lives 5 = .ok (.ifCond .eq 19, 3) := by decide +kernel
theorem dX11_lives_8 : decode cX11_lives 8 = .ok (.iload_n 2, 1) := by decide +kernel
theorem dX11_lives_9 : decode cX11_lives 9 = .ok (.invokestatic 95, 3) := by decide +kernel
theorem dX11_lives_12 : decode cX11_lives 12 = .ok (.ifCond .eq 12, 3) := by decide +kernel
theorem dX11_lives_15 : decode cX11_lives 15 = .ok (.iload_n 3, 1) := by decide +kernel
theorem dX11_lives_16 : decode cX11_lives 16 = .ok (.iconst 0, 1) := by decide +kernel
theorem dX11_lives_17 : decode cX11_lives 17 = .ok (.iconst 2, 1) := by decide +kernel
theorem dX11_lives_18 : decode cX11_lives 18 = .ok (.invokestatic 124, 3) := by decide +kernel
theorem dX11_lives_21 : decode cX11_lives 21 = .ok (.ifCond .ne 5, 3) := by decide +kernel
theorem dX11_lives_24 : decode cX11_lives 24 = .ok (.iconst (-1), 1) := by decide +kernel
theorem dX11_lives_25 : decode cX11_lives 25 = .ok (.ireturn, 1) := by decide +kernel
theorem dX11_lives_26 : decode cX11_lives 26 = .ok (.aload_n 0, 1) := by decide +kernel
theorem dX11_lives_27 : decode cX11_lives 27 = .ok (.getfield 76, 3) := by decide +kernel
theorem dX11_lives_30 : decode cX11_lives 30 = .ok (.iload_n 1, 1) := by decide +kernel
theorem dX11_lives_31 : decode cX11_lives 31 = .ok (.iload_n 2, 1) := by decide +kernel
theorem dX11_lives_32 : decode cX11_lives 32 = .ok (.invokevirtual 353, 3) := by decide +kernel
theorem dX11_lives_35 : decode cX11_lives 35 = .ok (.istore 4, 2) := by decide +kernel
theorem dX11_lives_37 : decode cX11_lives 37 = .ok (.iload 4, 2) := by decide +kernel
theorem dX11_lives_39 : decode cX11_lives 39 = .ok (.iconst (-1), 1) := by decide +kernel
theorem dX11_lives_40 : decode cX11_lives 40 = .ok (.if_icmp .ne 5, 3) := by decide +kernel
theorem dX11_lives_43 : decode cX11_lives 43 = .ok (.iconst (-1), 1) := by decide +kernel
theorem dX11_lives_44 : decode cX11_lives 44 = .ok (.ireturn, 1) := by decide +kernel
theorem dX11_lives_45 : decode cX11_lives 45 = .ok (.aload_n 0, 1) := by decide +kernel
theorem dX11_lives_46 : decode cX11_lives 46 = .ok (.getfield 10, 3) := by decide +kernel
theorem dX11_lives_49 : decode cX11_lives 49 = .ok (.getfield 356, 3) := by decide +kernel
theorem dX11_lives_52 : decode cX11_lives 52 = .ok (.iload 4, 2) := by decide +kernel
theorem dX11_lives_54 : decode cX11_lives 54 = .ok (.iload_n 3, 1) := by decide +kernel
theorem dX11_lives_55 : decode cX11_lives 55 = .ok (.ifCond .ne 7, 3) := by decide +kernel
theorem dX11_lives_58 : decode cX11_lives 58 = .ok (.iconst 1, 1) := by decide +kernel
theorem dX11_lives_59 : decode cX11_lives 59 = .ok (.goto 14, 3) := by decide +kernel
theorem dX11_lives_62 : decode cX11_lives 62 = .ok (.iload_n 3, 1) := by decide +kernel
theorem dX11_lives_63 : decode cX11_lives 63 = .ok (.iconst 1, 1) := by decide +kernel
theorem dX11_lives_64 : decode cX11_lives 64 = .ok (.if_icmp .ne 7, 3) := by decide +kernel
theorem dX11_lives_67 : decode cX11_lives 67 = .ok (.iconst 2, 1) := by decide +kernel
theorem dX11_lives_68 : decode cX11_lives 68 = .ok (.goto 5, 3) := by decide +kernel
theorem dX11_lives_71 : decode cX11_lives 71 = .ok (.bipush 6, 2) := by decide +kernel
theorem dX11_lives_73 : decode cX11_lives 73 = .ok (.invokevirtual 223, 3) := by decide +kernel
theorem dX11_lives_76 : decode cX11_lives 76 = .ok (.ireturn, 1) := by decide +kernel
theorem dX11_roof_0 : decode cX11_roof 0 = .ok (.iload_n 2, 1) := by decide +kernel
theorem dX11_roof_1 : decode cX11_roof 1 = .ok (.invokestatic 95, 3) := by decide +kernel
theorem dX11_roof_4 : decode cX11_roof 4 = .ok (.ifCond .eq 12, 3) := by decide +kernel
theorem dX11_roof_7 : decode cX11_roof 7 = .ok (.aload_n 0, 1) := by decide +kernel
theorem dX11_roof_8 : decode cX11_roof 8 = .ok (.iload_n 1, 1) := by decide +kernel
theorem dX11_roof_9 : decode cX11_roof 9 = .ok (.iload_n 2, 1) := by decide +kernel
theorem dX11_roof_10 : decode cX11_roof 10 = .ok (.invokevirtual 295, 3) := by decide +kernel
theorem dX11_roof_13 : decode cX11_roof 13 = .ok (.ifCond .ne 5, 3) := by decide +kernel
theorem dX11_roof_16 : decode cX11_roof 16 = .ok (.iconst (-1), 1) := by decide +kernel
theorem dX11_roof_17 : decode cX11_roof 17 = .ok (.ireturn, 1) := by decide +kernel
theorem dX11_roof_18 : decode cX11_roof 18 = .ok (.aload_n 0, 1) := by decide +kernel
theorem dX11_roof_19 : decode cX11_roof 19 = .ok (.getfield 67, 3) := by decide +kernel
theorem dX11_roof_22 : decode cX11_roof 22 = .ok (.iload_n 2, 1) := by decide +kernel
theorem dX11_roof_23 : decode cX11_roof 23 = .ok (.aload_n 0, 1) := by decide +kernel
theorem dX11_roof_24 : decode cX11_roof 24 = .ok (.getfield 289, 3) := by decide +kernel
theorem dX11_roof_27 : decode cX11_roof 27 = .ok (.invokevirtual 298, 3) := by decide +kernel
theorem dX11_roof_30 : decode cX11_roof 30 = .ok (.aload_n 0, 1) := by decide +kernel
theorem dX11_roof_31 : decode cX11_roof 31 = .ok (.getfield 76, 3) := by decide +kernel
theorem dX11_roof_34 : decode cX11_roof 34 = .ok (.aload_n 0, 1) := by decide +kernel
theorem dX11_roof_35 : decode cX11_roof 35 = .ok (.getfield 67, 3) := by decide +kernel
theorem dX11_roof_38 : decode cX11_roof 38 = .ok (.getfield 301, 3) := by decide +kernel
theorem dX11_roof_41 : decode cX11_roof 41 = .ok (.iload_n 1, 1) := by decide +kernel
theorem dX11_roof_42 : decode cX11_roof 42 = .ok (.iaload, 1) := by decide +kernel
theorem dX11_roof_43 : decode cX11_roof 43 = .ok (.iload_n 2, 1) := by decide +kernel
theorem dX11_roof_44 : decode cX11_roof 44 = .ok (.invokevirtual 359, 3) := by decide +kernel
theorem dX11_roof_47 : decode cX11_roof 47 = .ok (.ireturn, 1) := by decide +kernel
theorem dX11_squat_0 : decode cX11_squat 0 = .ok (.aload_n 0, 1) := by decide +kernel
theorem dX11_squat_1 : decode cX11_squat 1 = .ok (.iload_n 3, 1) := by decide +kernel
theorem dX11_squat_2 : decode cX11_squat 2 = .ok (.invokevirtual 331, 3) := by decide +kernel
theorem dX11_squat_5 : decode cX11_squat 5 = .ok (.ifCond .ne 9, 3) := by decide +kernel
theorem dX11_squat_8 : decode cX11_squat 8 = .ok (.aload_n 0, 1) := by decide +kernel
theorem dX11_squat_9 : decode cX11_squat 9 = .ok (.iconst (-1), 1) := by decide +kernel
theorem dX11_squat_10 : decode cX11_squat 10 = .ok (.invokevirtual 105, 3) := by decide +kernel
theorem dX11_squat_13 : decode cX11_squat 13 = .ok (.ireturn, 1) := by decide +kernel
theorem dX11_squat_14 : decode cX11_squat 14 = .ok (.aload_n 0, 1) := by decide +kernel
theorem dX11_squat_15 : decode cX11_squat 15 = .ok (.iload_n 2, 1) := by decide +kernel
theorem dX11_squat_16 : decode cX11_squat 16 = .ok (.invokevirtual 185, 3) := by decide +kernel
theorem dX11_squat_19 : decode cX11_squat 19 = .ok (.ifCond .eq 12, 3) := by decide +kernel
theorem dX11_squat_22 : decode cX11_squat 22 = .ok (.aload_n 0, 1) := by decide +kernel
theorem dX11_squat_23 : decode cX11_squat 23 = .ok (.iload_n 1, 1) := by decide +kernel
theorem dX11_squat_24 : decode cX11_squat 24 = .ok (.iload_n 3, 1) := by decide +kernel
theorem dX11_squat_25 : decode cX11_squat 25 = .ok (.invokevirtual 295, 3) := by decide +kernel
theorem dX11_squat_28 : decode cX11_squat 28 = .ok (.ifCond .ne 10, 3) := by decide +kernel
theorem dX11_squat_31 : decode cX11_squat 31 = .ok (.aload_n 0, 1) := by decide +kernel
theorem dX11_squat_32 : decode cX11_squat 32 = .ok (.bipush (-2), 2) := by decide +kernel
theorem dX11_squat_34 : decode cX11_squat 34 = .ok (.invokevirtual 105, 3) := by decide +kernel
theorem dX11_squat_37 : decode cX11_squat 37 = .ok (.ireturn, 1) := by decide +kernel
theorem dX11_squat_38 : decode cX11_squat 38 = .ok (.aload_n 0, 1) := by decide +kernel
theorem dX11_squat_39 : decode cX11_squat 39 = .ok (.iload_n 3, 1) := by decide +kernel
theorem dX11_squat_40 : decode cX11_squat 40 = .ok (.iconst 0, 1) := by decide +kernel
theorem dX11_squat_41 : decode cX11_squat 41 = .ok (.invokevirtual 194, 3) := by decide +kernel
theorem dX11_squat_44 : decode cX11_squat 44 = .ok (.astore 4, 2) := by decide +kernel
theorem dX11_squat_46 : decode cX11_squat 46 = .ok (.aload_n 0, 1) := by decide +kernel
theorem dX11_squat_47 : decode cX11_squat 47 = .ok (.getfield 67, 3) := by decide +kernel
theorem dX11_squat_50 : decode cX11_squat 50 = .ok (.iload_n 3, 1) := by decide +kernel
theorem dX11_squat_51 : decode cX11_squat 51 = .ok (.aload_n 0, 1) := by decide +kernel
theorem dX11_squat_52 : decode cX11_squat 52 = .ok (.getfield 289, 3) := by decide +kernel
theorem dX11_squat_55 : decode cX11_squat 55 = .ok (.invokevirtual 298, 3) := by decide +kernel
theorem dX11_squat_58 : decode cX11_squat 58 = .ok (.aload_n 0, 1) := by decide +kernel
theorem dX11_squat_59 : decode cX11_squat 59 = .ok (.getfield 76, 3) := by decide +kernel
theorem dX11_squat_62 : decode cX11_squat 62 = .ok (.iload_n 3, 1) := by decide +kernel
theorem dX11_squat_63 : decode cX11_squat 63 = .ok (.aload 4, 2) := by decide +kernel
theorem dX11_squat_65 : decode cX11_squat 65 = .ok (.invokevirtual 340, 3) := by decide +kernel
theorem dX11_squat_68 : decode cX11_squat 68 = .ok (.aload_n 0, 1) := by decide +kernel
theorem dX11_squat_69 : decode cX11_squat 69 = .ok (.getfield 76, 3) := by decide +kernel
theorem dX11_squat_72 : decode cX11_squat 72 = .ok (.iload_n 2, 1) := by decide +kernel
theorem dX11_squat_73 : decode cX11_squat 73 = .ok (.invokevirtual 362, 3) := by decide +kernel
theorem dX11_squat_76 : decode cX11_squat 76 = .ok (.ifCond .eq 22, 3) := by decide +kernel
theorem dX11_squat_79 : decode cX11_squat 79 = .ok (.aload_n 0, 1) := by decide +kernel
theorem dX11_squat_80 : decode cX11_squat 80 = .ok (.getfield 76, 3) := by decide +kernel
theorem dX11_squat_83 : decode cX11_squat 83 = .ok (.aload_n 0, 1) := by decide +kernel
theorem dX11_squat_84 : decode cX11_squat 84 = .ok (.getfield 67, 3) := by decide +kernel
theorem dX11_squat_87 : decode cX11_squat 87 = .ok (.getfield 301, 3) := by decide +kernel
theorem dX11_squat_90 : decode cX11_squat 90 = .ok (.iload_n 1, 1) := by decide +kernel
theorem dX11_squat_91 : decode cX11_squat 91 = .ok (.iaload, 1) := by decide +kernel
theorem dX11_squat_92 : decode cX11_squat 92 = .ok (.invokevirtual 365, 3) := by decide +kernel
theorem dX11_squat_95 : decode cX11_squat 95 = .ok (.ifCond .ne 10, 3) := by decide +kernel
theorem dX11_squat_98 : decode cX11_squat 98 = .ok (.aload_n 0, 1) := by decide +kernel
theorem dX11_squat_99 : decode cX11_squat 99 = .ok (.bipush (-3), 2) := by decide +kernel
theorem dX11_squat_101 : decode cX11_squat 101 = .ok (.invokevirtual 105, 3) := by decide +kernel
theorem dX11_squat_104 : decode cX11_squat 104 = .ok (.ireturn, 1) := by decide +kernel
theorem dX11_squat_105 : decode cX11_squat 105 = .ok (.aload_n 0, 1) := by decide +kernel
theorem dX11_squat_106 : decode cX11_squat 106 = .ok (.getfield 10, 3) := by decide +kernel
theorem dX11_squat_109 : decode cX11_squat 109 = .ok (.getfield 368, 3) := by decide +kernel
theorem dX11_squat_112 : decode cX11_squat 112 = .ok (.bipush 40, 2) := by decide +kernel
theorem dX11_squat_114 : decode cX11_squat 114 = .ok (.if_icmp .lt 10, 3) := by decide +kernel
theorem dX11_squat_117 : decode cX11_squat 117 = .ok (.aload_n 0, 1) := by decide +kernel
theorem dX11_squat_118 : decode cX11_squat 118 = .ok (.bipush (-5), 2) := by decide +kernel
theorem dX11_squat_120 : decode cX11_squat 120 = .ok (.invokevirtual 105, 3) := by decide +kernel
theorem dX11_squat_123 : decode cX11_squat 123 = .ok (.ireturn, 1) := by decide +kernel
theorem dX11_squat_124 : decode cX11_squat 124 = .ok (.aload_n 0, 1) := by decide +kernel
theorem dX11_squat_125 : decode cX11_squat 125 = .ok (.getfield 32, 3) := by decide +kernel
theorem dX11_squat_128 : decode cX11_squat 128 = .ok (.iload_n 3, 1) := by decide +kernel
theorem dX11_squat_129 : decode cX11_squat 129 = .ok (.iload_n 3, 1) := by decide +kernel
theorem dX11_squat_130 : decode cX11_squat 130 = .ok (.invokevirtual 131, 3) := by decide +kernel
theorem dX11_squat_133 : decode cX11_squat 133 = .ok (.aload_n 0, 1) := by decide +kernel
theorem dX11_squat_134 : decode cX11_squat 134 = .ok (.getfield 32, 3) := by decide +kernel
theorem dX11_squat_137 : decode cX11_squat 137 = .ok (.iconst 0, 1) := by decide +kernel
theorem dX11_squat_138 : decode cX11_squat 138 = .ok (.iload_n 3, 1) := by decide +kernel
theorem dX11_squat_139 : decode cX11_squat 139 = .ok (.invokevirtual 139, 3) := by decide +kernel
theorem dX11_squat_142 : decode cX11_squat 142 = .ok (.aload_n 0, 1) := by decide +kernel
theorem dX11_squat_143 : decode cX11_squat 143 = .ok (.getfield 32, 3) := by decide +kernel
theorem dX11_squat_146 : decode cX11_squat 146 = .ok (.bipush 60, 2) := by decide +kernel
theorem dX11_squat_148 : decode cX11_squat 148 = .ok (.invokevirtual 142, 3) := by decide +kernel
theorem dX11_squat_151 : decode cX11_squat 151 = .ok (.istore 5, 2) := by decide +kernel
theorem dX11_squat_153 : decode cX11_squat 153 = .ok (.aload_n 0, 1) := by decide +kernel
theorem dX11_squat_154 : decode cX11_squat 154 = .ok (.getfield 76, 3) := by decide +kernel
theorem dX11_squat_157 : decode cX11_squat 157 = .ok (.iload_n 1, 1) := by decide +kernel
theorem dX11_squat_158 : decode cX11_squat 158 = .ok (.iload_n 2, 1) := by decide +kernel
theorem dX11_squat_159 : decode cX11_squat 159 = .ok (.iload_n 3, 1) := by decide +kernel
theorem dX11_squat_160 : decode cX11_squat 160 = .ok (.iload 5, 2) := by decide +kernel
theorem dX11_squat_162 : decode cX11_squat 162 = .ok (.iconst (-1), 1) := by decide +kernel
theorem dX11_squat_163 : decode cX11_squat 163 = .ok (.if_icmp .ne 9, 3) := by decide +kernel
theorem dX11_squat_166 : decode cX11_squat 166 = .ok (.ldc_w 371, 3) := by decide +kernel
theorem dX11_squat_169 : decode cX11_squat 169 = .ok (.goto 7, 3) := by decide +kernel
theorem dX11_squat_172 : decode cX11_squat 172 = .ok (.iload_n 3, 1) := by decide +kernel
theorem dX11_squat_173 : decode cX11_squat 173 = .ok (.iload 5, 2) := by decide +kernel
theorem dX11_squat_175 : decode cX11_squat 175 = .ok (.iadd, 1) := by decide +kernel
theorem dX11_squat_176 : decode cX11_squat 176 = .ok (.iconst 0, 1) := by decide +kernel
theorem dX11_squat_177 : decode cX11_squat 177 = .ok (.invokevirtual 372, 3) := by decide +kernel
theorem dX11_squat_180 : decode cX11_squat 180 = .ok (.aload_n 0, 1) := by decide +kernel
theorem dX11_squat_181 : decode cX11_squat 181 = .ok (.getfield 10, 3) := by decide +kernel
theorem dX11_squat_184 : decode cX11_squat 184 = .ok (.dup, 1) := by decide +kernel
theorem dX11_squat_185 : decode cX11_squat 185 = .ok (.getfield 368, 3) := by decide +kernel
theorem dX11_squat_188 : decode cX11_squat 188 = .ok (.iconst 1, 1) := by decide +kernel
theorem dX11_squat_189 : decode cX11_squat 189 = .ok (.iadd, 1) := by decide +kernel
theorem dX11_squat_190 : decode cX11_squat 190 = .ok (.putfield 368, 3) := by decide +kernel
theorem dX11_squat_193 : decode cX11_squat 193 = .ok (.aload_n 0, 1) := by decide +kernel
theorem dX11_squat_194 : decode cX11_squat 194 = .ok (.getfield 10, 3) := by decide +kernel
theorem dX11_squat_197 : decode cX11_squat 197 = .ok (.iload_n 3, 1) := by decide +kernel
theorem dX11_squat_198 : decode cX11_squat 198 = .ok (.putfield 350, 3) := by decide +kernel
theorem dX11_squat_201 : decode cX11_squat 201 = .ok (.aload_n 0, 1) := by decide +kernel
theorem dX11_squat_202 : decode cX11_squat 202 = .ok (.aload_n 0, 1) := by decide +kernel
theorem dX11_squat_203 : decode cX11_squat 203 = .ok (.getfield 10, 3) := by decide +kernel
theorem dX11_squat_206 : decode cX11_squat 206 = .ok (.getfield 368, 3) := by decide +kernel
theorem dX11_squat_209 : decode cX11_squat 209 = .ok (.invokevirtual 105, 3) := by decide +kernel
theorem dX11_squat_212 : decode cX11_squat 212 = .ok (.ireturn, 1) := by decide +kernel
theorem dX11_out_0 : decode cX11_out 0 = .ok (.aload_n 0, 1) := by decide +kernel
theorem dX11_out_1 : decode cX11_out 1 = .ok (.iload_n 2, 1) := by decide +kernel
theorem dX11_out_2 : decode cX11_out 2 = .ok (.invokevirtual 331, 3) := by decide +kernel
theorem dX11_out_5 : decode cX11_out 5 = .ok (.ifCond .ne 9, 3) := by decide +kernel
theorem dX11_out_8 : decode cX11_out 8 = .ok (.aload_n 0, 1) := by decide +kernel
theorem dX11_out_9 : decode cX11_out 9 = .ok (.iconst (-1), 1) := by decide +kernel
theorem dX11_out_10 : decode cX11_out 10 = .ok (.invokevirtual 105, 3) := by decide +kernel
theorem dX11_out_13 : decode cX11_out 13 = .ok (.ireturn, 1) := by decide +kernel
theorem dX11_out_14 : decode cX11_out 14 = .ok (.aload_n 0, 1) := by decide +kernel
theorem dX11_out_15 : decode cX11_out 15 = .ok (.iload_n 1, 1) := by decide +kernel
theorem dX11_out_16 : decode cX11_out 16 = .ok (.invokevirtual 185, 3) := by decide +kernel
theorem dX11_out_19 : decode cX11_out 19 = .ok (.ifCond .ne 10, 3) := by decide +kernel
theorem dX11_out_22 : decode cX11_out 22 = .ok (.aload_n 0, 1) := by decide +kernel
theorem dX11_out_23 : decode cX11_out 23 = .ok (.bipush (-2), 2) := by decide +kernel
theorem dX11_out_25 : decode cX11_out 25 = .ok (.invokevirtual 105, 3) := by decide +kernel
theorem dX11_out_28 : decode cX11_out 28 = .ok (.ireturn, 1) := by decide +kernel
theorem dX11_out_29 : decode cX11_out 29 = .ok (.aload_n 0, 1) := by decide +kernel
theorem dX11_out_30 : decode cX11_out 30 = .ok (.getfield 76, 3) := by decide +kernel
theorem dX11_out_33 : decode cX11_out 33 = .ok (.iload_n 1, 1) := by decide +kernel
theorem dX11_out_34 : decode cX11_out 34 = .ok (.iload_n 2, 1) := by decide +kernel
theorem dX11_out_35 : decode cX11_out 35 = .ok (.invokevirtual 376, 3) := by decide +kernel
theorem dX11_out_38 : decode cX11_out 38 = .ok (.istore_n 3, 1) := by decide +kernel
theorem dX11_out_39 : decode cX11_out 39 = .ok (.iload_n 3, 1) := by decide +kernel
theorem dX11_out_40 : decode cX11_out 40 = .ok (.iconst (-1), 1) := by decide +kernel
theorem dX11_out_41 : decode cX11_out 41 = .ok (.if_icmp .eq 15, 3) := by decide +kernel
theorem dX11_out_44 : decode cX11_out 44 = .ok (.aload_n 0, 1) := by decide +kernel
theorem dX11_out_45 : decode cX11_out 45 = .ok (.getfield 76, 3) := by decide +kernel
theorem dX11_out_48 : decode cX11_out 48 = .ok (.iload_n 3, 1) := by decide +kernel
theorem dX11_out_49 : decode cX11_out 49 = .ok (.iload_n 2, 1) := by decide +kernel
theorem dX11_out_50 : decode cX11_out 50 = .ok (.invokevirtual 379, 3) := by decide +kernel
theorem dX11_out_53 : decode cX11_out 53 = .ok (.ifCond .eq 10, 3) := by decide +kernel
theorem dX11_out_56 : decode cX11_out 56 = .ok (.aload_n 0, 1) := by decide +kernel
theorem dX11_out_57 : decode cX11_out 57 = .ok (.bipush (-3), 2) := by decide +kernel
theorem dX11_out_59 : decode cX11_out 59 = .ok (.invokevirtual 105, 3) := by decide +kernel
theorem dX11_out_62 : decode cX11_out 62 = .ok (.ireturn, 1) := by decide +kernel
theorem dX11_out_63 : decode cX11_out 63 = .ok (.aload_n 0, 1) := by decide +kernel
theorem dX11_out_64 : decode cX11_out 64 = .ok (.getfield 10, 3) := by decide +kernel
theorem dX11_out_67 : decode cX11_out 67 = .ok (.getfield 356, 3) := by decide +kernel
theorem dX11_out_70 : decode cX11_out 70 = .ok (.iload_n 3, 1) := by decide +kernel
theorem dX11_out_71 : decode cX11_out 71 = .ok (.iconst 5, 1) := by decide +kernel
theorem dX11_out_72 : decode cX11_out 72 = .ok (.iload_n 2, 1) := by decide +kernel
theorem dX11_out_73 : decode cX11_out 73 = .ok (.invokevirtual 169, 3) := by decide +kernel
theorem dX11_out_76 : decode cX11_out 76 = .ok (.aload_n 0, 1) := by decide +kernel
theorem dX11_out_77 : decode cX11_out 77 = .ok (.getfield 10, 3) := by decide +kernel
theorem dX11_out_80 : decode cX11_out 80 = .ok (.iload_n 2, 1) := by decide +kernel
theorem dX11_out_81 : decode cX11_out 81 = .ok (.putfield 350, 3) := by decide +kernel
theorem dX11_out_84 : decode cX11_out 84 = .ok (.aload_n 0, 1) := by decide +kernel
theorem dX11_out_85 : decode cX11_out 85 = .ok (.iconst 0, 1) := by decide +kernel
theorem dX11_out_86 : decode cX11_out 86 = .ok (.invokevirtual 105, 3) := by decide +kernel
theorem dX11_out_89 : decode cX11_out 89 = .ok (.ireturn, 1) := by decide +kernel
def W_X11_knock_0 (X : Sx) (l : Launch) (D : Nat) (x1 : Int32) (x2 : Int32) (σ : AH) (r : Option Value) (σ' : AH) : Prop := ∃ d1 : Nat, ∃ v6 : Int32, ∃ σ2 : AH, d1 + 1 ≤ D ∧ Call X l m_X11_isWeek d1 [.int x1] σ (some (.int v6)) σ2 ∧ (if v6 = 0 then (r = some (.int (-2000000000 : Int32)) ∧ σ' = σ2) else ∃ d7 : Nat, ∃ v12 : Int32, ∃ σ8 : AH, d7 + 1 ≤ D ∧ Call X l m_X11_isIn d7 [.int x2, .int (1 : Int32), .int (26 : Int32)] σ2 (some (.int v12)) σ8 ∧ (if v12 = 0 then (r = some (.int (-2000000000 : Int32)) ∧ σ' = σ8) else ∃ d13 : Nat, ∃ b18 : Nat, ∃ σ14 : AH, d13 + 1 ≤ D ∧ Call X l m_X11_runFor d13 [.ref 0, .int x1, .int (0 : Int32)] σ8 (some (.ref b18)) σ14 ∧ b18 ∈ runIds ∧ ∃ d20 : Nat, ∃ b25 : Nat, ∃ σ21 : AH, d20 + 1 ≤ D ∧ Call X l m_X11_runFor d20 [.ref 0, .int x1, .int x2] σ14 (some (.ref b25)) σ21 ∧ b25 ∈ runIds ∧ E X l m_X11_knock D 41 [(0, .ref 0), (3, .ref b18), (4, .ref b25), (5, .int (0 : Int32)), (6, .int (0 : Int32))] [] σ21 r σ'))
set_option maxRecDepth 100000 in
theorem w_X11_knock_0 {X : Sx} {l : Launch} {D : Nat} {x1 : Int32} {x2 : Int32} {σ : AH} {r : Option Value} {σ' : AH} (hs : Sh σ) (h : W_X11_knock_0 X l D x1 x2 σ r σ') : E X l m_X11_knock D 0 [(0, .ref 0), (1, .int x1), (2, .int x2)] [] σ r σ' := by
  unfold W_X11_knock_0 at h
  refine E_iload_n 1 dX11_knock_0 rfl rfl ?_
  obtain ⟨d1, v6, σ2, hD3, hC4, h⟩ := h
  have hs5 := hC4.1.2.2.2.1 hs
  refine E_callS (As := [.int x1]) (rest := []) (r1 := (some (.int v6))) dX11_knock_1 ok_X11_isWeek is_X11_isWeek ml_X11_95 hD3 rfl rfl (Nat.le_of_ble_eq_true rfl) (by decide +kernel) hC4 ?_
  refine E_if_eq 17 dX11_knock_4 (by decide) (fun c => ?_) (fun c => ?_)
  · rw [if_pos c] at h
    refine E_ldc (-2000000000 : Int32) dX11_knock_17 ct_X11_229 ?_
    obtain ⟨rfl, rfl⟩ := h
    exact E_iret dX11_knock_19 rfl
  · rw [if_neg c] at h
    refine E_iload_n 2 dX11_knock_7 rfl rfl ?_
    refine E_iconst (1 : Int32) dX11_knock_8 (by decide) ?_
    refine E_bipush (26 : Int32) dX11_knock_9 (by decide) ?_
    obtain ⟨d7, v12, σ8, hD9, hC10, h⟩ := h
    have hs11 := hC10.1.2.2.2.1 hs5
    refine E_callS (As := [.int x2, .int (1 : Int32), .int (26 : Int32)]) (rest := []) (r1 := (some (.int v12))) dX11_knock_11 ok_X11_isIn is_X11_isIn ml_X11_124 hD9 rfl rfl (Nat.le_of_ble_eq_true rfl) (by decide +kernel) hC10 ?_
    refine E_if_ne 20 dX11_knock_14 (by decide) (fun c => ?_) (fun c => ?_)
    · rw [if_neg c] at h
      refine E_aload_n 0 dX11_knock_20 rfl rfl ?_
      refine E_iload_n 1 dX11_knock_21 rfl rfl ?_
      refine E_iconst (0 : Int32) dX11_knock_22 (by decide) ?_
      obtain ⟨d13, b18, σ14, hD15, hC16, hm19, h⟩ := h
      have hs17 := hC16.1.2.2.2.1 hs11
      refine E_callV (As := [.int x1, .int (0 : Int32)]) (rest := []) (r1 := (some (.ref b18))) (b := 0) dX11_knock_23 ok_X11_runFor in_X11_runFor se_X11_runFor ml_X11_194 hD15 rfl rfl (Nat.le_of_ble_eq_true rfl) (sk_0 hs11) (sn hs11 (by decide)) (by decide) rfl (by decide +kernel) hC16 ?_
      refine E_astore_n [(3, .ref b18), (0, .ref 0), (1, .int x1), (2, .int x2)] dX11_knock_26 rfl (by decide) rfl ?_
      refine E_aload_n 1 dX11_knock_27 rfl rfl ?_
      refine E_iload_n 2 dX11_knock_28 rfl rfl ?_
      refine E_iload_n 3 dX11_knock_29 rfl rfl ?_
      obtain ⟨d20, b25, σ21, hD22, hC23, hm26, h⟩ := h
      have hs24 := hC23.1.2.2.2.1 hs17
      refine E_callV (As := [.int x1, .int x2]) (rest := []) (r1 := (some (.ref b25))) (b := 0) dX11_knock_30 ok_X11_runFor in_X11_runFor se_X11_runFor ml_X11_194 hD22 rfl rfl (Nat.le_of_ble_eq_true rfl) (sk_0 hs17) (sn hs17 (by decide)) (by decide) rfl (by decide +kernel) hC23 ?_
      refine E_astore [(4, .ref b25), (3, .ref b18), (0, .ref 0), (1, .int x1), (2, .int x2)] dX11_knock_33 (by decide) rfl ?_
      refine E_iconst (0 : Int32) dX11_knock_35 (by decide) ?_
      refine E_istore [(5, .int (0 : Int32)), (4, .ref b25), (3, .ref b18), (0, .ref 0), (1, .int x1), (2, .int x2)] dX11_knock_36 (by decide) rfl ?_
      refine E_iconst (0 : Int32) dX11_knock_38 (by decide) ?_
      refine E_istore [(6, .int (0 : Int32)), (5, .int (0 : Int32)), (4, .ref b25), (3, .ref b18), (0, .ref 0), (1, .int x1), (2, .int x2)] dX11_knock_39 (by decide) rfl ?_
      exact E_lv [4, 3, 2, 1, 0] rfl h
    · rw [if_pos c] at h
      refine E_ldc (-2000000000 : Int32) dX11_knock_17 ct_X11_229 ?_
      obtain ⟨rfl, rfl⟩ := h
      exact E_iret dX11_knock_19 rfl
def W_X11_knock_101 (X : Sx) (l : Launch) (D : Nat) (x3 : Nat) (x4 : Nat) (x5 : Int32) (x6 : Int32) (σ : AH) (r : Option Value) (σ' : AH) : Prop := E X l m_X11_knock D 41 [(0, .ref 0), (3, .ref x3), (4, .ref x4), (5, .int x5), (6, .int (x6 + 1))] [] σ r σ'
set_option maxRecDepth 100000 in
theorem w_X11_knock_101 {X : Sx} {l : Launch} {D : Nat} {x3 : Nat} {x4 : Nat} {x5 : Int32} {x6 : Int32} {σ : AH} {r : Option Value} {σ' : AH} (hs : Sh σ) (hmx3 : x3 ∈ runIds) (hmx4 : x4 ∈ runIds) (h : W_X11_knock_101 X l D x3 x4 x5 x6 σ r σ') : E X l m_X11_knock D 101 [(0, .ref 0), (3, .ref x3), (4, .ref x4), (5, .int x5), (6, .int x6)] [] σ r σ' := by
  unfold W_X11_knock_101 at h
  refine E_iinc 4 (x6 + 1) [(6, .int (x6 + 1)), (0, .ref 0), (3, .ref x3), (4, .ref x4), (5, .int x5)] dX11_knock_101 rfl (congrArg (x6 + ·) (by decide : Int32.ofInt 1 = 1)) (by decide) rfl ?_
  refine E_goto 41 dX11_knock_104 (by decide) ?_
  exact E_lv [1, 2, 3, 4, 0] rfl h
def W_X11_knock_95 (X : Sx) (l : Launch) (D : Nat) (x3 : Nat) (x4 : Nat) (x6 : Int32) (x7 : Int32) (y0 : Int32) (y1 : Int32) (σ : AH) (r : Option Value) (σ' : AH) : Prop := W_X11_knock_101 X l D x3 x4 (y1 + (y0 - x7)) x6 σ r σ'
set_option maxRecDepth 100000 in
theorem w_X11_knock_95 {X : Sx} {l : Launch} {D : Nat} {x3 : Nat} {x4 : Nat} {x6 : Int32} {x7 : Int32} {y0 : Int32} {y1 : Int32} {σ : AH} {r : Option Value} {σ' : AH} (hs : Sh σ) (hmx3 : x3 ∈ runIds) (hmx4 : x4 ∈ runIds) (h : W_X11_knock_95 X l D x3 x4 x6 x7 y0 y1 σ r σ') : E X l m_X11_knock D 95 [(0, .ref 0), (3, .ref x3), (4, .ref x4), (6, .int x6), (7, .int x7)] [.int y0, .int y1] σ r σ' := by
  unfold W_X11_knock_95 at h
  refine E_iload 4 dX11_knock_95 rfl ?_
  refine E_isub dX11_knock_97 ?_
  refine E_iadd dX11_knock_98 ?_
  refine E_istore [(5, .int (y1 + (y0 - x7))), (0, .ref 0), (3, .ref x3), (4, .ref x4), (6, .int x6), (7, .int x7)] dX11_knock_99 (by decide) rfl ?_
  exact E_lv [1, 2, 3, 0, 4] rfl (w_X11_knock_101 hs hmx3 hmx4 h)
def W_X11_knock_41 (X : Sx) (l : Launch) (D : Nat) (x3 : Nat) (x4 : Nat) (x5 : Int32) (x6 : Int32) (σ : AH) (r : Option Value) (σ' : AH) : Prop := ∃ d27 : Nat, ∃ v32 : Int32, ∃ σ28 : AH, d27 + 1 ≤ D ∧ Call X l m_X8_rows d27 [.ref 9] σ (some (.int v32)) σ28 ∧ (if v32 ≤ x6 then (r = some (.int x5) ∧ σ' = σ28) else ∃ d33 : Nat, ∃ v38 : Int32, ∃ σ34 : AH, d33 + 1 ≤ D ∧ Call X l m_X6_doneWeek d33 [.ref x3, .int x6] σ28 (some (.int v38)) σ34 ∧ (if v38 = (-1 : Int32) then W_X11_knock_101 X l D x3 x4 x5 x6 σ34 r σ' else ∃ d39 : Nat, ∃ v44 : Int32, ∃ σ40 : AH, d39 + 1 ≤ D ∧ Call X l m_X6_doneWeek d39 [.ref x4, .int x6] σ34 (some (.int v44)) σ40 ∧ (if v44 = (-1 : Int32) then W_X11_knock_95 X l D x3 x4 x6 v38 (260 : Int32) x5 σ40 r σ' else W_X11_knock_95 X l D x3 x4 x6 v38 v44 x5 σ40 r σ')))
set_option maxRecDepth 100000 in
theorem w_X11_knock_41 {X : Sx} {l : Launch} {D : Nat} {x3 : Nat} {x4 : Nat} {x5 : Int32} {x6 : Int32} {σ : AH} {r : Option Value} {σ' : AH} (hs : Sh σ) (hmx3 : x3 ∈ runIds) (hmx4 : x4 ∈ runIds) (h : W_X11_knock_41 X l D x3 x4 x5 x6 σ r σ') : E X l m_X11_knock D 41 [(0, .ref 0), (3, .ref x3), (4, .ref x4), (5, .int x5), (6, .int x6)] [] σ r σ' := by
  unfold W_X11_knock_41 at h
  refine E_iload 4 dX11_knock_41 rfl ?_
  refine E_aload_n 0 dX11_knock_43 rfl rfl ?_
  refine E_getR 1 dX11_knock_44 fl_X11_10 rfl (sk_0 hs) (sn hs (by decide)) (sr_0_0 hs) ?_
  refine E_getR 9 dX11_knock_47 fl_X11_182 rfl (sk_1 hs) (sn hs (by decide)) (sr_1_5 hs) ?_
  obtain ⟨d27, v32, σ28, hD29, hC30, h⟩ := h
  have hs31 := hC30.1.2.2.2.1 hs
  refine E_callV (As := []) (rest := [.int x6]) (r1 := (some (.int v32))) (b := 9) dX11_knock_50 ok_X8_rows in_X8_rows se_X8_rows ml_X11_173 hD29 rfl rfl (Nat.le_of_ble_eq_true rfl) (sk_9 hs) (sn hs (by decide)) (by decide) rfl (by decide +kernel) hC30 ?_
  refine E_icmp_ge 107 dX11_knock_53 (by decide) (fun c => ?_) (fun c => ?_)
  · rw [if_pos c] at h
    refine E_iload 3 dX11_knock_107 rfl ?_
    obtain ⟨rfl, rfl⟩ := h
    exact E_iret dX11_knock_109 rfl
  · rw [if_neg c] at h
    refine E_aload_n 1 dX11_knock_56 rfl rfl ?_
    refine E_iload 4 dX11_knock_57 rfl ?_
    obtain ⟨d33, v38, σ34, hD35, hC36, h⟩ := h
    have hs37 := hC36.1.2.2.2.1 hs31
    refine E_callV (As := [.int x6]) (rest := []) (r1 := (some (.int v38))) (b := x3) dX11_knock_59 ok_X6_doneWeek in_X6_doneWeek se_X6_doneWeek ml_X11_230 hD35 rfl rfl (Nat.le_of_ble_eq_true rfl) (rn_k hs31 hmx3) (rn_n hs31 hmx3 (j := 0) (by decide)) (by decide) rfl (by decide +kernel) hC36 ?_
    refine E_istore [(7, .int v38), (0, .ref 0), (3, .ref x3), (4, .ref x4), (5, .int x5), (6, .int x6)] dX11_knock_62 (by decide) rfl ?_
    refine E_iload 0 dX11_knock_64 rfl ?_
    refine E_iconst (-1 : Int32) dX11_knock_66 (by decide) ?_
    refine E_icmp_eq 101 dX11_knock_67 (by decide) (fun c => ?_) (fun c => ?_)
    · rw [if_pos c] at h
      exact E_lv [1, 2, 3, 4, 5] rfl (w_X11_knock_101 hs37 hmx3 hmx4 h)
    · rw [if_neg c] at h
      refine E_aload 3 dX11_knock_70 rfl ?_
      refine E_iload 5 dX11_knock_72 rfl ?_
      obtain ⟨d39, v44, σ40, hD41, hC42, h⟩ := h
      have hs43 := hC42.1.2.2.2.1 hs37
      refine E_callV (As := [.int x6]) (rest := []) (r1 := (some (.int v44))) (b := x4) dX11_knock_74 ok_X6_doneWeek in_X6_doneWeek se_X6_doneWeek ml_X11_230 hD41 rfl rfl (Nat.le_of_ble_eq_true rfl) (rn_k hs37 hmx4) (rn_n hs37 hmx4 (j := 0) (by decide)) (by decide) rfl (by decide +kernel) hC42 ?_
      refine E_istore [(8, .int v44), (7, .int v38), (0, .ref 0), (3, .ref x3), (4, .ref x4), (5, .int x5), (6, .int x6)] dX11_knock_77 (by decide) rfl ?_
      refine E_iload 5 dX11_knock_79 rfl ?_
      refine E_iload 0 dX11_knock_81 rfl ?_
      refine E_iconst (-1 : Int32) dX11_knock_83 (by decide) ?_
      refine E_icmp_ne 93 dX11_knock_84 (by decide) (fun c => ?_) (fun c => ?_)
      · rw [if_neg c] at h
        refine E_iload 0 dX11_knock_93 rfl ?_
        exact E_lv [2, 3, 4, 6, 1] rfl (w_X11_knock_95 hs43 hmx3 hmx4 h)
      · rw [if_pos c] at h
        refine E_sipush (260 : Int32) dX11_knock_87 (by decide) ?_
        refine E_goto 95 dX11_knock_90 (by decide) ?_
        exact E_lv [2, 3, 4, 6, 1] rfl (w_X11_knock_95 hs43 hmx3 hmx4 h)
def W_X11_wish_0 (X : Sx) (l : Launch) (D : Nat) (x1 : Int32) (σ : AH) (r : Option Value) (σ' : AH) : Prop := ∃ d1 : Nat, ∃ v6 : Int32, ∃ σ2 : AH, d1 + 1 ≤ D ∧ Call X l m_X11_isPlot d1 [.ref 0, .int x1] σ (some (.int v6)) σ2 ∧ (if v6 = 0 then ∃ d44 : Nat, ∃ v49 : Int32, ∃ σ45 : AH, d44 + 1 ≤ D ∧ Call X l m_X11_answer d44 [.ref 0, .int (-2 : Int32)] σ2 (some (.int v49)) σ45 ∧ (r = some (.int v49) ∧ σ' = σ45) else ∃ d7 : Nat, ∃ v12 : Int32, ∃ σ8 : AH, d7 + 1 ≤ D ∧ Call X l m_X11_firstStart d7 [.ref 0, .int x1, .int (260 : Int32)] σ2 (some (.int v12)) σ8 ∧ (if v12 = (-1 : Int32) then ∃ d13 : Nat, ∃ v18 : Int32, ∃ σ14 : AH, d13 + 1 ≤ D ∧ Call X l m_X1_isWished d13 [.ref 68, .int x1] σ8 (some (.int v18)) σ14 ∧ (if v18 = 0 then (if (gI σ14 68 3) < (6 : Int32) then vp_in (gI σ14 68 3) 6 ∧ ∃ d20 : Nat, ∃ v25 : Int32, ∃ σ21 : AH, d20 + 1 ≤ D ∧ Call X l m_X11_answer d20 [.ref 0, .int (gI (sI (sI σ14 69 ((gI σ14 68 3).toNatClampNeg) x1) 68 3 ((gI (sI σ14 69 ((gI σ14 68 3).toNatClampNeg) x1) 68 3) + (1 : Int32))) 68 3)] (sI (sI σ14 69 ((gI σ14 68 3).toNatClampNeg) x1) 68 3 ((gI (sI σ14 69 ((gI σ14 68 3).toNatClampNeg) x1) 68 3) + (1 : Int32))) (some (.int v25)) σ21 ∧ (r = some (.int v25) ∧ σ' = σ21) else ∃ d26 : Nat, ∃ v31 : Int32, ∃ σ27 : AH, d26 + 1 ≤ D ∧ Call X l m_X11_answer d26 [.ref 0, .int (-5 : Int32)] σ14 (some (.int v31)) σ27 ∧ (r = some (.int v31) ∧ σ' = σ27)) else ∃ d32 : Nat, ∃ v37 : Int32, ∃ σ33 : AH, d32 + 1 ≤ D ∧ Call X l m_X11_answer d32 [.ref 0, .int (-4 : Int32)] σ14 (some (.int v37)) σ33 ∧ (r = some (.int v37) ∧ σ' = σ33)) else ∃ d38 : Nat, ∃ v43 : Int32, ∃ σ39 : AH, d38 + 1 ≤ D ∧ Call X l m_X11_answer d38 [.ref 0, .int (-3 : Int32)] σ8 (some (.int v43)) σ39 ∧ (r = some (.int v43) ∧ σ' = σ39)))
set_option maxRecDepth 100000 in
theorem w_X11_wish_0 {X : Sx} {l : Launch} {D : Nat} {x1 : Int32} {σ : AH} {r : Option Value} {σ' : AH} (hs : Sh σ) (h : W_X11_wish_0 X l D x1 σ r σ') : E X l m_X11_wish D 0 [(0, .ref 0), (1, .int x1)] [] σ r σ' := by
  unfold W_X11_wish_0 at h
  refine E_aload_n 0 dX11_wish_0 rfl rfl ?_
  refine E_iload_n 1 dX11_wish_1 rfl rfl ?_
  obtain ⟨d1, v6, σ2, hD3, hC4, h⟩ := h
  have hs5 := hC4.1.2.2.2.1 hs
  refine E_callV (As := [.int x1]) (rest := []) (r1 := (some (.int v6))) (b := 0) dX11_wish_2 ok_X11_isPlot in_X11_isPlot se_X11_isPlot ml_X11_185 hD3 rfl rfl (Nat.le_of_ble_eq_true rfl) (sk_0 hs) (sn hs (by decide)) (by decide) rfl (by decide +kernel) hC4 ?_
  refine E_if_ne 15 dX11_wish_5 (by decide) (fun c => ?_) (fun c => ?_)
  · rw [if_neg c] at h
    refine E_aload_n 0 dX11_wish_15 rfl rfl ?_
    refine E_iload_n 1 dX11_wish_16 rfl rfl ?_
    refine E_sipush (260 : Int32) dX11_wish_17 (by decide) ?_
    obtain ⟨d7, v12, σ8, hD9, hC10, h⟩ := h
    have hs11 := hC10.1.2.2.2.1 hs5
    refine E_callV (As := [.int x1, .int (260 : Int32)]) (rest := []) (r1 := (some (.int v12))) (b := 0) dX11_wish_20 ok_X11_firstStart in_X11_firstStart se_X11_firstStart ml_X11_220 hD9 rfl rfl (Nat.le_of_ble_eq_true rfl) (sk_0 hs5) (sn hs5 (by decide)) (by decide) rfl (by decide +kernel) hC10 ?_
    refine E_iconst (-1 : Int32) dX11_wish_23 (by decide) ?_
    refine E_icmp_eq 34 dX11_wish_24 (by decide) (fun c => ?_) (fun c => ?_)
    · rw [if_pos c] at h
      refine E_aload_n 0 dX11_wish_34 rfl rfl ?_
      refine E_getR 68 dX11_wish_35 fl_X11_60 rfl (sk_0 hs11) (sn hs11 (by decide)) (sr_0_7 hs11) ?_
      refine E_iload_n 1 dX11_wish_38 rfl rfl ?_
      obtain ⟨d13, v18, σ14, hD15, hC16, h⟩ := h
      have hs17 := hC16.1.2.2.2.1 hs11
      refine E_callV (As := [.int x1]) (rest := []) (r1 := (some (.int v18))) (b := 68) dX11_wish_39 ok_X1_isWished in_X1_isWished se_X1_isWished ml_X11_188 hD15 rfl rfl (Nat.le_of_ble_eq_true rfl) (sk_68 hs11) (sn hs11 (by decide)) (by decide) rfl (by decide +kernel) hC16 ?_
      refine E_if_eq 52 dX11_wish_42 (by decide) (fun c => ?_) (fun c => ?_)
      · rw [if_pos c] at h
        refine E_aload_n 0 dX11_wish_52 rfl rfl ?_
        refine E_getR 68 dX11_wish_53 fl_X11_60 rfl (sk_0 hs17) (sn hs17 (by decide)) (sr_0_7 hs17) ?_
        refine E_getI dX11_wish_56 fl_X11_233 rfl (sk_68 hs17) (sn hs17 (by decide)) ?_
        refine E_bipush (6 : Int32) dX11_wish_59 (by decide) ?_
        refine E_icmp_lt 71 dX11_wish_61 (by decide) (fun c => ?_) (fun c => ?_)
        · rw [if_pos c] at h
          refine E_aload_n 0 dX11_wish_71 rfl rfl ?_
          refine E_getR 68 dX11_wish_72 fl_X11_60 rfl (sk_0 hs17) (sn hs17 (by decide)) (sr_0_7 hs17) ?_
          refine E_getR 69 dX11_wish_75 fl_X11_236 rfl (sk_68 hs17) (sn hs17 (by decide)) (sr_68_2 hs17) ?_
          refine E_aload_n 0 dX11_wish_78 rfl rfl ?_
          refine E_getR 68 dX11_wish_79 fl_X11_60 rfl (sk_0 hs17) (sn hs17 (by decide)) (sr_0_7 hs17) ?_
          refine E_getI dX11_wish_82 fl_X11_233 rfl (sk_68 hs17) (sn hs17 (by decide)) ?_
          refine E_iload_n 1 dX11_wish_85 rfl rfl ?_
          obtain ⟨g19, h⟩ := h
          refine E_iast2 ((gI σ14 68 3).toNatClampNeg) dX11_wish_86 (sk_69 hs17) (sn hs17 (by decide)) (Or.inl (by decide)) g19 rfl ?_
          refine E_aload_n 0 dX11_wish_87 rfl rfl ?_
          refine E_getR 68 dX11_wish_88 fl_X11_60 rfl (sk_0 hs17) (sn hs17 (by decide)) (sr_0_7 hs17) ?_
          refine E_dup dX11_wish_91 rfl ?_
          refine E_getI dX11_wish_92 fl_X11_233 rfl (sk_68 hs17) (sn hs17 (by decide)) ?_
          refine E_iconst (1 : Int32) dX11_wish_95 (by decide) ?_
          refine E_iadd dX11_wish_96 ?_
          refine E_putI dX11_wish_97 fl_X11_233 rfl (Or.inl rfl) (sk_68 hs17) (sn hs17 (by decide)) (Or.inl (by decide)) rfl rfl ?_
          refine E_aload_n 0 dX11_wish_100 rfl rfl ?_
          refine E_aload_n 0 dX11_wish_101 rfl rfl ?_
          refine E_getR 68 dX11_wish_102 fl_X11_60 rfl (sk_0 hs17) (sn hs17 (by decide)) (sr_0_7 hs17) ?_
          refine E_getI dX11_wish_105 fl_X11_233 rfl (sk_68 hs17) (sn hs17 (by decide)) ?_
          obtain ⟨d20, v25, σ21, hD22, hC23, h⟩ := h
          have hs24 := hC23.1.2.2.2.1 hs17
          refine E_callV (As := [.int (gI (sI (sI σ14 69 ((gI σ14 68 3).toNatClampNeg) x1) 68 3 ((gI (sI σ14 69 ((gI σ14 68 3).toNatClampNeg) x1) 68 3) + (1 : Int32))) 68 3)]) (rest := []) (r1 := (some (.int v25))) (b := 0) dX11_wish_108 ok_X11_answer in_X11_answer se_X11_answer ml_X11_105 hD22 rfl rfl (Nat.le_of_ble_eq_true rfl) (sk_0 hs17) (sn hs17 (by decide)) (by decide) rfl (by decide +kernel) hC23 ?_
          obtain ⟨rfl, rfl⟩ := h
          exact E_iret dX11_wish_111 rfl
        · rw [if_neg c] at h
          refine E_aload_n 0 dX11_wish_64 rfl rfl ?_
          refine E_bipush (-5 : Int32) dX11_wish_65 (by decide) ?_
          obtain ⟨d26, v31, σ27, hD28, hC29, h⟩ := h
          have hs30 := hC29.1.2.2.2.1 hs17
          refine E_callV (As := [.int (-5 : Int32)]) (rest := []) (r1 := (some (.int v31))) (b := 0) dX11_wish_67 ok_X11_answer in_X11_answer se_X11_answer ml_X11_105 hD28 rfl rfl (Nat.le_of_ble_eq_true rfl) (sk_0 hs17) (sn hs17 (by decide)) (by decide) rfl (by decide +kernel) hC29 ?_
          obtain ⟨rfl, rfl⟩ := h
          exact E_iret dX11_wish_70 rfl
      · rw [if_neg c] at h
        refine E_aload_n 0 dX11_wish_45 rfl rfl ?_
        refine E_bipush (-4 : Int32) dX11_wish_46 (by decide) ?_
        obtain ⟨d32, v37, σ33, hD34, hC35, h⟩ := h
        have hs36 := hC35.1.2.2.2.1 hs17
        refine E_callV (As := [.int (-4 : Int32)]) (rest := []) (r1 := (some (.int v37))) (b := 0) dX11_wish_48 ok_X11_answer in_X11_answer se_X11_answer ml_X11_105 hD34 rfl rfl (Nat.le_of_ble_eq_true rfl) (sk_0 hs17) (sn hs17 (by decide)) (by decide) rfl (by decide +kernel) hC35 ?_
        obtain ⟨rfl, rfl⟩ := h
        exact E_iret dX11_wish_51 rfl
    · rw [if_neg c] at h
      refine E_aload_n 0 dX11_wish_27 rfl rfl ?_
      refine E_bipush (-3 : Int32) dX11_wish_28 (by decide) ?_
      obtain ⟨d38, v43, σ39, hD40, hC41, h⟩ := h
      have hs42 := hC41.1.2.2.2.1 hs11
      refine E_callV (As := [.int (-3 : Int32)]) (rest := []) (r1 := (some (.int v43))) (b := 0) dX11_wish_30 ok_X11_answer in_X11_answer se_X11_answer ml_X11_105 hD40 rfl rfl (Nat.le_of_ble_eq_true rfl) (sk_0 hs11) (sn hs11 (by decide)) (by decide) rfl (by decide +kernel) hC41 ?_
      obtain ⟨rfl, rfl⟩ := h
      exact E_iret dX11_wish_33 rfl
  · rw [if_pos c] at h
    refine E_aload_n 0 dX11_wish_8 rfl rfl ?_
    refine E_bipush (-2 : Int32) dX11_wish_9 (by decide) ?_
    obtain ⟨d44, v49, σ45, hD46, hC47, h⟩ := h
    have hs48 := hC47.1.2.2.2.1 hs5
    refine E_callV (As := [.int (-2 : Int32)]) (rest := []) (r1 := (some (.int v49))) (b := 0) dX11_wish_11 ok_X11_answer in_X11_answer se_X11_answer ml_X11_105 hD46 rfl rfl (Nat.le_of_ble_eq_true rfl) (sk_0 hs5) (sn hs5 (by decide)) (by decide) rfl (by decide +kernel) hC47 ?_
    obtain ⟨rfl, rfl⟩ := h
    exact E_iret dX11_wish_14 rfl
def W_X11_clear_0 (X : Sx) (l : Launch) (D : Nat) (σ : AH) (r : Option Value) (σ' : AH) : Prop := (r = some (.int (gI σ 68 3)) ∧ σ' = (sI σ 68 3 (0 : Int32)))
set_option maxRecDepth 100000 in
theorem w_X11_clear_0 {X : Sx} {l : Launch} {D : Nat} {σ : AH} {r : Option Value} {σ' : AH} (hs : Sh σ) (h : W_X11_clear_0 X l D σ r σ') : E X l m_X11_clear D 0 [(0, .ref 0)] [] σ r σ' := by
  unfold W_X11_clear_0 at h
  refine E_aload_n 0 dX11_clear_0 rfl rfl ?_
  refine E_getR 68 dX11_clear_1 fl_X11_60 rfl (sk_0 hs) (sn hs (by decide)) (sr_0_7 hs) ?_
  refine E_getI dX11_clear_4 fl_X11_233 rfl (sk_68 hs) (sn hs (by decide)) ?_
  refine E_istore_n [(1, .int (gI σ 68 3)), (0, .ref 0)] dX11_clear_7 rfl (by decide) rfl ?_
  refine E_aload_n 1 dX11_clear_8 rfl rfl ?_
  refine E_getR 68 dX11_clear_9 fl_X11_60 rfl (sk_0 hs) (sn hs (by decide)) (sr_0_7 hs) ?_
  refine E_iconst (0 : Int32) dX11_clear_12 (by decide) ?_
  refine E_putI dX11_clear_13 fl_X11_233 rfl (Or.inl rfl) (sk_68 hs) (sn hs (by decide)) (Or.inl (by decide)) rfl rfl ?_
  refine E_iload_n 0 dX11_clear_16 rfl rfl ?_
  obtain ⟨rfl, rfl⟩ := h
  exact E_iret dX11_clear_17 rfl
def W_X11_best_0 (X : Sx) (l : Launch) (D : Nat) (x1 : Int32) (σ : AH) (r : Option Value) (σ' : AH) : Prop := ∃ d1 : Nat, ∃ v6 : Int32, ∃ σ2 : AH, d1 + 1 ≤ D ∧ Call X l m_X11_isIn d1 [.int x1, .int (0 : Int32), .int (19 : Int32)] σ (some (.int v6)) σ2 ∧ (if v6 = 0 then (r = some (.int (-1 : Int32)) ∧ σ' = σ2) else ∃ d7 : Nat, ∃ v12 : Int32, ∃ σ8 : AH, d7 + 1 ≤ D ∧ Call X l m_X11_knowing d7 [.ref 0, .int (x1 * (13 : Int32))] σ2 (some (.int v12)) σ8 ∧ ∃ d13 : Nat, ∃ σ14 : AH, d13 + 1 ≤ D ∧ Call X l m_X1_openQuarter d13 [.ref 68, .int x1, .int v12, .int (gI σ8 0 12)] σ8 none σ14 ∧ ∃ d18 : Nat, ∃ σ19 : AH, d18 + 1 ≤ D ∧ Call X l m_X1_forget d18 [.ref 68] σ14 none σ19 ∧ E X l m_X11_best D 53 [(0, .ref 0), (2, .int (((1 : Int32) <<< ((gI σ19 68 3) &&& 31)) - (1 : Int32))), (3, .int (((1 : Int32) <<< ((gI σ19 68 3) &&& 31)) - (1 : Int32)))] [] σ19 r σ')
set_option maxRecDepth 100000 in
theorem w_X11_best_0 {X : Sx} {l : Launch} {D : Nat} {x1 : Int32} {σ : AH} {r : Option Value} {σ' : AH} (hs : Sh σ) (h : W_X11_best_0 X l D x1 σ r σ') : E X l m_X11_best D 0 [(0, .ref 0), (1, .int x1)] [] σ r σ' := by
  unfold W_X11_best_0 at h
  refine E_iload_n 1 dX11_best_0 rfl rfl ?_
  refine E_iconst (0 : Int32) dX11_best_1 (by decide) ?_
  refine E_bipush (19 : Int32) dX11_best_2 (by decide) ?_
  obtain ⟨d1, v6, σ2, hD3, hC4, h⟩ := h
  have hs5 := hC4.1.2.2.2.1 hs
  refine E_callS (As := [.int x1, .int (0 : Int32), .int (19 : Int32)]) (rest := []) (r1 := (some (.int v6))) dX11_best_4 ok_X11_isIn is_X11_isIn ml_X11_124 hD3 rfl rfl (Nat.le_of_ble_eq_true rfl) (by decide +kernel) hC4 ?_
  refine E_if_ne 12 dX11_best_7 (by decide) (fun c => ?_) (fun c => ?_)
  · rw [if_neg c] at h
    refine E_aload_n 0 dX11_best_12 rfl rfl ?_
    refine E_getR 68 dX11_best_13 fl_X11_60 rfl (sk_0 hs5) (sn hs5 (by decide)) (sr_0_7 hs5) ?_
    refine E_iload_n 1 dX11_best_16 rfl rfl ?_
    refine E_aload_n 0 dX11_best_17 rfl rfl ?_
    refine E_iload_n 1 dX11_best_18 rfl rfl ?_
    refine E_bipush (13 : Int32) dX11_best_19 (by decide) ?_
    refine E_imul dX11_best_21 ?_
    obtain ⟨d7, v12, σ8, hD9, hC10, h⟩ := h
    have hs11 := hC10.1.2.2.2.1 hs5
    refine E_callV (As := [.int (x1 * (13 : Int32))]) (rest := [.int x1, .ref 68]) (r1 := (some (.int v12))) (b := 0) dX11_best_22 ok_X11_knowing in_X11_knowing se_X11_knowing ml_X11_239 hD9 rfl rfl (Nat.le_of_ble_eq_true rfl) (sk_0 hs5) (sn hs5 (by decide)) (by decide) rfl (by decide +kernel) hC10 ?_
    refine E_aload_n 0 dX11_best_25 rfl rfl ?_
    refine E_getI dX11_best_26 fl_X11_121 rfl (sk_0 hs11) (sn hs11 (by decide)) ?_
    obtain ⟨d13, σ14, hD15, hC16, h⟩ := h
    have hs17 := hC16.1.2.2.2.1 hs11
    refine E_callV (As := [.int x1, .int v12, .int (gI σ8 0 12)]) (rest := []) (r1 := none) (b := 68) dX11_best_29 ok_X1_openQuarter in_X1_openQuarter se_X1_openQuarter ml_X11_242 hD15 rfl rfl (Nat.le_of_ble_eq_true rfl) (sk_68 hs11) (sn hs11 (by decide)) (by decide) rfl (by decide +kernel) hC16 ?_
    refine E_aload_n 0 dX11_best_32 rfl rfl ?_
    refine E_getR 68 dX11_best_33 fl_X11_60 rfl (sk_0 hs17) (sn hs17 (by decide)) (sr_0_7 hs17) ?_
    obtain ⟨d18, σ19, hD20, hC21, h⟩ := h
    have hs22 := hC21.1.2.2.2.1 hs17
    refine E_callV (As := []) (rest := []) (r1 := none) (b := 68) dX11_best_36 ok_X1_forget in_X1_forget se_X1_forget ml_X11_245 hD20 rfl rfl (Nat.le_of_ble_eq_true rfl) (sk_68 hs17) (sn hs17 (by decide)) (by decide) rfl (by decide +kernel) hC21 ?_
    refine E_iconst (1 : Int32) dX11_best_39 (by decide) ?_
    refine E_aload_n 0 dX11_best_40 rfl rfl ?_
    refine E_getR 68 dX11_best_41 fl_X11_60 rfl (sk_0 hs22) (sn hs22 (by decide)) (sr_0_7 hs22) ?_
    refine E_getI dX11_best_44 fl_X11_233 rfl (sk_68 hs22) (sn hs22 (by decide)) ?_
    refine E_ishl dX11_best_47 ?_
    refine E_iconst (1 : Int32) dX11_best_48 (by decide) ?_
    refine E_isub dX11_best_49 ?_
    refine E_istore_n [(2, .int (((1 : Int32) <<< ((gI σ19 68 3) &&& 31)) - (1 : Int32))), (0, .ref 0), (1, .int x1)] dX11_best_50 rfl (by decide) rfl ?_
    refine E_iload_n 0 dX11_best_51 rfl rfl ?_
    refine E_istore_n [(3, .int (((1 : Int32) <<< ((gI σ19 68 3) &&& 31)) - (1 : Int32))), (2, .int (((1 : Int32) <<< ((gI σ19 68 3) &&& 31)) - (1 : Int32))), (0, .ref 0), (1, .int x1)] dX11_best_52 rfl (by decide) rfl ?_
    exact E_lv [2, 1, 0] rfl h
  · rw [if_pos c] at h
    refine E_iconst (-1 : Int32) dX11_best_10 (by decide) ?_
    obtain ⟨rfl, rfl⟩ := h
    exact E_iret dX11_best_11 rfl
def W_X11_best_53 (X : Sx) (l : Launch) (D : Nat) (x2 : Int32) (x3 : Int32) (σ : AH) (r : Option Value) (σ' : AH) : Prop := (if x3 < 0 then (r = some (.int (gI σ 68 12)) ∧ σ' = σ) else ∃ d23 : Nat, ∃ σ24 : AH, d23 + 1 ≤ D ∧ Call X l m_X1_playTime d23 [.ref 68, .int (0 : Int32), .int x3] σ none σ24 ∧ E X l m_X11_best D 69 [(0, .ref 0), (2, .int x2), (3, .int x3), (4, .int x2)] [] σ24 r σ')
set_option maxRecDepth 100000 in
theorem w_X11_best_53 {X : Sx} {l : Launch} {D : Nat} {x2 : Int32} {x3 : Int32} {σ : AH} {r : Option Value} {σ' : AH} (hs : Sh σ) (h : W_X11_best_53 X l D x2 x3 σ r σ') : E X l m_X11_best D 53 [(0, .ref 0), (2, .int x2), (3, .int x3)] [] σ r σ' := by
  unfold W_X11_best_53 at h
  refine E_iload_n 2 dX11_best_53 rfl rfl ?_
  refine E_if_lt 173 dX11_best_54 (by decide) (fun c => ?_) (fun c => ?_)
  · rw [if_pos c] at h
    refine E_aload_n 0 dX11_best_173 rfl rfl ?_
    refine E_getR 68 dX11_best_174 fl_X11_60 rfl (sk_0 hs) (sn hs (by decide)) (sr_0_7 hs) ?_
    refine E_getI dX11_best_177 fl_X11_254 rfl (sk_68 hs) (sn hs (by decide)) ?_
    obtain ⟨rfl, rfl⟩ := h
    exact E_iret dX11_best_180 rfl
  · rw [if_neg c] at h
    refine E_aload_n 0 dX11_best_57 rfl rfl ?_
    refine E_getR 68 dX11_best_58 fl_X11_60 rfl (sk_0 hs) (sn hs (by decide)) (sr_0_7 hs) ?_
    refine E_iconst (0 : Int32) dX11_best_61 (by decide) ?_
    refine E_iload_n 2 dX11_best_62 rfl rfl ?_
    obtain ⟨d23, σ24, hD25, hC26, h⟩ := h
    have hs27 := hC26.1.2.2.2.1 hs
    refine E_callV (As := [.int (0 : Int32), .int x3]) (rest := []) (r1 := none) (b := 68) dX11_best_63 ok_X1_playTime in_X1_playTime se_X1_playTime ml_X11_248 hD25 rfl rfl (Nat.le_of_ble_eq_true rfl) (sk_68 hs) (sn hs (by decide)) (by decide) rfl (by decide +kernel) hC26 ?_
    refine E_iload_n 1 dX11_best_66 rfl rfl ?_
    refine E_istore [(4, .int x2), (0, .ref 0), (2, .int x2), (3, .int x3)] dX11_best_67 (by decide) rfl ?_
    exact E_lv [1, 2, 3, 0] rfl h
def W_X11_best_161 (X : Sx) (l : Launch) (D : Nat) (x2 : Int32) (x3 : Int32) (x4 : Int32) (σ : AH) (r : Option Value) (σ' : AH) : Prop := E X l m_X11_best D 69 [(0, .ref 0), (2, .int x2), (3, .int x3), (4, .int (x4 + (-1)))] [] σ r σ'
set_option maxRecDepth 100000 in
theorem w_X11_best_161 {X : Sx} {l : Launch} {D : Nat} {x2 : Int32} {x3 : Int32} {x4 : Int32} {σ : AH} {r : Option Value} {σ' : AH} (hs : Sh σ) (h : W_X11_best_161 X l D x2 x3 x4 σ r σ') : E X l m_X11_best D 161 [(0, .ref 0), (2, .int x2), (3, .int x3), (4, .int x4)] [] σ r σ' := by
  unfold W_X11_best_161 at h
  refine E_iinc 3 (x4 + (-1)) [(4, .int (x4 + (-1))), (0, .ref 0), (2, .int x2), (3, .int x3)] dX11_best_161 rfl (congrArg (x4 + ·) (by decide : Int32.ofInt (-1) = -1)) (by decide) rfl ?_
  refine E_goto 69 dX11_best_164 (by decide) ?_
  exact E_lv [1, 2, 3, 0] rfl h
def W_X11_best_69 (X : Sx) (l : Launch) (D : Nat) (x2 : Int32) (x3 : Int32) (x4 : Int32) (σ : AH) (r : Option Value) (σ' : AH) : Prop := (if x4 < 0 then E X l m_X11_best D 53 [(0, .ref 0), (2, .int x2), (3, .int (x3 + (-1)))] [] σ r σ' else (if (x4 &&& x3) = 0 then ∃ d28 : Nat, ∃ σ29 : AH, d28 + 1 ≤ D ∧ Call X l m_X1_playTime d28 [.ref 68, .int (1 : Int32), .int x4] σ none σ29 ∧ E X l m_X11_best D 103 [(0, .ref 0), (2, .int x2), (3, .int x3), (4, .int x4), (5, .int (x3 ||| x4)), (6, .int x2)] [] σ29 r σ' else W_X11_best_161 X l D x2 x3 x4 σ r σ'))
set_option maxRecDepth 100000 in
theorem w_X11_best_69 {X : Sx} {l : Launch} {D : Nat} {x2 : Int32} {x3 : Int32} {x4 : Int32} {σ : AH} {r : Option Value} {σ' : AH} (hs : Sh σ) (h : W_X11_best_69 X l D x2 x3 x4 σ r σ') : E X l m_X11_best D 69 [(0, .ref 0), (2, .int x2), (3, .int x3), (4, .int x4)] [] σ r σ' := by
  unfold W_X11_best_69 at h
  refine E_iload 3 dX11_best_69 rfl ?_
  refine E_if_lt 167 dX11_best_71 (by decide) (fun c => ?_) (fun c => ?_)
  · rw [if_pos c] at h
    refine E_iinc 2 (x3 + (-1)) [(3, .int (x3 + (-1))), (0, .ref 0), (2, .int x2), (4, .int x4)] dX11_best_167 rfl (congrArg (x3 + ·) (by decide : Int32.ofInt (-1) = -1)) (by decide) rfl ?_
    refine E_goto 53 dX11_best_170 (by decide) ?_
    exact E_lv [1, 2, 0] rfl h
  · rw [if_neg c] at h
    refine E_iload 3 dX11_best_74 rfl ?_
    refine E_iload_n 2 dX11_best_76 rfl rfl ?_
    refine E_iand dX11_best_77 ?_
    refine E_if_eq 84 dX11_best_78 (by decide) (fun c => ?_) (fun c => ?_)
    · rw [if_pos c] at h
      refine E_aload_n 0 dX11_best_84 rfl rfl ?_
      refine E_getR 68 dX11_best_85 fl_X11_60 rfl (sk_0 hs) (sn hs (by decide)) (sr_0_7 hs) ?_
      refine E_iconst (1 : Int32) dX11_best_88 (by decide) ?_
      refine E_iload 3 dX11_best_89 rfl ?_
      obtain ⟨d28, σ29, hD30, hC31, h⟩ := h
      have hs32 := hC31.1.2.2.2.1 hs
      refine E_callV (As := [.int (1 : Int32), .int x4]) (rest := []) (r1 := none) (b := 68) dX11_best_91 ok_X1_playTime in_X1_playTime se_X1_playTime ml_X11_248 hD30 rfl rfl (Nat.le_of_ble_eq_true rfl) (sk_68 hs) (sn hs (by decide)) (by decide) rfl (by decide +kernel) hC31 ?_
      refine E_iload_n 2 dX11_best_94 rfl rfl ?_
      refine E_iload 3 dX11_best_95 rfl ?_
      refine E_ior dX11_best_97 ?_
      refine E_istore [(5, .int (x3 ||| x4)), (0, .ref 0), (2, .int x2), (3, .int x3), (4, .int x4)] dX11_best_98 (by decide) rfl ?_
      refine E_iload_n 2 dX11_best_100 rfl rfl ?_
      refine E_istore [(6, .int x2), (5, .int (x3 ||| x4)), (0, .ref 0), (2, .int x2), (3, .int x3), (4, .int x4)] dX11_best_101 (by decide) rfl ?_
      exact E_lv [2, 3, 4, 5, 1, 0] rfl h
    · rw [if_neg c] at h
      refine E_goto 161 dX11_best_81 (by decide) ?_
      exact E_lv [0, 1, 2, 3] rfl (w_X11_best_161 hs h)
def W_X11_best_155 (X : Sx) (l : Launch) (D : Nat) (x2 : Int32) (x3 : Int32) (x4 : Int32) (x5 : Int32) (x6 : Int32) (σ : AH) (r : Option Value) (σ' : AH) : Prop := E X l m_X11_best D 103 [(0, .ref 0), (2, .int x2), (3, .int x3), (4, .int x4), (5, .int x5), (6, .int (x6 + (-1)))] [] σ r σ'
set_option maxRecDepth 100000 in
theorem w_X11_best_155 {X : Sx} {l : Launch} {D : Nat} {x2 : Int32} {x3 : Int32} {x4 : Int32} {x5 : Int32} {x6 : Int32} {σ : AH} {r : Option Value} {σ' : AH} (hs : Sh σ) (h : W_X11_best_155 X l D x2 x3 x4 x5 x6 σ r σ') : E X l m_X11_best D 155 [(0, .ref 0), (2, .int x2), (3, .int x3), (4, .int x4), (5, .int x5), (6, .int x6)] [] σ r σ' := by
  unfold W_X11_best_155 at h
  refine E_iinc 5 (x6 + (-1)) [(6, .int (x6 + (-1))), (0, .ref 0), (2, .int x2), (3, .int x3), (4, .int x4), (5, .int x5)] dX11_best_155 rfl (congrArg (x6 + ·) (by decide : Int32.ofInt (-1) = -1)) (by decide) rfl ?_
  refine E_goto 103 dX11_best_158 (by decide) ?_
  exact E_lv [1, 2, 3, 4, 5, 0] rfl h
def W_X11_best_103 (X : Sx) (l : Launch) (D : Nat) (x2 : Int32) (x3 : Int32) (x4 : Int32) (x5 : Int32) (x6 : Int32) (σ : AH) (r : Option Value) (σ' : AH) : Prop := (if x6 < 0 then W_X11_best_161 X l D x2 x3 x4 σ r σ' else (if (x6 &&& x5) = 0 then ∃ d33 : Nat, ∃ v38 : Int32, ∃ σ34 : AH, d33 + 1 ≤ D ∧ Call X l m_X1_roomsOfAll d33 [.ref 68, .int (x5 ||| x6)] σ (some (.int v38)) σ34 ∧ (if v38 < (gI σ34 68 12) then W_X11_best_155 X l D x2 x3 x4 x5 x6 σ34 r σ' else ∃ d39 : Nat, ∃ σ40 : AH, d39 + 1 ≤ D ∧ Call X l m_X1_playTime d39 [.ref 68, .int (2 : Int32), .int x6] σ34 none σ40 ∧ ∃ d44 : Nat, ∃ σ45 : AH, d44 + 1 ≤ D ∧ Call X l m_X1_keepIfBetter d44 [.ref 68] σ40 none σ45 ∧ W_X11_best_155 X l D x2 x3 x4 x5 x6 σ45 r σ') else W_X11_best_155 X l D x2 x3 x4 x5 x6 σ r σ'))
set_option maxRecDepth 100000 in
theorem w_X11_best_103 {X : Sx} {l : Launch} {D : Nat} {x2 : Int32} {x3 : Int32} {x4 : Int32} {x5 : Int32} {x6 : Int32} {σ : AH} {r : Option Value} {σ' : AH} (hs : Sh σ) (h : W_X11_best_103 X l D x2 x3 x4 x5 x6 σ r σ') : E X l m_X11_best D 103 [(0, .ref 0), (2, .int x2), (3, .int x3), (4, .int x4), (5, .int x5), (6, .int x6)] [] σ r σ' := by
  unfold W_X11_best_103 at h
  refine E_iload 5 dX11_best_103 rfl ?_
  refine E_if_lt 161 dX11_best_105 (by decide) (fun c => ?_) (fun c => ?_)
  · rw [if_pos c] at h
    exact E_lv [0, 1, 2, 3] rfl (w_X11_best_161 hs h)
  · rw [if_neg c] at h
    refine E_iload 5 dX11_best_108 rfl ?_
    refine E_iload 4 dX11_best_110 rfl ?_
    refine E_iand dX11_best_112 ?_
    refine E_if_ne 155 dX11_best_113 (by decide) (fun c => ?_) (fun c => ?_)
    · rw [if_neg c] at h
      exact E_lv [0, 1, 2, 3, 4, 5] rfl (w_X11_best_155 hs h)
    · rw [if_pos c] at h
      refine E_aload_n 0 dX11_best_116 rfl rfl ?_
      refine E_getR 68 dX11_best_117 fl_X11_60 rfl (sk_0 hs) (sn hs (by decide)) (sr_0_7 hs) ?_
      refine E_iload 4 dX11_best_120 rfl ?_
      refine E_iload 5 dX11_best_122 rfl ?_
      refine E_ior dX11_best_124 ?_
      obtain ⟨d33, v38, σ34, hD35, hC36, h⟩ := h
      have hs37 := hC36.1.2.2.2.1 hs
      refine E_callV (As := [.int (x5 ||| x6)]) (rest := []) (r1 := (some (.int v38))) (b := 68) dX11_best_125 ok_X1_roomsOfAll in_X1_roomsOfAll se_X1_roomsOfAll ml_X11_251 hD35 rfl rfl (Nat.le_of_ble_eq_true rfl) (sk_68 hs) (sn hs (by decide)) (by decide) rfl (by decide +kernel) hC36 ?_
      refine E_aload_n 0 dX11_best_128 rfl rfl ?_
      refine E_getR 68 dX11_best_129 fl_X11_60 rfl (sk_0 hs37) (sn hs37 (by decide)) (sr_0_7 hs37) ?_
      refine E_getI dX11_best_132 fl_X11_254 rfl (sk_68 hs37) (sn hs37 (by decide)) ?_
      refine E_icmp_lt 155 dX11_best_135 (by decide) (fun c => ?_) (fun c => ?_)
      · rw [if_pos c] at h
        exact E_lv [0, 1, 2, 3, 4, 5] rfl (w_X11_best_155 hs37 h)
      · rw [if_neg c] at h
        refine E_aload_n 0 dX11_best_138 rfl rfl ?_
        refine E_getR 68 dX11_best_139 fl_X11_60 rfl (sk_0 hs37) (sn hs37 (by decide)) (sr_0_7 hs37) ?_
        refine E_iconst (2 : Int32) dX11_best_142 (by decide) ?_
        refine E_iload 5 dX11_best_143 rfl ?_
        obtain ⟨d39, σ40, hD41, hC42, h⟩ := h
        have hs43 := hC42.1.2.2.2.1 hs37
        refine E_callV (As := [.int (2 : Int32), .int x6]) (rest := []) (r1 := none) (b := 68) dX11_best_145 ok_X1_playTime in_X1_playTime se_X1_playTime ml_X11_248 hD41 rfl rfl (Nat.le_of_ble_eq_true rfl) (sk_68 hs37) (sn hs37 (by decide)) (by decide) rfl (by decide +kernel) hC42 ?_
        refine E_aload_n 0 dX11_best_148 rfl rfl ?_
        refine E_getR 68 dX11_best_149 fl_X11_60 rfl (sk_0 hs43) (sn hs43 (by decide)) (sr_0_7 hs43) ?_
        obtain ⟨d44, σ45, hD46, hC47, h⟩ := h
        have hs48 := hC47.1.2.2.2.1 hs43
        refine E_callV (As := []) (rest := []) (r1 := none) (b := 68) dX11_best_152 ok_X1_keepIfBetter in_X1_keepIfBetter se_X1_keepIfBetter ml_X11_257 hD46 rfl rfl (Nat.le_of_ble_eq_true rfl) (sk_68 hs43) (sn hs43 (by decide)) (by decide) rfl (by decide +kernel) hC47 ?_
        exact E_lv [0, 1, 2, 3, 4, 5] rfl (w_X11_best_155 hs48 h)
def W_X11_chosen_0 (X : Sx) (l : Launch) (D : Nat) (x1 : Int32) (σ : AH) (r : Option Value) (σ' : AH) : Prop := (if x1 = (-1 : Int32) then (r = some (.int (gI σ 68 13)) ∧ σ' = σ) else ∃ d1 : Nat, ∃ v6 : Int32, ∃ σ2 : AH, d1 + 1 ≤ D ∧ Call X l m_X11_isIn d1 [.int x1, .int (0 : Int32), .int ((gI σ 68 11) - (1 : Int32))] σ (some (.int v6)) σ2 ∧ (if v6 = 0 then (r = some (.int (-1 : Int32)) ∧ σ' = σ2) else vp_in x1 6 ∧ (r = some (.int (gI σ2 82 x1.toNatClampNeg)) ∧ σ' = σ2)))
set_option maxRecDepth 100000 in
theorem w_X11_chosen_0 {X : Sx} {l : Launch} {D : Nat} {x1 : Int32} {σ : AH} {r : Option Value} {σ' : AH} (hs : Sh σ) (h : W_X11_chosen_0 X l D x1 σ r σ') : E X l m_X11_chosen D 0 [(0, .ref 0), (1, .int x1)] [] σ r σ' := by
  unfold W_X11_chosen_0 at h
  refine E_iload_n 1 dX11_chosen_0 rfl rfl ?_
  refine E_iconst (-1 : Int32) dX11_chosen_1 (by decide) ?_
  refine E_icmp_ne 13 dX11_chosen_2 (by decide) (fun c => ?_) (fun c => ?_)
  · rw [if_neg c] at h
    refine E_iload_n 1 dX11_chosen_13 rfl rfl ?_
    refine E_iconst (0 : Int32) dX11_chosen_14 (by decide) ?_
    refine E_aload_n 0 dX11_chosen_15 rfl rfl ?_
    refine E_getR 68 dX11_chosen_16 fl_X11_60 rfl (sk_0 hs) (sn hs (by decide)) (sr_0_7 hs) ?_
    refine E_getI dX11_chosen_19 fl_X11_263 rfl (sk_68 hs) (sn hs (by decide)) ?_
    refine E_iconst (1 : Int32) dX11_chosen_22 (by decide) ?_
    refine E_isub dX11_chosen_23 ?_
    obtain ⟨d1, v6, σ2, hD3, hC4, h⟩ := h
    have hs5 := hC4.1.2.2.2.1 hs
    refine E_callS (As := [.int x1, .int (0 : Int32), .int ((gI σ 68 11) - (1 : Int32))]) (rest := []) (r1 := (some (.int v6))) dX11_chosen_24 ok_X11_isIn is_X11_isIn ml_X11_124 hD3 rfl rfl (Nat.le_of_ble_eq_true rfl) (by decide +kernel) hC4 ?_
    refine E_if_eq 42 dX11_chosen_27 (by decide) (fun c => ?_) (fun c => ?_)
    · rw [if_pos c] at h
      refine E_iconst (-1 : Int32) dX11_chosen_42 (by decide) ?_
      obtain ⟨rfl, rfl⟩ := h
      exact E_iret dX11_chosen_43 rfl
    · rw [if_neg c] at h
      refine E_aload_n 0 dX11_chosen_30 rfl rfl ?_
      refine E_getR 68 dX11_chosen_31 fl_X11_60 rfl (sk_0 hs5) (sn hs5 (by decide)) (sr_0_7 hs5) ?_
      refine E_getR 82 dX11_chosen_34 fl_X11_266 rfl (sk_68 hs5) (sn hs5 (by decide)) (sr_68_10 hs5) ?_
      refine E_iload_n 1 dX11_chosen_37 rfl rfl ?_
      obtain ⟨g7, h⟩ := h
      refine E_iald2 (x1.toNatClampNeg) dX11_chosen_38 (sk_82 hs5) (sn hs5 (by decide)) g7 rfl ?_
      refine E_goto 43 dX11_chosen_39 (by decide) ?_
      obtain ⟨rfl, rfl⟩ := h
      exact E_iret dX11_chosen_43 rfl
  · rw [if_pos c] at h
    refine E_aload_n 0 dX11_chosen_5 rfl rfl ?_
    refine E_getR 68 dX11_chosen_6 fl_X11_60 rfl (sk_0 hs) (sn hs (by decide)) (sr_0_7 hs) ?_
    refine E_getI dX11_chosen_9 fl_X11_260 rfl (sk_68 hs) (sn hs (by decide)) ?_
    obtain ⟨rfl, rfl⟩ := h
    exact E_iret dX11_chosen_12 rfl
def W_X11_bound_0 (X : Sx) (l : Launch) (D : Nat) (x1 : Int32) (σ : AH) (r : Option Value) (σ' : AH) : Prop := ∃ d1 : Nat, ∃ v6 : Int32, ∃ σ2 : AH, d1 + 1 ≤ D ∧ Call X l m_X11_isIn d1 [.int x1, .int (0 : Int32), .int (19 : Int32)] σ (some (.int v6)) σ2 ∧ (if v6 = 0 then (r = some (.int (-1 : Int32)) ∧ σ' = σ2) else ∃ d7 : Nat, ∃ v12 : Int32, ∃ σ8 : AH, d7 + 1 ≤ D ∧ Call X l m_X11_knowing d7 [.ref 0, .int (x1 * (13 : Int32))] σ2 (some (.int v12)) σ8 ∧ ∃ d13 : Nat, ∃ σ14 : AH, d13 + 1 ≤ D ∧ Call X l m_X1_openQuarter d13 [.ref 68, .int x1, .int v12, .int (gI σ8 0 12)] σ8 none σ14 ∧ E X l m_X11_bound D 36 [(0, .ref 0), (2, .int (0 : Int32)), (3, .int (0 : Int32))] [] σ14 r σ')
set_option maxRecDepth 100000 in
theorem w_X11_bound_0 {X : Sx} {l : Launch} {D : Nat} {x1 : Int32} {σ : AH} {r : Option Value} {σ' : AH} (hs : Sh σ) (h : W_X11_bound_0 X l D x1 σ r σ') : E X l m_X11_bound D 0 [(0, .ref 0), (1, .int x1)] [] σ r σ' := by
  unfold W_X11_bound_0 at h
  refine E_iload_n 1 dX11_bound_0 rfl rfl ?_
  refine E_iconst (0 : Int32) dX11_bound_1 (by decide) ?_
  refine E_bipush (19 : Int32) dX11_bound_2 (by decide) ?_
  obtain ⟨d1, v6, σ2, hD3, hC4, h⟩ := h
  have hs5 := hC4.1.2.2.2.1 hs
  refine E_callS (As := [.int x1, .int (0 : Int32), .int (19 : Int32)]) (rest := []) (r1 := (some (.int v6))) dX11_bound_4 ok_X11_isIn is_X11_isIn ml_X11_124 hD3 rfl rfl (Nat.le_of_ble_eq_true rfl) (by decide +kernel) hC4 ?_
  refine E_if_ne 12 dX11_bound_7 (by decide) (fun c => ?_) (fun c => ?_)
  · rw [if_neg c] at h
    refine E_aload_n 0 dX11_bound_12 rfl rfl ?_
    refine E_getR 68 dX11_bound_13 fl_X11_60 rfl (sk_0 hs5) (sn hs5 (by decide)) (sr_0_7 hs5) ?_
    refine E_iload_n 1 dX11_bound_16 rfl rfl ?_
    refine E_aload_n 0 dX11_bound_17 rfl rfl ?_
    refine E_iload_n 1 dX11_bound_18 rfl rfl ?_
    refine E_bipush (13 : Int32) dX11_bound_19 (by decide) ?_
    refine E_imul dX11_bound_21 ?_
    obtain ⟨d7, v12, σ8, hD9, hC10, h⟩ := h
    have hs11 := hC10.1.2.2.2.1 hs5
    refine E_callV (As := [.int (x1 * (13 : Int32))]) (rest := [.int x1, .ref 68]) (r1 := (some (.int v12))) (b := 0) dX11_bound_22 ok_X11_knowing in_X11_knowing se_X11_knowing ml_X11_239 hD9 rfl rfl (Nat.le_of_ble_eq_true rfl) (sk_0 hs5) (sn hs5 (by decide)) (by decide) rfl (by decide +kernel) hC10 ?_
    refine E_aload_n 0 dX11_bound_25 rfl rfl ?_
    refine E_getI dX11_bound_26 fl_X11_121 rfl (sk_0 hs11) (sn hs11 (by decide)) ?_
    obtain ⟨d13, σ14, hD15, hC16, h⟩ := h
    have hs17 := hC16.1.2.2.2.1 hs11
    refine E_callV (As := [.int x1, .int v12, .int (gI σ8 0 12)]) (rest := []) (r1 := none) (b := 68) dX11_bound_29 ok_X1_openQuarter in_X1_openQuarter se_X1_openQuarter ml_X11_242 hD15 rfl rfl (Nat.le_of_ble_eq_true rfl) (sk_68 hs11) (sn hs11 (by decide)) (by decide) rfl (by decide +kernel) hC16 ?_
    refine E_iconst (0 : Int32) dX11_bound_32 (by decide) ?_
    refine E_istore_n [(2, .int (0 : Int32)), (0, .ref 0), (1, .int x1)] dX11_bound_33 rfl (by decide) rfl ?_
    refine E_iconst (0 : Int32) dX11_bound_34 (by decide) ?_
    refine E_istore_n [(3, .int (0 : Int32)), (2, .int (0 : Int32)), (0, .ref 0), (1, .int x1)] dX11_bound_35 rfl (by decide) rfl ?_
    exact E_lv [2, 1, 0] rfl h
  · rw [if_pos c] at h
    refine E_iconst (-1 : Int32) dX11_bound_10 (by decide) ?_
    obtain ⟨rfl, rfl⟩ := h
    exact E_iret dX11_bound_11 rfl
def W_X11_bound_36 (X : Sx) (l : Launch) (D : Nat) (x2 : Int32) (x3 : Int32) (σ : AH) (r : Option Value) (σ' : AH) : Prop := (if (gI σ 68 3) ≤ x3 then (r = some (.int x2) ∧ σ' = σ) else E X l m_X11_bound D 53 [(0, .ref 0), (2, .int x2), (3, .int x3), (4, .int (0 : Int32)), (5, .int (1 : Int32))] [] σ r σ')
set_option maxRecDepth 100000 in
theorem w_X11_bound_36 {X : Sx} {l : Launch} {D : Nat} {x2 : Int32} {x3 : Int32} {σ : AH} {r : Option Value} {σ' : AH} (hs : Sh σ) (h : W_X11_bound_36 X l D x2 x3 σ r σ') : E X l m_X11_bound D 36 [(0, .ref 0), (2, .int x2), (3, .int x3)] [] σ r σ' := by
  unfold W_X11_bound_36 at h
  refine E_iload_n 2 dX11_bound_36 rfl rfl ?_
  refine E_aload_n 0 dX11_bound_37 rfl rfl ?_
  refine E_getR 68 dX11_bound_38 fl_X11_60 rfl (sk_0 hs) (sn hs (by decide)) (sr_0_7 hs) ?_
  refine E_getI dX11_bound_41 fl_X11_233 rfl (sk_68 hs) (sn hs (by decide)) ?_
  refine E_icmp_ge 133 dX11_bound_44 (by decide) (fun c => ?_) (fun c => ?_)
  · rw [if_pos c] at h
    refine E_iload_n 1 dX11_bound_133 rfl rfl ?_
    obtain ⟨rfl, rfl⟩ := h
    exact E_iret dX11_bound_134 rfl
  · rw [if_neg c] at h
    refine E_iconst (0 : Int32) dX11_bound_47 (by decide) ?_
    refine E_istore [(4, .int (0 : Int32)), (0, .ref 0), (2, .int x2), (3, .int x3)] dX11_bound_48 (by decide) rfl ?_
    refine E_iconst (1 : Int32) dX11_bound_50 (by decide) ?_
    refine E_istore [(5, .int (1 : Int32)), (4, .int (0 : Int32)), (0, .ref 0), (2, .int x2), (3, .int x3)] dX11_bound_51 (by decide) rfl ?_
    exact E_lv [2, 3, 4, 1, 0] rfl h
def W_X11_bound_125 (X : Sx) (l : Launch) (D : Nat) (x3 : Int32) (y0 : Int32) (y1 : Int32) (σ : AH) (r : Option Value) (σ' : AH) : Prop := E X l m_X11_bound D 36 [(0, .ref 0), (2, .int (y1 + y0)), (3, .int (x3 + 1))] [] σ r σ'
set_option maxRecDepth 100000 in
theorem w_X11_bound_125 {X : Sx} {l : Launch} {D : Nat} {x3 : Int32} {y0 : Int32} {y1 : Int32} {σ : AH} {r : Option Value} {σ' : AH} (hs : Sh σ) (h : W_X11_bound_125 X l D x3 y0 y1 σ r σ') : E X l m_X11_bound D 125 [(0, .ref 0), (3, .int x3)] [.int y0, .int y1] σ r σ' := by
  unfold W_X11_bound_125 at h
  refine E_iadd dX11_bound_125 ?_
  refine E_istore_n [(2, .int (y1 + y0)), (0, .ref 0), (3, .int x3)] dX11_bound_126 rfl (by decide) rfl ?_
  refine E_iinc 2 (x3 + 1) [(3, .int (x3 + 1)), (2, .int (y1 + y0)), (0, .ref 0)] dX11_bound_127 rfl (congrArg (x3 + ·) (by decide : Int32.ofInt 1 = 1)) (by decide) rfl ?_
  refine E_goto 36 dX11_bound_130 (by decide) ?_
  exact E_lv [2, 1, 0] rfl h
def W_X11_bound_107 (X : Sx) (l : Launch) (D : Nat) (x2 : Int32) (x3 : Int32) (x4 : Int32) (σ : AH) (r : Option Value) (σ' : AH) : Prop := (if x4 = 0 then W_X11_bound_125 X l D x3 (0 : Int32) x2 σ r σ' else ∃ d36 : Nat, ∃ v41 : Int32, ∃ σ37 : AH, d36 + 1 ≤ D ∧ Call X l m_X1_roomsOf d36 [.ref 68, .int x3] σ (some (.int v41)) σ37 ∧ W_X11_bound_125 X l D x3 v41 x2 σ37 r σ')
set_option maxRecDepth 100000 in
theorem w_X11_bound_107 {X : Sx} {l : Launch} {D : Nat} {x2 : Int32} {x3 : Int32} {x4 : Int32} {σ : AH} {r : Option Value} {σ' : AH} (hs : Sh σ) (h : W_X11_bound_107 X l D x2 x3 x4 σ r σ') : E X l m_X11_bound D 107 [(0, .ref 0), (2, .int x2), (3, .int x3), (4, .int x4)] [] σ r σ' := by
  unfold W_X11_bound_107 at h
  refine E_iload_n 1 dX11_bound_107 rfl rfl ?_
  refine E_iload 3 dX11_bound_108 rfl ?_
  refine E_if_eq 124 dX11_bound_110 (by decide) (fun c => ?_) (fun c => ?_)
  · rw [if_pos c] at h
    refine E_iconst (0 : Int32) dX11_bound_124 (by decide) ?_
    exact E_lv [0, 2] rfl (w_X11_bound_125 hs h)
  · rw [if_neg c] at h
    refine E_aload_n 0 dX11_bound_113 rfl rfl ?_
    refine E_getR 68 dX11_bound_114 fl_X11_60 rfl (sk_0 hs) (sn hs (by decide)) (sr_0_7 hs) ?_
    refine E_iload_n 2 dX11_bound_117 rfl rfl ?_
    obtain ⟨d36, v41, σ37, hD38, hC39, h⟩ := h
    have hs40 := hC39.1.2.2.2.1 hs
    refine E_callV (As := [.int x3]) (rest := [.int x2]) (r1 := (some (.int v41))) (b := 68) dX11_bound_118 ok_X1_roomsOf in_X1_roomsOf se_X1_roomsOf ml_X11_280 hD38 rfl rfl (Nat.le_of_ble_eq_true rfl) (sk_68 hs) (sn hs (by decide)) (by decide) rfl (by decide +kernel) hC39 ?_
    refine E_goto 125 dX11_bound_121 (by decide) ?_
    exact E_lv [0, 2] rfl (w_X11_bound_125 hs40 h)
def W_X11_bound_99 (X : Sx) (l : Launch) (D : Nat) (x2 : Int32) (x3 : Int32) (x5 : Int32) (y0 : Int32) (σ : AH) (r : Option Value) (σ' : AH) : Prop := E X l m_X11_bound D 53 [(0, .ref 0), (2, .int x2), (3, .int x3), (4, .int y0), (5, .int (x5 + 1))] [] σ r σ'
set_option maxRecDepth 100000 in
theorem w_X11_bound_99 {X : Sx} {l : Launch} {D : Nat} {x2 : Int32} {x3 : Int32} {x5 : Int32} {y0 : Int32} {σ : AH} {r : Option Value} {σ' : AH} (hs : Sh σ) (h : W_X11_bound_99 X l D x2 x3 x5 y0 σ r σ') : E X l m_X11_bound D 99 [(0, .ref 0), (2, .int x2), (3, .int x3), (5, .int x5)] [.int y0] σ r σ' := by
  unfold W_X11_bound_99 at h
  refine E_istore [(4, .int y0), (0, .ref 0), (2, .int x2), (3, .int x3), (5, .int x5)] dX11_bound_99 (by decide) rfl ?_
  refine E_iinc 4 (x5 + 1) [(5, .int (x5 + 1)), (4, .int y0), (0, .ref 0), (2, .int x2), (3, .int x3)] dX11_bound_101 rfl (congrArg (x5 + ·) (by decide : Int32.ofInt 1 = 1)) (by decide) rfl ?_
  refine E_goto 53 dX11_bound_104 (by decide) ?_
  exact E_lv [2, 3, 4, 1, 0] rfl h
def W_X11_bound_53 (X : Sx) (l : Launch) (D : Nat) (x2 : Int32) (x3 : Int32) (x4 : Int32) (x5 : Int32) (σ : AH) (r : Option Value) (σ' : AH) : Prop := (if (3 : Int32) < x5 then W_X11_bound_107 X l D x2 x3 x4 σ r σ' else (if x4 = 0 then ∃ d18 : Nat, ∃ σ19 : AH, d18 + 1 ≤ D ∧ Call X l m_X1_tell d18 [.ref 68, .int (x5 <<< (((2 : Int32) * x3) &&& 31))] σ none σ19 ∧ ∃ d23 : Nat, ∃ b28 : Nat, ∃ σ24 : AH, d23 + 1 ≤ D ∧ Call X l m_X1_playRow d23 [.ref 68] σ19 (some (.ref b28)) σ24 ∧ b28 ∈ siteIds ∧ ∃ d30 : Nat, ∃ v35 : Int32, ∃ σ31 : AH, d30 + 1 ≤ D ∧ Call X l m_X1_housedIn d30 [.ref 68, .ref b28] σ24 (some (.int v35)) σ31 ∧ (if v35 ≤ 0 then W_X11_bound_99 X l D x2 x3 x5 (0 : Int32) σ31 r σ' else W_X11_bound_99 X l D x2 x3 x5 (1 : Int32) σ31 r σ') else W_X11_bound_107 X l D x2 x3 x4 σ r σ'))
set_option maxRecDepth 100000 in
theorem w_X11_bound_53 {X : Sx} {l : Launch} {D : Nat} {x2 : Int32} {x3 : Int32} {x4 : Int32} {x5 : Int32} {σ : AH} {r : Option Value} {σ' : AH} (hs : Sh σ) (h : W_X11_bound_53 X l D x2 x3 x4 x5 σ r σ') : E X l m_X11_bound D 53 [(0, .ref 0), (2, .int x2), (3, .int x3), (4, .int x4), (5, .int x5)] [] σ r σ' := by
  unfold W_X11_bound_53 at h
  refine E_iload 4 dX11_bound_53 rfl ?_
  refine E_iconst (3 : Int32) dX11_bound_55 (by decide) ?_
  refine E_icmp_gt 107 dX11_bound_56 (by decide) (fun c => ?_) (fun c => ?_)
  · rw [if_pos c] at h
    exact E_lv [0, 1, 2, 3] rfl (w_X11_bound_107 hs h)
  · rw [if_neg c] at h
    refine E_iload 3 dX11_bound_59 rfl ?_
    refine E_if_ne 107 dX11_bound_61 (by decide) (fun c => ?_) (fun c => ?_)
    · rw [if_neg c] at h
      exact E_lv [0, 1, 2, 3] rfl (w_X11_bound_107 hs h)
    · rw [if_pos c] at h
      refine E_aload_n 0 dX11_bound_64 rfl rfl ?_
      refine E_getR 68 dX11_bound_65 fl_X11_60 rfl (sk_0 hs) (sn hs (by decide)) (sr_0_7 hs) ?_
      refine E_iload 4 dX11_bound_68 rfl ?_
      refine E_iconst (2 : Int32) dX11_bound_70 (by decide) ?_
      refine E_iload_n 2 dX11_bound_71 rfl rfl ?_
      refine E_imul dX11_bound_72 ?_
      refine E_ishl dX11_bound_73 ?_
      obtain ⟨d18, σ19, hD20, hC21, h⟩ := h
      have hs22 := hC21.1.2.2.2.1 hs
      refine E_callV (As := [.int (x5 <<< (((2 : Int32) * x3) &&& 31))]) (rest := []) (r1 := none) (b := 68) dX11_bound_74 ok_X1_tell in_X1_tell se_X1_tell ml_X11_269 hD20 rfl rfl (Nat.le_of_ble_eq_true rfl) (sk_68 hs) (sn hs (by decide)) (by decide) rfl (by decide +kernel) hC21 ?_
      refine E_aload_n 0 dX11_bound_77 rfl rfl ?_
      refine E_getR 68 dX11_bound_78 fl_X11_60 rfl (sk_0 hs22) (sn hs22 (by decide)) (sr_0_7 hs22) ?_
      refine E_aload_n 0 dX11_bound_81 rfl rfl ?_
      refine E_getR 68 dX11_bound_82 fl_X11_60 rfl (sk_0 hs22) (sn hs22 (by decide)) (sr_0_7 hs22) ?_
      obtain ⟨d23, b28, σ24, hD25, hC26, hm29, h⟩ := h
      have hs27 := hC26.1.2.2.2.1 hs22
      refine E_callV (As := []) (rest := [.ref 68]) (r1 := (some (.ref b28))) (b := 68) dX11_bound_85 ok_X1_playRow in_X1_playRow se_X1_playRow ml_X11_272 hD25 rfl rfl (Nat.le_of_ble_eq_true rfl) (sk_68 hs22) (sn hs22 (by decide)) (by decide) rfl (by decide +kernel) hC26 ?_
      obtain ⟨d30, v35, σ31, hD32, hC33, h⟩ := h
      have hs34 := hC33.1.2.2.2.1 hs27
      refine E_callV (As := [.ref b28]) (rest := []) (r1 := (some (.int v35))) (b := 68) dX11_bound_88 ok_X1_housedIn in_X1_housedIn se_X1_housedIn ml_X11_276 hD32 rfl rfl (Nat.le_of_ble_eq_true rfl) (sk_68 hs27) (sn hs27 (by decide)) (by decide) rfl (by decide +kernel) hC33 ?_
      refine E_if_le 98 dX11_bound_91 (by decide) (fun c => ?_) (fun c => ?_)
      · rw [if_pos c] at h
        refine E_iconst (0 : Int32) dX11_bound_98 (by decide) ?_
        exact E_lv [0, 1, 2, 4] rfl (w_X11_bound_99 hs34 h)
      · rw [if_neg c] at h
        refine E_iconst (1 : Int32) dX11_bound_94 (by decide) ?_
        refine E_goto 99 dX11_bound_95 (by decide) ?_
        exact E_lv [0, 1, 2, 4] rfl (w_X11_bound_99 hs34 h)
def W_X11_judge_0 (X : Sx) (l : Launch) (D : Nat) (x1 : Int32) (x2 : Int32) (σ : AH) (r : Option Value) (σ' : AH) : Prop := ∃ d1 : Nat, ∃ v6 : Int32, ∃ σ2 : AH, d1 + 1 ≤ D ∧ Call X l m_X11_isIn d1 [.int x1, .int (0 : Int32), .int (19 : Int32)] σ (some (.int v6)) σ2 ∧ (if v6 = 0 then (r = some (.int (-1 : Int32)) ∧ σ' = σ2) else ∃ d7 : Nat, ∃ v12 : Int32, ∃ σ8 : AH, d7 + 1 ≤ D ∧ Call X l m_X11_isIn d7 [.int x2, .int (0 : Int32), .int (((1 : Int32) <<< (((2 : Int32) * (gI σ2 68 3)) &&& 31)) - (1 : Int32))] σ2 (some (.int v12)) σ8 ∧ (if v12 = 0 then (r = some (.int (-1 : Int32)) ∧ σ' = σ8) else ∃ d13 : Nat, ∃ v18 : Int32, ∃ σ14 : AH, d13 + 1 ≤ D ∧ Call X l m_X11_knowing d13 [.ref 0, .int (x1 * (13 : Int32))] σ8 (some (.int v18)) σ14 ∧ ∃ d19 : Nat, ∃ σ20 : AH, d19 + 1 ≤ D ∧ Call X l m_X1_openQuarter d19 [.ref 68, .int x1, .int v18, .int (gI σ14 0 12)] σ14 none σ20 ∧ ∃ d24 : Nat, ∃ σ25 : AH, d24 + 1 ≤ D ∧ Call X l m_X1_tell d24 [.ref 68, .int x2] σ20 none σ25 ∧ ∃ d29 : Nat, ∃ b34 : Nat, ∃ σ30 : AH, d29 + 1 ≤ D ∧ Call X l m_X1_playRow d29 [.ref 68] σ25 (some (.ref b34)) σ30 ∧ b34 ∈ siteIds ∧ ∃ d36 : Nat, ∃ v41 : Int32, ∃ σ37 : AH, d36 + 1 ≤ D ∧ Call X l m_X1_housedIn d36 [.ref 68, .ref b34] σ30 (some (.int v41)) σ37 ∧ ∃ d42 : Nat, ∃ v47 : Int32, ∃ σ43 : AH, d42 + 1 ≤ D ∧ Call X l m_X1_shellsIn d42 [.ref 68, .ref b34] σ37 (some (.int v47)) σ43 ∧ (r = some (.int ((v41 * (10 : Int32)) + v47)) ∧ σ' = σ43)))
set_option maxRecDepth 100000 in
theorem w_X11_judge_0 {X : Sx} {l : Launch} {D : Nat} {x1 : Int32} {x2 : Int32} {σ : AH} {r : Option Value} {σ' : AH} (hs : Sh σ) (h : W_X11_judge_0 X l D x1 x2 σ r σ') : E X l m_X11_judge D 0 [(0, .ref 0), (1, .int x1), (2, .int x2)] [] σ r σ' := by
  unfold W_X11_judge_0 at h
  refine E_iload_n 1 dX11_judge_0 rfl rfl ?_
  refine E_iconst (0 : Int32) dX11_judge_1 (by decide) ?_
  refine E_bipush (19 : Int32) dX11_judge_2 (by decide) ?_
  obtain ⟨d1, v6, σ2, hD3, hC4, h⟩ := h
  have hs5 := hC4.1.2.2.2.1 hs
  refine E_callS (As := [.int x1, .int (0 : Int32), .int (19 : Int32)]) (rest := []) (r1 := (some (.int v6))) dX11_judge_4 ok_X11_isIn is_X11_isIn ml_X11_124 hD3 rfl rfl (Nat.le_of_ble_eq_true rfl) (by decide +kernel) hC4 ?_
  refine E_if_eq 31 dX11_judge_7 (by decide) (fun c => ?_) (fun c => ?_)
  · rw [if_pos c] at h
    refine E_iconst (-1 : Int32) dX11_judge_31 (by decide) ?_
    obtain ⟨rfl, rfl⟩ := h
    exact E_iret dX11_judge_32 rfl
  · rw [if_neg c] at h
    refine E_iload_n 2 dX11_judge_10 rfl rfl ?_
    refine E_iconst (0 : Int32) dX11_judge_11 (by decide) ?_
    refine E_iconst (1 : Int32) dX11_judge_12 (by decide) ?_
    refine E_iconst (2 : Int32) dX11_judge_13 (by decide) ?_
    refine E_aload_n 0 dX11_judge_14 rfl rfl ?_
    refine E_getR 68 dX11_judge_15 fl_X11_60 rfl (sk_0 hs5) (sn hs5 (by decide)) (sr_0_7 hs5) ?_
    refine E_getI dX11_judge_18 fl_X11_233 rfl (sk_68 hs5) (sn hs5 (by decide)) ?_
    refine E_imul dX11_judge_21 ?_
    refine E_ishl dX11_judge_22 ?_
    refine E_iconst (1 : Int32) dX11_judge_23 (by decide) ?_
    refine E_isub dX11_judge_24 ?_
    obtain ⟨d7, v12, σ8, hD9, hC10, h⟩ := h
    have hs11 := hC10.1.2.2.2.1 hs5
    refine E_callS (As := [.int x2, .int (0 : Int32), .int (((1 : Int32) <<< (((2 : Int32) * (gI σ2 68 3)) &&& 31)) - (1 : Int32))]) (rest := []) (r1 := (some (.int v12))) dX11_judge_25 ok_X11_isIn is_X11_isIn ml_X11_124 hD9 rfl rfl (Nat.le_of_ble_eq_true rfl) (by decide +kernel) hC10 ?_
    refine E_if_ne 33 dX11_judge_28 (by decide) (fun c => ?_) (fun c => ?_)
    · rw [if_neg c] at h
      refine E_aload_n 0 dX11_judge_33 rfl rfl ?_
      refine E_getR 68 dX11_judge_34 fl_X11_60 rfl (sk_0 hs11) (sn hs11 (by decide)) (sr_0_7 hs11) ?_
      refine E_iload_n 1 dX11_judge_37 rfl rfl ?_
      refine E_aload_n 0 dX11_judge_38 rfl rfl ?_
      refine E_iload_n 1 dX11_judge_39 rfl rfl ?_
      refine E_bipush (13 : Int32) dX11_judge_40 (by decide) ?_
      refine E_imul dX11_judge_42 ?_
      obtain ⟨d13, v18, σ14, hD15, hC16, h⟩ := h
      have hs17 := hC16.1.2.2.2.1 hs11
      refine E_callV (As := [.int (x1 * (13 : Int32))]) (rest := [.int x1, .ref 68]) (r1 := (some (.int v18))) (b := 0) dX11_judge_43 ok_X11_knowing in_X11_knowing se_X11_knowing ml_X11_239 hD15 rfl rfl (Nat.le_of_ble_eq_true rfl) (sk_0 hs11) (sn hs11 (by decide)) (by decide) rfl (by decide +kernel) hC16 ?_
      refine E_aload_n 0 dX11_judge_46 rfl rfl ?_
      refine E_getI dX11_judge_47 fl_X11_121 rfl (sk_0 hs17) (sn hs17 (by decide)) ?_
      obtain ⟨d19, σ20, hD21, hC22, h⟩ := h
      have hs23 := hC22.1.2.2.2.1 hs17
      refine E_callV (As := [.int x1, .int v18, .int (gI σ14 0 12)]) (rest := []) (r1 := none) (b := 68) dX11_judge_50 ok_X1_openQuarter in_X1_openQuarter se_X1_openQuarter ml_X11_242 hD21 rfl rfl (Nat.le_of_ble_eq_true rfl) (sk_68 hs17) (sn hs17 (by decide)) (by decide) rfl (by decide +kernel) hC22 ?_
      refine E_aload_n 0 dX11_judge_53 rfl rfl ?_
      refine E_getR 68 dX11_judge_54 fl_X11_60 rfl (sk_0 hs23) (sn hs23 (by decide)) (sr_0_7 hs23) ?_
      refine E_iload_n 2 dX11_judge_57 rfl rfl ?_
      obtain ⟨d24, σ25, hD26, hC27, h⟩ := h
      have hs28 := hC27.1.2.2.2.1 hs23
      refine E_callV (As := [.int x2]) (rest := []) (r1 := none) (b := 68) dX11_judge_58 ok_X1_tell in_X1_tell se_X1_tell ml_X11_269 hD26 rfl rfl (Nat.le_of_ble_eq_true rfl) (sk_68 hs23) (sn hs23 (by decide)) (by decide) rfl (by decide +kernel) hC27 ?_
      refine E_aload_n 0 dX11_judge_61 rfl rfl ?_
      refine E_getR 68 dX11_judge_62 fl_X11_60 rfl (sk_0 hs28) (sn hs28 (by decide)) (sr_0_7 hs28) ?_
      obtain ⟨d29, b34, σ30, hD31, hC32, hm35, h⟩ := h
      have hs33 := hC32.1.2.2.2.1 hs28
      refine E_callV (As := []) (rest := []) (r1 := (some (.ref b34))) (b := 68) dX11_judge_65 ok_X1_playRow in_X1_playRow se_X1_playRow ml_X11_272 hD31 rfl rfl (Nat.le_of_ble_eq_true rfl) (sk_68 hs28) (sn hs28 (by decide)) (by decide) rfl (by decide +kernel) hC32 ?_
      refine E_astore_n [(3, .ref b34), (0, .ref 0), (1, .int x1), (2, .int x2)] dX11_judge_68 rfl (by decide) rfl ?_
      refine E_aload_n 1 dX11_judge_69 rfl rfl ?_
      refine E_getR 68 dX11_judge_70 fl_X11_60 rfl (sk_0 hs33) (sn hs33 (by decide)) (sr_0_7 hs33) ?_
      refine E_aload_n 0 dX11_judge_73 rfl rfl ?_
      obtain ⟨d36, v41, σ37, hD38, hC39, h⟩ := h
      have hs40 := hC39.1.2.2.2.1 hs33
      refine E_callV (As := [.ref b34]) (rest := []) (r1 := (some (.int v41))) (b := 68) dX11_judge_74 ok_X1_housedIn in_X1_housedIn se_X1_housedIn ml_X11_276 hD38 rfl rfl (Nat.le_of_ble_eq_true rfl) (sk_68 hs33) (sn hs33 (by decide)) (by decide) rfl (by decide +kernel) hC39 ?_
      refine E_bipush (10 : Int32) dX11_judge_77 (by decide) ?_
      refine E_imul dX11_judge_79 ?_
      refine E_aload_n 1 dX11_judge_80 rfl rfl ?_
      refine E_getR 68 dX11_judge_81 fl_X11_60 rfl (sk_0 hs40) (sn hs40 (by decide)) (sr_0_7 hs40) ?_
      refine E_aload_n 0 dX11_judge_84 rfl rfl ?_
      obtain ⟨d42, v47, σ43, hD44, hC45, h⟩ := h
      have hs46 := hC45.1.2.2.2.1 hs40
      refine E_callV (As := [.ref b34]) (rest := [.int (v41 * (10 : Int32))]) (r1 := (some (.int v47))) (b := 68) dX11_judge_85 ok_X1_shellsIn in_X1_shellsIn se_X1_shellsIn ml_X11_283 hD44 rfl rfl (Nat.le_of_ble_eq_true rfl) (sk_68 hs40) (sn hs40 (by decide)) (by decide) rfl (by decide +kernel) hC45 ?_
      refine E_iadd dX11_judge_88 ?_
      obtain ⟨rfl, rfl⟩ := h
      exact E_iret dX11_judge_89 rfl
    · rw [if_pos c] at h
      refine E_iconst (-1 : Int32) dX11_judge_31 (by decide) ?_
      obtain ⟨rfl, rfl⟩ := h
      exact E_iret dX11_judge_32 rfl
def W_X11_entry_67 (X : Sx) (l : Launch) (D : Nat) (σ : AH) (r : Option Value) (σ' : AH) : Prop := ∃ d49 : Nat, ∃ v54 : Int32, ∃ σ50 : AH, d49 + 1 ≤ D ∧ Call X l m_X11_answer d49 [.ref 0, .int (-1 : Int32)] σ (some (.int v54)) σ50 ∧ (r = some (.int v54) ∧ σ' = σ50)
set_option maxRecDepth 100000 in
theorem w_X11_entry_67 {X : Sx} {l : Launch} {D : Nat} {σ : AH} {r : Option Value} {σ' : AH} (hs : Sh σ) (h : W_X11_entry_67 X l D σ r σ') : E X l m_X11_entry D 67 [(0, .ref 0)] [] σ r σ' := by
  unfold W_X11_entry_67 at h
  refine E_aload_n 0 dX11_entry_67 rfl rfl ?_
  refine E_iconst (-1 : Int32) dX11_entry_68 (by decide) ?_
  obtain ⟨d49, v54, σ50, hD51, hC52, h⟩ := h
  have hs53 := hC52.1.2.2.2.1 hs
  refine E_callV (As := [.int (-1 : Int32)]) (rest := []) (r1 := (some (.int v54))) (b := 0) dX11_entry_69 ok_X11_answer in_X11_answer se_X11_answer ml_X11_105 hD51 rfl rfl (Nat.le_of_ble_eq_true rfl) (sk_0 hs) (sn hs (by decide)) (by decide) rfl (by decide +kernel) hC52 ?_
  obtain ⟨rfl, rfl⟩ := h
  exact E_iret dX11_entry_72 rfl
def W_X11_entry_86 (X : Sx) (l : Launch) (D : Nat) (σ : AH) (r : Option Value) (σ' : AH) : Prop := ∃ d96 : Nat, ∃ v101 : Int32, ∃ σ97 : AH, d96 + 1 ≤ D ∧ Call X l m_X11_answer d96 [.ref 0, .int (-5 : Int32)] σ (some (.int v101)) σ97 ∧ (r = some (.int v101) ∧ σ' = σ97)
set_option maxRecDepth 100000 in
theorem w_X11_entry_86 {X : Sx} {l : Launch} {D : Nat} {σ : AH} {r : Option Value} {σ' : AH} (hs : Sh σ) (h : W_X11_entry_86 X l D σ r σ') : E X l m_X11_entry D 86 [(0, .ref 0)] [] σ r σ' := by
  unfold W_X11_entry_86 at h
  refine E_aload_n 0 dX11_entry_86 rfl rfl ?_
  refine E_bipush (-5 : Int32) dX11_entry_87 (by decide) ?_
  obtain ⟨d96, v101, σ97, hD98, hC99, h⟩ := h
  have hs100 := hC99.1.2.2.2.1 hs
  refine E_callV (As := [.int (-5 : Int32)]) (rest := []) (r1 := (some (.int v101))) (b := 0) dX11_entry_89 ok_X11_answer in_X11_answer se_X11_answer ml_X11_105 hD98 rfl rfl (Nat.le_of_ble_eq_true rfl) (sk_0 hs) (sn hs (by decide)) (by decide) rfl (by decide +kernel) hC99 ?_
  obtain ⟨rfl, rfl⟩ := h
  exact E_iret dX11_entry_92 rfl
def W_X11_entry_93 (X : Sx) (l : Launch) (D : Nat) (x1 : Int32) (x2 : Int32) (x3 : Int32) (x4 : Int32) (x5 : Int32) (x6 : Int32) (x7 : Int32) (σ : AH) (r : Option Value) (σ' : AH) : Prop := ∃ d55 : Nat, ∃ v60 : Int32, ∃ σ56 : AH, d55 + 1 ≤ D ∧ Call X l m_X8_add d55 [.ref 13] σ (some (.int v60)) σ56 ∧ ∃ d61 : Nat, ∃ σ62 : AH, d61 + 1 ≤ D ∧ Call X l m_X8_put d61 [.ref 13, .int v60, .int (0 : Int32), .int x1] σ56 none σ62 ∧ ∃ d66 : Nat, ∃ σ67 : AH, d66 + 1 ≤ D ∧ Call X l m_X8_put d66 [.ref 13, .int v60, .int (1 : Int32), .int x2] σ62 none σ67 ∧ ∃ d71 : Nat, ∃ σ72 : AH, d71 + 1 ≤ D ∧ Call X l m_X8_put d71 [.ref 13, .int v60, .int (2 : Int32), .int x3] σ67 none σ72 ∧ ∃ d76 : Nat, ∃ σ77 : AH, d76 + 1 ≤ D ∧ Call X l m_X8_put d76 [.ref 13, .int v60, .int (3 : Int32), .int x4] σ72 none σ77 ∧ ∃ d81 : Nat, ∃ σ82 : AH, d81 + 1 ≤ D ∧ Call X l m_X8_put d81 [.ref 13, .int v60, .int (4 : Int32), .int x5] σ77 none σ82 ∧ ∃ d86 : Nat, ∃ σ87 : AH, d86 + 1 ≤ D ∧ Call X l m_X8_put d86 [.ref 13, .int v60, .int (5 : Int32), .int x6] σ82 none σ87 ∧ ∃ d91 : Nat, ∃ σ92 : AH, d91 + 1 ≤ D ∧ Call X l m_X8_put d91 [.ref 13, .int v60, .int (6 : Int32), .int x7] σ87 none σ92 ∧ E X l m_X11_entry D 211 [(0, .ref 0), (8, .int v60), (9, .int (0 : Int32))] [] σ92 r σ'
set_option maxRecDepth 100000 in
theorem w_X11_entry_93 {X : Sx} {l : Launch} {D : Nat} {x1 : Int32} {x2 : Int32} {x3 : Int32} {x4 : Int32} {x5 : Int32} {x6 : Int32} {x7 : Int32} {σ : AH} {r : Option Value} {σ' : AH} (hs : Sh σ) (h : W_X11_entry_93 X l D x1 x2 x3 x4 x5 x6 x7 σ r σ') : E X l m_X11_entry D 93 [(0, .ref 0), (1, .int x1), (2, .int x2), (3, .int x3), (4, .int x4), (5, .int x5), (6, .int x6), (7, .int x7)] [] σ r σ' := by
  unfold W_X11_entry_93 at h
  refine E_aload_n 0 dX11_entry_93 rfl rfl ?_
  refine E_getR 1 dX11_entry_94 fl_X11_10 rfl (sk_0 hs) (sn hs (by decide)) (sr_0_0 hs) ?_
  refine E_getR 13 dX11_entry_97 fl_X11_286 rfl (sk_1 hs) (sn hs (by decide)) (sr_1_7 hs) ?_
  obtain ⟨d55, v60, σ56, hD57, hC58, h⟩ := h
  have hs59 := hC58.1.2.2.2.1 hs
  refine E_callV (As := []) (rest := []) (r1 := (some (.int v60))) (b := 13) dX11_entry_100 ok_X8_add in_X8_add se_X8_add ml_X11_166 hD57 rfl rfl (Nat.le_of_ble_eq_true rfl) (sk_13 hs) (sn hs (by decide)) (by decide) rfl (by decide +kernel) hC58 ?_
  refine E_istore [(8, .int v60), (0, .ref 0), (1, .int x1), (2, .int x2), (3, .int x3), (4, .int x4), (5, .int x5), (6, .int x6), (7, .int x7)] dX11_entry_103 (by decide) rfl ?_
  refine E_aload_n 1 dX11_entry_105 rfl rfl ?_
  refine E_getR 1 dX11_entry_106 fl_X11_10 rfl (sk_0 hs59) (sn hs59 (by decide)) (sr_0_0 hs59) ?_
  refine E_getR 13 dX11_entry_109 fl_X11_286 rfl (sk_1 hs59) (sn hs59 (by decide)) (sr_1_7 hs59) ?_
  refine E_iload 0 dX11_entry_112 rfl ?_
  refine E_iconst (0 : Int32) dX11_entry_114 (by decide) ?_
  refine E_iload_n 2 dX11_entry_115 rfl rfl ?_
  obtain ⟨d61, σ62, hD63, hC64, h⟩ := h
  have hs65 := hC64.1.2.2.2.1 hs59
  refine E_callV (As := [.int v60, .int (0 : Int32), .int x1]) (rest := []) (r1 := none) (b := 13) dX11_entry_116 ok_X8_put in_X8_put se_X8_put ml_X11_169 hD63 rfl rfl (Nat.le_of_ble_eq_true rfl) (sk_13 hs59) (sn hs59 (by decide)) (by decide) rfl (by decide +kernel) hC64 ?_
  refine E_aload_n 1 dX11_entry_119 rfl rfl ?_
  refine E_getR 1 dX11_entry_120 fl_X11_10 rfl (sk_0 hs65) (sn hs65 (by decide)) (sr_0_0 hs65) ?_
  refine E_getR 13 dX11_entry_123 fl_X11_286 rfl (sk_1 hs65) (sn hs65 (by decide)) (sr_1_7 hs65) ?_
  refine E_iload 0 dX11_entry_126 rfl ?_
  refine E_iconst (1 : Int32) dX11_entry_128 (by decide) ?_
  refine E_iload_n 3 dX11_entry_129 rfl rfl ?_
  obtain ⟨d66, σ67, hD68, hC69, h⟩ := h
  have hs70 := hC69.1.2.2.2.1 hs65
  refine E_callV (As := [.int v60, .int (1 : Int32), .int x2]) (rest := []) (r1 := none) (b := 13) dX11_entry_130 ok_X8_put in_X8_put se_X8_put ml_X11_169 hD68 rfl rfl (Nat.le_of_ble_eq_true rfl) (sk_13 hs65) (sn hs65 (by decide)) (by decide) rfl (by decide +kernel) hC69 ?_
  refine E_aload_n 1 dX11_entry_133 rfl rfl ?_
  refine E_getR 1 dX11_entry_134 fl_X11_10 rfl (sk_0 hs70) (sn hs70 (by decide)) (sr_0_0 hs70) ?_
  refine E_getR 13 dX11_entry_137 fl_X11_286 rfl (sk_1 hs70) (sn hs70 (by decide)) (sr_1_7 hs70) ?_
  refine E_iload 0 dX11_entry_140 rfl ?_
  refine E_iconst (2 : Int32) dX11_entry_142 (by decide) ?_
  refine E_iload_n 4 dX11_entry_143 rfl rfl ?_
  obtain ⟨d71, σ72, hD73, hC74, h⟩ := h
  have hs75 := hC74.1.2.2.2.1 hs70
  refine E_callV (As := [.int v60, .int (2 : Int32), .int x3]) (rest := []) (r1 := none) (b := 13) dX11_entry_144 ok_X8_put in_X8_put se_X8_put ml_X11_169 hD73 rfl rfl (Nat.le_of_ble_eq_true rfl) (sk_13 hs70) (sn hs70 (by decide)) (by decide) rfl (by decide +kernel) hC74 ?_
  refine E_aload_n 1 dX11_entry_147 rfl rfl ?_
  refine E_getR 1 dX11_entry_148 fl_X11_10 rfl (sk_0 hs75) (sn hs75 (by decide)) (sr_0_0 hs75) ?_
  refine E_getR 13 dX11_entry_151 fl_X11_286 rfl (sk_1 hs75) (sn hs75 (by decide)) (sr_1_7 hs75) ?_
  refine E_iload 0 dX11_entry_154 rfl ?_
  refine E_iconst (3 : Int32) dX11_entry_156 (by decide) ?_
  refine E_iload 5 dX11_entry_157 rfl ?_
  obtain ⟨d76, σ77, hD78, hC79, h⟩ := h
  have hs80 := hC79.1.2.2.2.1 hs75
  refine E_callV (As := [.int v60, .int (3 : Int32), .int x4]) (rest := []) (r1 := none) (b := 13) dX11_entry_159 ok_X8_put in_X8_put se_X8_put ml_X11_169 hD78 rfl rfl (Nat.le_of_ble_eq_true rfl) (sk_13 hs75) (sn hs75 (by decide)) (by decide) rfl (by decide +kernel) hC79 ?_
  refine E_aload_n 1 dX11_entry_162 rfl rfl ?_
  refine E_getR 1 dX11_entry_163 fl_X11_10 rfl (sk_0 hs80) (sn hs80 (by decide)) (sr_0_0 hs80) ?_
  refine E_getR 13 dX11_entry_166 fl_X11_286 rfl (sk_1 hs80) (sn hs80 (by decide)) (sr_1_7 hs80) ?_
  refine E_iload 0 dX11_entry_169 rfl ?_
  refine E_iconst (4 : Int32) dX11_entry_171 (by decide) ?_
  refine E_iload 6 dX11_entry_172 rfl ?_
  obtain ⟨d81, σ82, hD83, hC84, h⟩ := h
  have hs85 := hC84.1.2.2.2.1 hs80
  refine E_callV (As := [.int v60, .int (4 : Int32), .int x5]) (rest := []) (r1 := none) (b := 13) dX11_entry_174 ok_X8_put in_X8_put se_X8_put ml_X11_169 hD83 rfl rfl (Nat.le_of_ble_eq_true rfl) (sk_13 hs80) (sn hs80 (by decide)) (by decide) rfl (by decide +kernel) hC84 ?_
  refine E_aload_n 1 dX11_entry_177 rfl rfl ?_
  refine E_getR 1 dX11_entry_178 fl_X11_10 rfl (sk_0 hs85) (sn hs85 (by decide)) (sr_0_0 hs85) ?_
  refine E_getR 13 dX11_entry_181 fl_X11_286 rfl (sk_1 hs85) (sn hs85 (by decide)) (sr_1_7 hs85) ?_
  refine E_iload 0 dX11_entry_184 rfl ?_
  refine E_iconst (5 : Int32) dX11_entry_186 (by decide) ?_
  refine E_iload 7 dX11_entry_187 rfl ?_
  obtain ⟨d86, σ87, hD88, hC89, h⟩ := h
  have hs90 := hC89.1.2.2.2.1 hs85
  refine E_callV (As := [.int v60, .int (5 : Int32), .int x6]) (rest := []) (r1 := none) (b := 13) dX11_entry_189 ok_X8_put in_X8_put se_X8_put ml_X11_169 hD88 rfl rfl (Nat.le_of_ble_eq_true rfl) (sk_13 hs85) (sn hs85 (by decide)) (by decide) rfl (by decide +kernel) hC89 ?_
  refine E_aload_n 1 dX11_entry_192 rfl rfl ?_
  refine E_getR 1 dX11_entry_193 fl_X11_10 rfl (sk_0 hs90) (sn hs90 (by decide)) (sr_0_0 hs90) ?_
  refine E_getR 13 dX11_entry_196 fl_X11_286 rfl (sk_1 hs90) (sn hs90 (by decide)) (sr_1_7 hs90) ?_
  refine E_iload 0 dX11_entry_199 rfl ?_
  refine E_bipush (6 : Int32) dX11_entry_201 (by decide) ?_
  refine E_iload 8 dX11_entry_203 rfl ?_
  obtain ⟨d91, σ92, hD93, hC94, h⟩ := h
  have hs95 := hC94.1.2.2.2.1 hs90
  refine E_callV (As := [.int v60, .int (6 : Int32), .int x7]) (rest := []) (r1 := none) (b := 13) dX11_entry_205 ok_X8_put in_X8_put se_X8_put ml_X11_169 hD93 rfl rfl (Nat.le_of_ble_eq_true rfl) (sk_13 hs90) (sn hs90 (by decide)) (by decide) rfl (by decide +kernel) hC94 ?_
  refine E_iconst (0 : Int32) dX11_entry_208 (by decide) ?_
  refine E_istore [(9, .int (0 : Int32)), (8, .int v60), (0, .ref 0), (1, .int x1), (2, .int x2), (3, .int x3), (4, .int x4), (5, .int x5), (6, .int x6), (7, .int x7)] dX11_entry_209 (by decide) rfl ?_
  exact E_lv [2, 1, 0] rfl h
def W_X11_entry_0 (X : Sx) (l : Launch) (D : Nat) (x1 : Int32) (x2 : Int32) (x3 : Int32) (x4 : Int32) (x5 : Int32) (x6 : Int32) (x7 : Int32) (σ : AH) (r : Option Value) (σ' : AH) : Prop := ∃ d1 : Nat, ∃ v6 : Int32, ∃ σ2 : AH, d1 + 1 ≤ D ∧ Call X l m_X11_isIn d1 [.int x1, .int (0 : Int32), .int (5 : Int32)] σ (some (.int v6)) σ2 ∧ (if v6 = 0 then W_X11_entry_67 X l D σ2 r σ' else ∃ d7 : Nat, ∃ v12 : Int32, ∃ σ8 : AH, d7 + 1 ≤ D ∧ Call X l m_X11_isWeek d7 [.int x2] σ2 (some (.int v12)) σ8 ∧ (if v12 = 0 then W_X11_entry_67 X l D σ8 r σ' else ∃ d13 : Nat, ∃ v18 : Int32, ∃ σ14 : AH, d13 + 1 ≤ D ∧ Call X l m_X11_isIn d13 [.int x3, .int (1 : Int32), .int (20 : Int32)] σ8 (some (.int v18)) σ14 ∧ (if v18 = 0 then W_X11_entry_67 X l D σ14 r σ' else ∃ d19 : Nat, ∃ v24 : Int32, ∃ σ20 : AH, d19 + 1 ≤ D ∧ Call X l m_X11_isIn d19 [.int x4, .int (0 : Int32), .int (x3 - (1 : Int32))] σ14 (some (.int v24)) σ20 ∧ (if v24 = 0 then W_X11_entry_67 X l D σ20 r σ' else ∃ d25 : Nat, ∃ v30 : Int32, ∃ σ26 : AH, d25 + 1 ≤ D ∧ Call X l m_X11_isIn d25 [.int x5, .int (0 : Int32), .int (9 : Int32)] σ20 (some (.int v30)) σ26 ∧ (if v30 = 0 then W_X11_entry_67 X l D σ26 r σ' else ∃ d31 : Nat, ∃ v36 : Int32, ∃ σ32 : AH, d31 + 1 ≤ D ∧ Call X l m_X11_isIn d31 [.int x6, .int (0 : Int32), .int (1 : Int32)] σ26 (some (.int v36)) σ32 ∧ (if v36 = 0 then W_X11_entry_67 X l D σ32 r σ' else ∃ d37 : Nat, ∃ v42 : Int32, ∃ σ38 : AH, d37 + 1 ≤ D ∧ Call X l m_X11_isWeek d37 [.int x7] σ32 (some (.int v42)) σ38 ∧ (if v42 = 0 then W_X11_entry_67 X l D σ38 r σ' else ∃ d43 : Nat, ∃ v48 : Int32, ∃ σ44 : AH, d43 + 1 ≤ D ∧ Call X l m_X8_isFull d43 [.ref 13] σ38 (some (.int v48)) σ44 ∧ (if v48 = 0 then W_X11_entry_93 X l D x1 x2 x3 x4 x5 x6 x7 σ44 r σ' else W_X11_entry_86 X l D σ44 r σ'))))))))
set_option maxRecDepth 100000 in
theorem w_X11_entry_0 {X : Sx} {l : Launch} {D : Nat} {x1 : Int32} {x2 : Int32} {x3 : Int32} {x4 : Int32} {x5 : Int32} {x6 : Int32} {x7 : Int32} {σ : AH} {r : Option Value} {σ' : AH} (hs : Sh σ) (h : W_X11_entry_0 X l D x1 x2 x3 x4 x5 x6 x7 σ r σ') : E X l m_X11_entry D 0 [(0, .ref 0), (1, .int x1), (2, .int x2), (3, .int x3), (4, .int x4), (5, .int x5), (6, .int x6), (7, .int x7)] [] σ r σ' := by
  unfold W_X11_entry_0 at h
  refine E_iload_n 1 dX11_entry_0 rfl rfl ?_
  refine E_iconst (0 : Int32) dX11_entry_1 (by decide) ?_
  refine E_iconst (5 : Int32) dX11_entry_2 (by decide) ?_
  obtain ⟨d1, v6, σ2, hD3, hC4, h⟩ := h
  have hs5 := hC4.1.2.2.2.1 hs
  refine E_callS (As := [.int x1, .int (0 : Int32), .int (5 : Int32)]) (rest := []) (r1 := (some (.int v6))) dX11_entry_3 ok_X11_isIn is_X11_isIn ml_X11_124 hD3 rfl rfl (Nat.le_of_ble_eq_true rfl) (by decide +kernel) hC4 ?_
  refine E_if_eq 67 dX11_entry_6 (by decide) (fun c => ?_) (fun c => ?_)
  · rw [if_pos c] at h
    exact E_lv [0] rfl (w_X11_entry_67 hs5 h)
  · rw [if_neg c] at h
    refine E_iload_n 2 dX11_entry_9 rfl rfl ?_
    obtain ⟨d7, v12, σ8, hD9, hC10, h⟩ := h
    have hs11 := hC10.1.2.2.2.1 hs5
    refine E_callS (As := [.int x2]) (rest := []) (r1 := (some (.int v12))) dX11_entry_10 ok_X11_isWeek is_X11_isWeek ml_X11_95 hD9 rfl rfl (Nat.le_of_ble_eq_true rfl) (by decide +kernel) hC10 ?_
    refine E_if_eq 67 dX11_entry_13 (by decide) (fun c => ?_) (fun c => ?_)
    · rw [if_pos c] at h
      exact E_lv [0] rfl (w_X11_entry_67 hs11 h)
    · rw [if_neg c] at h
      refine E_iload_n 3 dX11_entry_16 rfl rfl ?_
      refine E_iconst (1 : Int32) dX11_entry_17 (by decide) ?_
      refine E_bipush (20 : Int32) dX11_entry_18 (by decide) ?_
      obtain ⟨d13, v18, σ14, hD15, hC16, h⟩ := h
      have hs17 := hC16.1.2.2.2.1 hs11
      refine E_callS (As := [.int x3, .int (1 : Int32), .int (20 : Int32)]) (rest := []) (r1 := (some (.int v18))) dX11_entry_20 ok_X11_isIn is_X11_isIn ml_X11_124 hD15 rfl rfl (Nat.le_of_ble_eq_true rfl) (by decide +kernel) hC16 ?_
      refine E_if_eq 67 dX11_entry_23 (by decide) (fun c => ?_) (fun c => ?_)
      · rw [if_pos c] at h
        exact E_lv [0] rfl (w_X11_entry_67 hs17 h)
      · rw [if_neg c] at h
        refine E_iload 4 dX11_entry_26 rfl ?_
        refine E_iconst (0 : Int32) dX11_entry_28 (by decide) ?_
        refine E_iload_n 3 dX11_entry_29 rfl rfl ?_
        refine E_iconst (1 : Int32) dX11_entry_30 (by decide) ?_
        refine E_isub dX11_entry_31 ?_
        obtain ⟨d19, v24, σ20, hD21, hC22, h⟩ := h
        have hs23 := hC22.1.2.2.2.1 hs17
        refine E_callS (As := [.int x4, .int (0 : Int32), .int (x3 - (1 : Int32))]) (rest := []) (r1 := (some (.int v24))) dX11_entry_32 ok_X11_isIn is_X11_isIn ml_X11_124 hD21 rfl rfl (Nat.le_of_ble_eq_true rfl) (by decide +kernel) hC22 ?_
        refine E_if_eq 67 dX11_entry_35 (by decide) (fun c => ?_) (fun c => ?_)
        · rw [if_pos c] at h
          exact E_lv [0] rfl (w_X11_entry_67 hs23 h)
        · rw [if_neg c] at h
          refine E_iload 5 dX11_entry_38 rfl ?_
          refine E_iconst (0 : Int32) dX11_entry_40 (by decide) ?_
          refine E_bipush (9 : Int32) dX11_entry_41 (by decide) ?_
          obtain ⟨d25, v30, σ26, hD27, hC28, h⟩ := h
          have hs29 := hC28.1.2.2.2.1 hs23
          refine E_callS (As := [.int x5, .int (0 : Int32), .int (9 : Int32)]) (rest := []) (r1 := (some (.int v30))) dX11_entry_43 ok_X11_isIn is_X11_isIn ml_X11_124 hD27 rfl rfl (Nat.le_of_ble_eq_true rfl) (by decide +kernel) hC28 ?_
          refine E_if_eq 67 dX11_entry_46 (by decide) (fun c => ?_) (fun c => ?_)
          · rw [if_pos c] at h
            exact E_lv [0] rfl (w_X11_entry_67 hs29 h)
          · rw [if_neg c] at h
            refine E_iload 6 dX11_entry_49 rfl ?_
            refine E_iconst (0 : Int32) dX11_entry_51 (by decide) ?_
            refine E_iconst (1 : Int32) dX11_entry_52 (by decide) ?_
            obtain ⟨d31, v36, σ32, hD33, hC34, h⟩ := h
            have hs35 := hC34.1.2.2.2.1 hs29
            refine E_callS (As := [.int x6, .int (0 : Int32), .int (1 : Int32)]) (rest := []) (r1 := (some (.int v36))) dX11_entry_53 ok_X11_isIn is_X11_isIn ml_X11_124 hD33 rfl rfl (Nat.le_of_ble_eq_true rfl) (by decide +kernel) hC34 ?_
            refine E_if_eq 67 dX11_entry_56 (by decide) (fun c => ?_) (fun c => ?_)
            · rw [if_pos c] at h
              exact E_lv [0] rfl (w_X11_entry_67 hs35 h)
            · rw [if_neg c] at h
              refine E_iload 7 dX11_entry_59 rfl ?_
              obtain ⟨d37, v42, σ38, hD39, hC40, h⟩ := h
              have hs41 := hC40.1.2.2.2.1 hs35
              refine E_callS (As := [.int x7]) (rest := []) (r1 := (some (.int v42))) dX11_entry_61 ok_X11_isWeek is_X11_isWeek ml_X11_95 hD39 rfl rfl (Nat.le_of_ble_eq_true rfl) (by decide +kernel) hC40 ?_
              refine E_if_ne 73 dX11_entry_64 (by decide) (fun c => ?_) (fun c => ?_)
              · rw [if_neg c] at h
                refine E_aload_n 0 dX11_entry_73 rfl rfl ?_
                refine E_getR 1 dX11_entry_74 fl_X11_10 rfl (sk_0 hs41) (sn hs41 (by decide)) (sr_0_0 hs41) ?_
                refine E_getR 13 dX11_entry_77 fl_X11_286 rfl (sk_1 hs41) (sn hs41 (by decide)) (sr_1_7 hs41) ?_
                obtain ⟨d43, v48, σ44, hD45, hC46, h⟩ := h
                have hs47 := hC46.1.2.2.2.1 hs41
                refine E_callV (As := []) (rest := []) (r1 := (some (.int v48))) (b := 13) dX11_entry_80 ok_X8_isFull in_X8_isFull se_X8_isFull ml_X11_160 hD45 rfl rfl (Nat.le_of_ble_eq_true rfl) (sk_13 hs41) (sn hs41 (by decide)) (by decide) rfl (by decide +kernel) hC46 ?_
                refine E_if_eq 93 dX11_entry_83 (by decide) (fun c => ?_) (fun c => ?_)
                · rw [if_pos c] at h
                  exact E_lv [0, 1, 2, 3, 4, 5, 6, 7] rfl (w_X11_entry_93 hs47 h)
                · rw [if_neg c] at h
                  exact E_lv [0] rfl (w_X11_entry_86 hs47 h)
              · rw [if_pos c] at h
                exact E_lv [0] rfl (w_X11_entry_67 hs41 h)
def W_X11_entry_211 (X : Sx) (l : Launch) (D : Nat) (x8 : Int32) (x9 : Int32) (σ : AH) (r : Option Value) (σ' : AH) : Prop := (if (3 : Int32) ≤ x9 then ∃ d102 : Nat, ∃ v107 : Int32, ∃ σ103 : AH, d102 + 1 ≤ D ∧ Call X l m_X11_answer d102 [.ref 0, .int x8] (sI σ 0 13 ((gI σ 0 13) + (1 : Int32))) (some (.int v107)) σ103 ∧ (r = some (.int v107) ∧ σ' = σ103) else ∃ d108 : Nat, ∃ σ109 : AH, d108 + 1 ≤ D ∧ Call X l m_X8_put d108 [.ref 13, .int x8, .int ((7 : Int32) + x9), .int (-1 : Int32)] σ none σ109 ∧ E X l m_X11_entry D 211 [(0, .ref 0), (8, .int x8), (9, .int (x9 + 1))] [] σ109 r σ')
set_option maxRecDepth 100000 in
theorem w_X11_entry_211 {X : Sx} {l : Launch} {D : Nat} {x8 : Int32} {x9 : Int32} {σ : AH} {r : Option Value} {σ' : AH} (hs : Sh σ) (h : W_X11_entry_211 X l D x8 x9 σ r σ') : E X l m_X11_entry D 211 [(0, .ref 0), (8, .int x8), (9, .int x9)] [] σ r σ' := by
  unfold W_X11_entry_211 at h
  refine E_iload 2 dX11_entry_211 rfl ?_
  refine E_iconst (3 : Int32) dX11_entry_213 (by decide) ?_
  refine E_icmp_ge 241 dX11_entry_214 (by decide) (fun c => ?_) (fun c => ?_)
  · rw [if_pos c] at h
    refine E_aload_n 0 dX11_entry_241 rfl rfl ?_
    refine E_dup dX11_entry_242 rfl ?_
    refine E_getI dX11_entry_243 fl_X11_289 rfl (sk_0 hs) (sn hs (by decide)) ?_
    refine E_iconst (1 : Int32) dX11_entry_246 (by decide) ?_
    refine E_iadd dX11_entry_247 ?_
    refine E_putI dX11_entry_248 fl_X11_289 rfl (Or.inl rfl) (sk_0 hs) (sn hs (by decide)) (Or.inl (by decide)) rfl rfl ?_
    refine E_aload_n 0 dX11_entry_251 rfl rfl ?_
    refine E_iload 1 dX11_entry_252 rfl ?_
    obtain ⟨d102, v107, σ103, hD104, hC105, h⟩ := h
    have hs106 := hC105.1.2.2.2.1 hs
    refine E_callV (As := [.int x8]) (rest := []) (r1 := (some (.int v107))) (b := 0) dX11_entry_254 ok_X11_answer in_X11_answer se_X11_answer ml_X11_105 hD104 rfl rfl (Nat.le_of_ble_eq_true rfl) (sk_0 hs) (sn hs (by decide)) (by decide) rfl (by decide +kernel) hC105 ?_
    obtain ⟨rfl, rfl⟩ := h
    exact E_iret dX11_entry_257 rfl
  · rw [if_neg c] at h
    refine E_aload_n 0 dX11_entry_217 rfl rfl ?_
    refine E_getR 1 dX11_entry_218 fl_X11_10 rfl (sk_0 hs) (sn hs (by decide)) (sr_0_0 hs) ?_
    refine E_getR 13 dX11_entry_221 fl_X11_286 rfl (sk_1 hs) (sn hs (by decide)) (sr_1_7 hs) ?_
    refine E_iload 1 dX11_entry_224 rfl ?_
    refine E_bipush (7 : Int32) dX11_entry_226 (by decide) ?_
    refine E_iload 2 dX11_entry_228 rfl ?_
    refine E_iadd dX11_entry_230 ?_
    refine E_iconst (-1 : Int32) dX11_entry_231 (by decide) ?_
    obtain ⟨d108, σ109, hD110, hC111, h⟩ := h
    have hs112 := hC111.1.2.2.2.1 hs
    refine E_callV (As := [.int x8, .int ((7 : Int32) + x9), .int (-1 : Int32)]) (rest := []) (r1 := none) (b := 13) dX11_entry_232 ok_X8_put in_X8_put se_X8_put ml_X11_169 hD110 rfl rfl (Nat.le_of_ble_eq_true rfl) (sk_13 hs) (sn hs (by decide)) (by decide) rfl (by decide +kernel) hC111 ?_
    refine E_iinc 2 (x9 + 1) [(9, .int (x9 + 1)), (0, .ref 0), (8, .int x8)] dX11_entry_235 rfl (congrArg (x9 + ·) (by decide : Int32.ofInt 1 = 1)) (by decide) rfl ?_
    refine E_goto 211 dX11_entry_238 (by decide) ?_
    exact E_lv [1, 2, 0] rfl h
def W_X11_mark_20 (X : Sx) (l : Launch) (D : Nat) (σ : AH) (r : Option Value) (σ' : AH) : Prop := ∃ d48 : Nat, ∃ v53 : Int32, ∃ σ49 : AH, d48 + 1 ≤ D ∧ Call X l m_X11_answer d48 [.ref 0, .int (-1 : Int32)] σ (some (.int v53)) σ49 ∧ (r = some (.int v53) ∧ σ' = σ49)
set_option maxRecDepth 100000 in
theorem w_X11_mark_20 {X : Sx} {l : Launch} {D : Nat} {σ : AH} {r : Option Value} {σ' : AH} (hs : Sh σ) (h : W_X11_mark_20 X l D σ r σ') : E X l m_X11_mark D 20 [(0, .ref 0)] [] σ r σ' := by
  unfold W_X11_mark_20 at h
  refine E_aload_n 0 dX11_mark_20 rfl rfl ?_
  refine E_iconst (-1 : Int32) dX11_mark_21 (by decide) ?_
  obtain ⟨d48, v53, σ49, hD50, hC51, h⟩ := h
  have hs52 := hC51.1.2.2.2.1 hs
  refine E_callV (As := [.int (-1 : Int32)]) (rest := []) (r1 := (some (.int v53))) (b := 0) dX11_mark_22 ok_X11_answer in_X11_answer se_X11_answer ml_X11_105 hD50 rfl rfl (Nat.le_of_ble_eq_true rfl) (sk_0 hs) (sn hs (by decide)) (by decide) rfl (by decide +kernel) hC51 ?_
  obtain ⟨rfl, rfl⟩ := h
  exact E_iret dX11_mark_25 rfl
def W_X11_mark_0 (X : Sx) (l : Launch) (D : Nat) (x1 : Int32) (x2 : Int32) (x3 : Int32) (σ : AH) (r : Option Value) (σ' : AH) : Prop := ∃ d1 : Nat, ∃ v6 : Int32, ∃ σ2 : AH, d1 + 1 ≤ D ∧ Call X l m_X11_isIn d1 [.int x2, .int (0 : Int32), .int (2 : Int32)] σ (some (.int v6)) σ2 ∧ (if v6 = 0 then W_X11_mark_20 X l D σ2 r σ' else ∃ d7 : Nat, ∃ v12 : Int32, ∃ σ8 : AH, d7 + 1 ≤ D ∧ Call X l m_X11_isIn d7 [.int x3, .int (0 : Int32), .int (9999 : Int32)] σ2 (some (.int v12)) σ8 ∧ (if v12 = 0 then W_X11_mark_20 X l D σ8 r σ' else ∃ d13 : Nat, ∃ v18 : Int32, ∃ σ14 : AH, d13 + 1 ≤ D ∧ Call X l m_X11_isEntry d13 [.ref 0, .int x1] σ8 (some (.int v18)) σ14 ∧ (if v18 = 0 then ∃ d42 : Nat, ∃ v47 : Int32, ∃ σ43 : AH, d42 + 1 ≤ D ∧ Call X l m_X11_answer d42 [.ref 0, .int (-2 : Int32)] σ14 (some (.int v47)) σ43 ∧ (r = some (.int v47) ∧ σ' = σ43) else ∃ d19 : Nat, ∃ v24 : Int32, ∃ σ20 : AH, d19 + 1 ≤ D ∧ Call X l m_X8_at d19 [.ref 13, .int x1, .int ((7 : Int32) + x2)] σ14 (some (.int v24)) σ20 ∧ (if v24 = (-1 : Int32) then ∃ d25 : Nat, ∃ σ26 : AH, d25 + 1 ≤ D ∧ Call X l m_X8_put d25 [.ref 13, .int x1, .int ((7 : Int32) + x2), .int x3] σ20 none σ26 ∧ ∃ d30 : Nat, ∃ v35 : Int32, ∃ σ31 : AH, d30 + 1 ≤ D ∧ Call X l m_X11_answer d30 [.ref 0, .int (0 : Int32)] (sI σ26 0 13 ((gI σ26 0 13) + (1 : Int32))) (some (.int v35)) σ31 ∧ (r = some (.int v35) ∧ σ' = σ31) else ∃ d36 : Nat, ∃ v41 : Int32, ∃ σ37 : AH, d36 + 1 ≤ D ∧ Call X l m_X11_answer d36 [.ref 0, .int (-4 : Int32)] σ20 (some (.int v41)) σ37 ∧ (r = some (.int v41) ∧ σ' = σ37)))))
set_option maxRecDepth 100000 in
theorem w_X11_mark_0 {X : Sx} {l : Launch} {D : Nat} {x1 : Int32} {x2 : Int32} {x3 : Int32} {σ : AH} {r : Option Value} {σ' : AH} (hs : Sh σ) (h : W_X11_mark_0 X l D x1 x2 x3 σ r σ') : E X l m_X11_mark D 0 [(0, .ref 0), (1, .int x1), (2, .int x2), (3, .int x3)] [] σ r σ' := by
  unfold W_X11_mark_0 at h
  refine E_iload_n 2 dX11_mark_0 rfl rfl ?_
  refine E_iconst (0 : Int32) dX11_mark_1 (by decide) ?_
  refine E_iconst (2 : Int32) dX11_mark_2 (by decide) ?_
  obtain ⟨d1, v6, σ2, hD3, hC4, h⟩ := h
  have hs5 := hC4.1.2.2.2.1 hs
  refine E_callS (As := [.int x2, .int (0 : Int32), .int (2 : Int32)]) (rest := []) (r1 := (some (.int v6))) dX11_mark_3 ok_X11_isIn is_X11_isIn ml_X11_124 hD3 rfl rfl (Nat.le_of_ble_eq_true rfl) (by decide +kernel) hC4 ?_
  refine E_if_eq 20 dX11_mark_6 (by decide) (fun c => ?_) (fun c => ?_)
  · rw [if_pos c] at h
    exact E_lv [0] rfl (w_X11_mark_20 hs5 h)
  · rw [if_neg c] at h
    refine E_iload_n 3 dX11_mark_9 rfl rfl ?_
    refine E_iconst (0 : Int32) dX11_mark_10 (by decide) ?_
    refine E_sipush (9999 : Int32) dX11_mark_11 (by decide) ?_
    obtain ⟨d7, v12, σ8, hD9, hC10, h⟩ := h
    have hs11 := hC10.1.2.2.2.1 hs5
    refine E_callS (As := [.int x3, .int (0 : Int32), .int (9999 : Int32)]) (rest := []) (r1 := (some (.int v12))) dX11_mark_14 ok_X11_isIn is_X11_isIn ml_X11_124 hD9 rfl rfl (Nat.le_of_ble_eq_true rfl) (by decide +kernel) hC10 ?_
    refine E_if_ne 26 dX11_mark_17 (by decide) (fun c => ?_) (fun c => ?_)
    · rw [if_neg c] at h
      refine E_aload_n 0 dX11_mark_26 rfl rfl ?_
      refine E_iload_n 1 dX11_mark_27 rfl rfl ?_
      obtain ⟨d13, v18, σ14, hD15, hC16, h⟩ := h
      have hs17 := hC16.1.2.2.2.1 hs11
      refine E_callV (As := [.int x1]) (rest := []) (r1 := (some (.int v18))) (b := 0) dX11_mark_28 ok_X11_isEntry in_X11_isEntry se_X11_isEntry ml_X11_292 hD15 rfl rfl (Nat.le_of_ble_eq_true rfl) (sk_0 hs11) (sn hs11 (by decide)) (by decide) rfl (by decide +kernel) hC16 ?_
      refine E_if_ne 41 dX11_mark_31 (by decide) (fun c => ?_) (fun c => ?_)
      · rw [if_neg c] at h
        refine E_aload_n 0 dX11_mark_41 rfl rfl ?_
        refine E_getR 1 dX11_mark_42 fl_X11_10 rfl (sk_0 hs17) (sn hs17 (by decide)) (sr_0_0 hs17) ?_
        refine E_getR 13 dX11_mark_45 fl_X11_286 rfl (sk_1 hs17) (sn hs17 (by decide)) (sr_1_7 hs17) ?_
        refine E_iload_n 1 dX11_mark_48 rfl rfl ?_
        refine E_bipush (7 : Int32) dX11_mark_49 (by decide) ?_
        refine E_iload_n 2 dX11_mark_51 rfl rfl ?_
        refine E_iadd dX11_mark_52 ?_
        obtain ⟨d19, v24, σ20, hD21, hC22, h⟩ := h
        have hs23 := hC22.1.2.2.2.1 hs17
        refine E_callV (As := [.int x1, .int ((7 : Int32) + x2)]) (rest := []) (r1 := (some (.int v24))) (b := 13) dX11_mark_53 ok_X8_at in_X8_at se_X8_at ml_X11_223 hD21 rfl rfl (Nat.le_of_ble_eq_true rfl) (sk_13 hs17) (sn hs17 (by decide)) (by decide) rfl (by decide +kernel) hC22 ?_
        refine E_iconst (-1 : Int32) dX11_mark_56 (by decide) ?_
        refine E_icmp_eq 67 dX11_mark_57 (by decide) (fun c => ?_) (fun c => ?_)
        · rw [if_pos c] at h
          refine E_aload_n 0 dX11_mark_67 rfl rfl ?_
          refine E_getR 1 dX11_mark_68 fl_X11_10 rfl (sk_0 hs23) (sn hs23 (by decide)) (sr_0_0 hs23) ?_
          refine E_getR 13 dX11_mark_71 fl_X11_286 rfl (sk_1 hs23) (sn hs23 (by decide)) (sr_1_7 hs23) ?_
          refine E_iload_n 1 dX11_mark_74 rfl rfl ?_
          refine E_bipush (7 : Int32) dX11_mark_75 (by decide) ?_
          refine E_iload_n 2 dX11_mark_77 rfl rfl ?_
          refine E_iadd dX11_mark_78 ?_
          refine E_iload_n 3 dX11_mark_79 rfl rfl ?_
          obtain ⟨d25, σ26, hD27, hC28, h⟩ := h
          have hs29 := hC28.1.2.2.2.1 hs23
          refine E_callV (As := [.int x1, .int ((7 : Int32) + x2), .int x3]) (rest := []) (r1 := none) (b := 13) dX11_mark_80 ok_X8_put in_X8_put se_X8_put ml_X11_169 hD27 rfl rfl (Nat.le_of_ble_eq_true rfl) (sk_13 hs23) (sn hs23 (by decide)) (by decide) rfl (by decide +kernel) hC28 ?_
          refine E_aload_n 0 dX11_mark_83 rfl rfl ?_
          refine E_dup dX11_mark_84 rfl ?_
          refine E_getI dX11_mark_85 fl_X11_289 rfl (sk_0 hs29) (sn hs29 (by decide)) ?_
          refine E_iconst (1 : Int32) dX11_mark_88 (by decide) ?_
          refine E_iadd dX11_mark_89 ?_
          refine E_putI dX11_mark_90 fl_X11_289 rfl (Or.inl rfl) (sk_0 hs29) (sn hs29 (by decide)) (Or.inl (by decide)) rfl rfl ?_
          refine E_aload_n 0 dX11_mark_93 rfl rfl ?_
          refine E_iconst (0 : Int32) dX11_mark_94 (by decide) ?_
          obtain ⟨d30, v35, σ31, hD32, hC33, h⟩ := h
          have hs34 := hC33.1.2.2.2.1 hs29
          refine E_callV (As := [.int (0 : Int32)]) (rest := []) (r1 := (some (.int v35))) (b := 0) dX11_mark_95 ok_X11_answer in_X11_answer se_X11_answer ml_X11_105 hD32 rfl rfl (Nat.le_of_ble_eq_true rfl) (sk_0 hs29) (sn hs29 (by decide)) (by decide) rfl (by decide +kernel) hC33 ?_
          obtain ⟨rfl, rfl⟩ := h
          exact E_iret dX11_mark_98 rfl
        · rw [if_neg c] at h
          refine E_aload_n 0 dX11_mark_60 rfl rfl ?_
          refine E_bipush (-4 : Int32) dX11_mark_61 (by decide) ?_
          obtain ⟨d36, v41, σ37, hD38, hC39, h⟩ := h
          have hs40 := hC39.1.2.2.2.1 hs23
          refine E_callV (As := [.int (-4 : Int32)]) (rest := []) (r1 := (some (.int v41))) (b := 0) dX11_mark_63 ok_X11_answer in_X11_answer se_X11_answer ml_X11_105 hD38 rfl rfl (Nat.le_of_ble_eq_true rfl) (sk_0 hs23) (sn hs23 (by decide)) (by decide) rfl (by decide +kernel) hC39 ?_
          obtain ⟨rfl, rfl⟩ := h
          exact E_iret dX11_mark_66 rfl
      · rw [if_pos c] at h
        refine E_aload_n 0 dX11_mark_34 rfl rfl ?_
        refine E_bipush (-2 : Int32) dX11_mark_35 (by decide) ?_
        obtain ⟨d42, v47, σ43, hD44, hC45, h⟩ := h
        have hs46 := hC45.1.2.2.2.1 hs17
        refine E_callV (As := [.int (-2 : Int32)]) (rest := []) (r1 := (some (.int v47))) (b := 0) dX11_mark_37 ok_X11_answer in_X11_answer se_X11_answer ml_X11_105 hD44 rfl rfl (Nat.le_of_ble_eq_true rfl) (sk_0 hs17) (sn hs17 (by decide)) (by decide) rfl (by decide +kernel) hC45 ?_
        obtain ⟨rfl, rfl⟩ := h
        exact E_iret dX11_mark_40 rfl
    · rw [if_pos c] at h
      exact E_lv [0] rfl (w_X11_mark_20 hs11 h)
def W_X11_family_0 (X : Sx) (l : Launch) (D : Nat) (x1 : Int32) (x2 : Int32) (σ : AH) (r : Option Value) (σ' : AH) : Prop := ∃ d1 : Nat, ∃ v6 : Int32, ∃ σ2 : AH, d1 + 1 ≤ D ∧ Call X l m_X11_isWeek d1 [.int x2] σ (some (.int v6)) σ2 ∧ (if v6 = 0 then (r = some (.int (-1 : Int32)) ∧ σ' = σ2) else ∃ d7 : Nat, ∃ v12 : Int32, ∃ σ8 : AH, d7 + 1 ≤ D ∧ Call X l m_X11_isKnownEntry d7 [.ref 0, .int x1, .int x2] σ2 (some (.int v12)) σ8 ∧ (if v12 = 0 then (r = some (.int (-1 : Int32)) ∧ σ' = σ8) else ∃ d13 : Nat, ∃ σ14 : AH, d13 + 1 ≤ D ∧ Call X l m_X4_join d13 [.ref 113, .int x2, .int (gI σ8 0 13)] σ8 none σ14 ∧ vp_in x1 60 ∧ (r = some (.int (gI σ14 114 x1.toNatClampNeg)) ∧ σ' = σ14)))
set_option maxRecDepth 100000 in
theorem w_X11_family_0 {X : Sx} {l : Launch} {D : Nat} {x1 : Int32} {x2 : Int32} {σ : AH} {r : Option Value} {σ' : AH} (hs : Sh σ) (h : W_X11_family_0 X l D x1 x2 σ r σ') : E X l m_X11_family D 0 [(0, .ref 0), (1, .int x1), (2, .int x2)] [] σ r σ' := by
  unfold W_X11_family_0 at h
  refine E_iload_n 2 dX11_family_0 rfl rfl ?_
  obtain ⟨d1, v6, σ2, hD3, hC4, h⟩ := h
  have hs5 := hC4.1.2.2.2.1 hs
  refine E_callS (As := [.int x2]) (rest := []) (r1 := (some (.int v6))) dX11_family_1 ok_X11_isWeek is_X11_isWeek ml_X11_95 hD3 rfl rfl (Nat.le_of_ble_eq_true rfl) (by decide +kernel) hC4 ?_
  refine E_if_eq 16 dX11_family_4 (by decide) (fun c => ?_) (fun c => ?_)
  · rw [if_pos c] at h
    refine E_iconst (-1 : Int32) dX11_family_16 (by decide) ?_
    obtain ⟨rfl, rfl⟩ := h
    exact E_iret dX11_family_17 rfl
  · rw [if_neg c] at h
    refine E_aload_n 0 dX11_family_7 rfl rfl ?_
    refine E_iload_n 1 dX11_family_8 rfl rfl ?_
    refine E_iload_n 2 dX11_family_9 rfl rfl ?_
    obtain ⟨d7, v12, σ8, hD9, hC10, h⟩ := h
    have hs11 := hC10.1.2.2.2.1 hs5
    refine E_callV (As := [.int x1, .int x2]) (rest := []) (r1 := (some (.int v12))) (b := 0) dX11_family_10 ok_X11_isKnownEntry in_X11_isKnownEntry se_X11_isKnownEntry ml_X11_295 hD9 rfl rfl (Nat.le_of_ble_eq_true rfl) (sk_0 hs5) (sn hs5 (by decide)) (by decide) rfl (by decide +kernel) hC10 ?_
    refine E_if_ne 18 dX11_family_13 (by decide) (fun c => ?_) (fun c => ?_)
    · rw [if_neg c] at h
      refine E_aload_n 0 dX11_family_18 rfl rfl ?_
      refine E_getR 113 dX11_family_19 fl_X11_67 rfl (sk_0 hs11) (sn hs11 (by decide)) (sr_0_8 hs11) ?_
      refine E_iload_n 2 dX11_family_22 rfl rfl ?_
      refine E_aload_n 0 dX11_family_23 rfl rfl ?_
      refine E_getI dX11_family_24 fl_X11_289 rfl (sk_0 hs11) (sn hs11 (by decide)) ?_
      obtain ⟨d13, σ14, hD15, hC16, h⟩ := h
      have hs17 := hC16.1.2.2.2.1 hs11
      refine E_callV (As := [.int x2, .int (gI σ8 0 13)]) (rest := []) (r1 := none) (b := 113) dX11_family_27 ok_X4_join in_X4_join se_X4_join ml_X11_298 hD15 rfl rfl (Nat.le_of_ble_eq_true rfl) (sk_113 hs11) (sn hs11 (by decide)) (by decide) rfl (by decide +kernel) hC16 ?_
      refine E_aload_n 0 dX11_family_30 rfl rfl ?_
      refine E_getR 113 dX11_family_31 fl_X11_67 rfl (sk_0 hs17) (sn hs17 (by decide)) (sr_0_8 hs17) ?_
      refine E_getR 114 dX11_family_34 fl_X11_301 rfl (sk_113 hs17) (sn hs17 (by decide)) (sr_113_2 hs17) ?_
      refine E_iload_n 1 dX11_family_37 rfl rfl ?_
      obtain ⟨g18, h⟩ := h
      refine E_iald2 (x1.toNatClampNeg) dX11_family_38 (sk_114 hs17) (sn hs17 (by decide)) g18 rfl ?_
      obtain ⟨rfl, rfl⟩ := h
      exact E_iret dX11_family_39 rfl
    · rw [if_pos c] at h
      refine E_iconst (-1 : Int32) dX11_family_16 (by decide) ?_
      obtain ⟨rfl, rfl⟩ := h
      exact E_iret dX11_family_17 rfl
def W_X11_points_0 (X : Sx) (l : Launch) (D : Nat) (x1 : Int32) (x2 : Int32) (x3 : Int32) (σ : AH) (r : Option Value) (σ' : AH) : Prop := ∃ d1 : Nat, ∃ v6 : Int32, ∃ σ2 : AH, d1 + 1 ≤ D ∧ Call X l m_X11_isWeek d1 [.int x2] σ (some (.int v6)) σ2 ∧ (if v6 = 0 then (r = some (.int (-2000000000 : Int32)) ∧ σ' = σ2) else ∃ d7 : Nat, ∃ v12 : Int32, ∃ σ8 : AH, d7 + 1 ≤ D ∧ Call X l m_X11_isWeek d7 [.int x3] σ2 (some (.int v12)) σ8 ∧ (if v12 = 0 then (r = some (.int (-2000000000 : Int32)) ∧ σ' = σ8) else ∃ d13 : Nat, ∃ v18 : Int32, ∃ σ14 : AH, d13 + 1 ≤ D ∧ Call X l m_X11_isKnownEntry d13 [.ref 0, .int x1, .int x3] σ8 (some (.int v18)) σ14 ∧ (if v18 = 0 then (r = some (.int (-2000000000 : Int32)) ∧ σ' = σ14) else ∃ d19 : Nat, ∃ σ20 : AH, d19 + 1 ≤ D ∧ Call X l m_X3_settle d19 [.ref 28, .int x2, .int x3] σ14 none σ20 ∧ ∃ d24 : Nat, ∃ v29 : Int64, ∃ σ25 : AH, d24 + 1 ≤ D ∧ Call X l m_X4_weightOf d24 [.ref 113, .int x1, .int x2] σ20 (some (.long v29)) σ25 ∧ 1 ≤ D ∧ 1 ≤ D ∧ (r = some (.int ((lmax (-1000000000 : Int64) (lmin (1000000000 : Int64) v29))).toInt32) ∧ σ' = σ25))))
set_option maxRecDepth 100000 in
theorem w_X11_points_0 {X : Sx} {l : Launch} {D : Nat} {x1 : Int32} {x2 : Int32} {x3 : Int32} {σ : AH} {r : Option Value} {σ' : AH} (hs : Sh σ) (h : W_X11_points_0 X l D x1 x2 x3 σ r σ') : E X l m_X11_points D 0 [(0, .ref 0), (1, .int x1), (2, .int x2), (3, .int x3)] [] σ r σ' := by
  unfold W_X11_points_0 at h
  refine E_iload_n 2 dX11_points_0 rfl rfl ?_
  obtain ⟨d1, v6, σ2, hD3, hC4, h⟩ := h
  have hs5 := hC4.1.2.2.2.1 hs
  refine E_callS (As := [.int x2]) (rest := []) (r1 := (some (.int v6))) dX11_points_1 ok_X11_isWeek is_X11_isWeek ml_X11_95 hD3 rfl rfl (Nat.le_of_ble_eq_true rfl) (by decide +kernel) hC4 ?_
  refine E_if_eq 23 dX11_points_4 (by decide) (fun c => ?_) (fun c => ?_)
  · rw [if_pos c] at h
    refine E_ldc (-2000000000 : Int32) dX11_points_23 ct_X11_229 ?_
    obtain ⟨rfl, rfl⟩ := h
    exact E_iret dX11_points_25 rfl
  · rw [if_neg c] at h
    refine E_iload_n 3 dX11_points_7 rfl rfl ?_
    obtain ⟨d7, v12, σ8, hD9, hC10, h⟩ := h
    have hs11 := hC10.1.2.2.2.1 hs5
    refine E_callS (As := [.int x3]) (rest := []) (r1 := (some (.int v12))) dX11_points_8 ok_X11_isWeek is_X11_isWeek ml_X11_95 hD9 rfl rfl (Nat.le_of_ble_eq_true rfl) (by decide +kernel) hC10 ?_
    refine E_if_eq 23 dX11_points_11 (by decide) (fun c => ?_) (fun c => ?_)
    · rw [if_pos c] at h
      refine E_ldc (-2000000000 : Int32) dX11_points_23 ct_X11_229 ?_
      obtain ⟨rfl, rfl⟩ := h
      exact E_iret dX11_points_25 rfl
    · rw [if_neg c] at h
      refine E_aload_n 0 dX11_points_14 rfl rfl ?_
      refine E_iload_n 1 dX11_points_15 rfl rfl ?_
      refine E_iload_n 3 dX11_points_16 rfl rfl ?_
      obtain ⟨d13, v18, σ14, hD15, hC16, h⟩ := h
      have hs17 := hC16.1.2.2.2.1 hs11
      refine E_callV (As := [.int x1, .int x3]) (rest := []) (r1 := (some (.int v18))) (b := 0) dX11_points_17 ok_X11_isKnownEntry in_X11_isKnownEntry se_X11_isKnownEntry ml_X11_295 hD15 rfl rfl (Nat.le_of_ble_eq_true rfl) (sk_0 hs11) (sn hs11 (by decide)) (by decide) rfl (by decide +kernel) hC16 ?_
      refine E_if_ne 26 dX11_points_20 (by decide) (fun c => ?_) (fun c => ?_)
      · rw [if_neg c] at h
        refine E_aload_n 0 dX11_points_26 rfl rfl ?_
        refine E_getR 28 dX11_points_27 fl_X11_32 rfl (sk_0 hs17) (sn hs17 (by decide)) (sr_0_3 hs17) ?_
        refine E_iload_n 2 dX11_points_30 rfl rfl ?_
        refine E_iload_n 3 dX11_points_31 rfl rfl ?_
        obtain ⟨d19, σ20, hD21, hC22, h⟩ := h
        have hs23 := hC22.1.2.2.2.1 hs17
        refine E_callV (As := [.int x2, .int x3]) (rest := []) (r1 := none) (b := 28) dX11_points_32 ok_X3_settle in_X3_settle se_X3_settle ml_X11_131 hD21 rfl rfl (Nat.le_of_ble_eq_true rfl) (sk_28 hs17) (sn hs17 (by decide)) (by decide) rfl (by decide +kernel) hC22 ?_
        refine E_ldc2 (-1000000000 : Int64) dX11_points_35 cl_X11_304 ?_
        refine E_ldc2 (1000000000 : Int64) dX11_points_38 cl_X11_306 ?_
        refine E_aload_n 0 dX11_points_41 rfl rfl ?_
        refine E_getR 113 dX11_points_42 fl_X11_67 rfl (sk_0 hs23) (sn hs23 (by decide)) (sr_0_8 hs23) ?_
        refine E_iload_n 1 dX11_points_45 rfl rfl ?_
        refine E_iload_n 2 dX11_points_46 rfl rfl ?_
        obtain ⟨d24, v29, σ25, hD26, hC27, h⟩ := h
        have hs28 := hC27.1.2.2.2.1 hs23
        refine E_callV (As := [.int x1, .int x2]) (rest := [.long (1000000000 : Int64), .long (-1000000000 : Int64)]) (r1 := (some (.long v29))) (b := 113) dX11_points_47 ok_X4_weightOf in_X4_weightOf se_X4_weightOf ml_X11_308 hD26 rfl rfl (Nat.le_of_ble_eq_true rfl) (sk_113 hs23) (sn hs23 (by decide)) (by decide) rfl (by decide +kernel) hC27 ?_
        obtain ⟨g30, h⟩ := h
        refine E_lmin dX11_points_50 mm_X11_312 g30 (Nat.le_of_ble_eq_true rfl) ?_
        obtain ⟨g31, h⟩ := h
        refine E_lmax dX11_points_53 mm_X11_316 g31 (Nat.le_of_ble_eq_true rfl) ?_
        refine E_l2i dX11_points_56 ?_
        obtain ⟨rfl, rfl⟩ := h
        exact E_iret dX11_points_57 rfl
      · rw [if_pos c] at h
        refine E_ldc (-2000000000 : Int32) dX11_points_23 ct_X11_229 ?_
        obtain ⟨rfl, rfl⟩ := h
        exact E_iret dX11_points_25 rfl
def W_X11_order_0 (X : Sx) (l : Launch) (D : Nat) (x1 : Int32) (x2 : Int32) (x3 : Int32) (x4 : Int32) (σ : AH) (r : Option Value) (σ' : AH) : Prop := ∃ d1 : Nat, ∃ v6 : Int32, ∃ σ2 : AH, d1 + 1 ≤ D ∧ Call X l m_X11_isIn d1 [.int x1, .int (0 : Int32), .int (5 : Int32)] σ (some (.int v6)) σ2 ∧ (if v6 = 0 then (r = some (.int (-1 : Int32)) ∧ σ' = σ2) else ∃ d7 : Nat, ∃ v12 : Int32, ∃ σ8 : AH, d7 + 1 ≤ D ∧ Call X l m_X11_isWeek d7 [.int x2] σ2 (some (.int v12)) σ8 ∧ (if v12 = 0 then (r = some (.int (-1 : Int32)) ∧ σ' = σ8) else ∃ d13 : Nat, ∃ v18 : Int32, ∃ σ14 : AH, d13 + 1 ≤ D ∧ Call X l m_X11_isWeek d13 [.int x3] σ8 (some (.int v18)) σ14 ∧ (if v18 = 0 then (r = some (.int (-1 : Int32)) ∧ σ' = σ14) else ∃ d19 : Nat, ∃ σ20 : AH, d19 + 1 ≤ D ∧ Call X l m_X4_sort d19 [.ref 113, .int x1, .int x2, .int x3] σ14 none σ20 ∧ (if x4 = (-1 : Int32) then vp_in x1 6 ∧ (r = some (.int (gI σ20 116 x1.toNatClampNeg)) ∧ σ' = σ20) else vp_in x1 6 ∧ ∃ d25 : Nat, ∃ v30 : Int32, ∃ σ26 : AH, d25 + 1 ≤ D ∧ Call X l m_X11_isIn d25 [.int x4, .int (0 : Int32), .int ((gI σ20 116 x1.toNatClampNeg) - (1 : Int32))] σ20 (some (.int v30)) σ26 ∧ (if v30 = 0 then (r = some (.int (-1 : Int32)) ∧ σ' = σ26) else vp_in ((x1 * (60 : Int32)) + x4) 360 ∧ (r = some (.int (gI σ26 115 ((x1 * (60 : Int32)) + x4).toNatClampNeg)) ∧ σ' = σ26))))))
set_option maxRecDepth 100000 in
theorem w_X11_order_0 {X : Sx} {l : Launch} {D : Nat} {x1 : Int32} {x2 : Int32} {x3 : Int32} {x4 : Int32} {σ : AH} {r : Option Value} {σ' : AH} (hs : Sh σ) (h : W_X11_order_0 X l D x1 x2 x3 x4 σ r σ') : E X l m_X11_order D 0 [(0, .ref 0), (1, .int x1), (2, .int x2), (3, .int x3), (4, .int x4)] [] σ r σ' := by
  unfold W_X11_order_0 at h
  refine E_iload_n 1 dX11_order_0 rfl rfl ?_
  refine E_iconst (0 : Int32) dX11_order_1 (by decide) ?_
  refine E_iconst (5 : Int32) dX11_order_2 (by decide) ?_
  obtain ⟨d1, v6, σ2, hD3, hC4, h⟩ := h
  have hs5 := hC4.1.2.2.2.1 hs
  refine E_callS (As := [.int x1, .int (0 : Int32), .int (5 : Int32)]) (rest := []) (r1 := (some (.int v6))) dX11_order_3 ok_X11_isIn is_X11_isIn ml_X11_124 hD3 rfl rfl (Nat.le_of_ble_eq_true rfl) (by decide +kernel) hC4 ?_
  refine E_if_eq 23 dX11_order_6 (by decide) (fun c => ?_) (fun c => ?_)
  · rw [if_pos c] at h
    refine E_iconst (-1 : Int32) dX11_order_23 (by decide) ?_
    obtain ⟨rfl, rfl⟩ := h
    exact E_iret dX11_order_24 rfl
  · rw [if_neg c] at h
    refine E_iload_n 2 dX11_order_9 rfl rfl ?_
    obtain ⟨d7, v12, σ8, hD9, hC10, h⟩ := h
    have hs11 := hC10.1.2.2.2.1 hs5
    refine E_callS (As := [.int x2]) (rest := []) (r1 := (some (.int v12))) dX11_order_10 ok_X11_isWeek is_X11_isWeek ml_X11_95 hD9 rfl rfl (Nat.le_of_ble_eq_true rfl) (by decide +kernel) hC10 ?_
    refine E_if_eq 23 dX11_order_13 (by decide) (fun c => ?_) (fun c => ?_)
    · rw [if_pos c] at h
      refine E_iconst (-1 : Int32) dX11_order_23 (by decide) ?_
      obtain ⟨rfl, rfl⟩ := h
      exact E_iret dX11_order_24 rfl
    · rw [if_neg c] at h
      refine E_iload_n 3 dX11_order_16 rfl rfl ?_
      obtain ⟨d13, v18, σ14, hD15, hC16, h⟩ := h
      have hs17 := hC16.1.2.2.2.1 hs11
      refine E_callS (As := [.int x3]) (rest := []) (r1 := (some (.int v18))) dX11_order_17 ok_X11_isWeek is_X11_isWeek ml_X11_95 hD15 rfl rfl (Nat.le_of_ble_eq_true rfl) (by decide +kernel) hC16 ?_
      refine E_if_ne 25 dX11_order_20 (by decide) (fun c => ?_) (fun c => ?_)
      · rw [if_neg c] at h
        refine E_aload_n 0 dX11_order_25 rfl rfl ?_
        refine E_getR 113 dX11_order_26 fl_X11_67 rfl (sk_0 hs17) (sn hs17 (by decide)) (sr_0_8 hs17) ?_
        refine E_iload_n 1 dX11_order_29 rfl rfl ?_
        refine E_iload_n 2 dX11_order_30 rfl rfl ?_
        refine E_iload_n 3 dX11_order_31 rfl rfl ?_
        obtain ⟨d19, σ20, hD21, hC22, h⟩ := h
        have hs23 := hC22.1.2.2.2.1 hs17
        refine E_callV (As := [.int x1, .int x2, .int x3]) (rest := []) (r1 := none) (b := 113) dX11_order_32 ok_X4_sort in_X4_sort se_X4_sort ml_X11_318 hD21 rfl rfl (Nat.le_of_ble_eq_true rfl) (sk_113 hs17) (sn hs17 (by decide)) (by decide) rfl (by decide +kernel) hC22 ?_
        refine E_iload 4 dX11_order_35 rfl ?_
        refine E_iconst (-1 : Int32) dX11_order_37 (by decide) ?_
        refine E_icmp_ne 51 dX11_order_38 (by decide) (fun c => ?_) (fun c => ?_)
        · rw [if_neg c] at h
          refine E_iload 4 dX11_order_51 rfl ?_
          refine E_iconst (0 : Int32) dX11_order_53 (by decide) ?_
          refine E_aload_n 0 dX11_order_54 rfl rfl ?_
          refine E_getR 113 dX11_order_55 fl_X11_67 rfl (sk_0 hs23) (sn hs23 (by decide)) (sr_0_8 hs23) ?_
          refine E_getR 116 dX11_order_58 fl_X11_321 rfl (sk_113 hs23) (sn hs23 (by decide)) (sr_113_6 hs23) ?_
          refine E_iload_n 1 dX11_order_61 rfl rfl ?_
          obtain ⟨g24, h⟩ := h
          refine E_iald2 (x1.toNatClampNeg) dX11_order_62 (sk_116 hs23) (sn hs23 (by decide)) g24 rfl ?_
          refine E_iconst (1 : Int32) dX11_order_63 (by decide) ?_
          refine E_isub dX11_order_64 ?_
          obtain ⟨d25, v30, σ26, hD27, hC28, h⟩ := h
          have hs29 := hC28.1.2.2.2.1 hs23
          refine E_callS (As := [.int x4, .int (0 : Int32), .int ((gI σ20 116 x1.toNatClampNeg) - (1 : Int32))]) (rest := []) (r1 := (some (.int v30))) dX11_order_65 ok_X11_isIn is_X11_isIn ml_X11_124 hD27 rfl rfl (Nat.le_of_ble_eq_true rfl) (by decide +kernel) hC28 ?_
          refine E_if_eq 89 dX11_order_68 (by decide) (fun c => ?_) (fun c => ?_)
          · rw [if_pos c] at h
            refine E_iconst (-1 : Int32) dX11_order_89 (by decide) ?_
            obtain ⟨rfl, rfl⟩ := h
            exact E_iret dX11_order_90 rfl
          · rw [if_neg c] at h
            refine E_aload_n 0 dX11_order_71 rfl rfl ?_
            refine E_getR 113 dX11_order_72 fl_X11_67 rfl (sk_0 hs29) (sn hs29 (by decide)) (sr_0_8 hs29) ?_
            refine E_getR 115 dX11_order_75 fl_X11_324 rfl (sk_113 hs29) (sn hs29 (by decide)) (sr_113_5 hs29) ?_
            refine E_iload_n 1 dX11_order_78 rfl rfl ?_
            refine E_bipush (60 : Int32) dX11_order_79 (by decide) ?_
            refine E_imul dX11_order_81 ?_
            refine E_iload 4 dX11_order_82 rfl ?_
            refine E_iadd dX11_order_84 ?_
            obtain ⟨g31, h⟩ := h
            refine E_iald2 (((x1 * (60 : Int32)) + x4).toNatClampNeg) dX11_order_85 (sk_115 hs29) (sn hs29 (by decide)) g31 rfl ?_
            refine E_goto 90 dX11_order_86 (by decide) ?_
            obtain ⟨rfl, rfl⟩ := h
            exact E_iret dX11_order_90 rfl
        · rw [if_pos c] at h
          refine E_aload_n 0 dX11_order_41 rfl rfl ?_
          refine E_getR 113 dX11_order_42 fl_X11_67 rfl (sk_0 hs23) (sn hs23 (by decide)) (sr_0_8 hs23) ?_
          refine E_getR 116 dX11_order_45 fl_X11_321 rfl (sk_113 hs23) (sn hs23 (by decide)) (sr_113_6 hs23) ?_
          refine E_iload_n 1 dX11_order_48 rfl rfl ?_
          obtain ⟨g32, h⟩ := h
          refine E_iald2 (x1.toNatClampNeg) dX11_order_49 (sk_116 hs23) (sn hs23 (by decide)) g32 rfl ?_
          obtain ⟨rfl, rfl⟩ := h
          exact E_iret dX11_order_50 rfl
      · rw [if_pos c] at h
        refine E_iconst (-1 : Int32) dX11_order_23 (by decide) ?_
        obtain ⟨rfl, rfl⟩ := h
        exact E_iret dX11_order_24 rfl
def W_X11_beside_0 (X : Sx) (l : Launch) (D : Nat) (x1 : Int32) (x2 : Int32) (x3 : Int32) (x4 : Int32) (σ : AH) (r : Option Value) (σ' : AH) : Prop := ∃ d1 : Nat, ∃ v6 : Int32, ∃ σ2 : AH, d1 + 1 ≤ D ∧ Call X l m_X11_isIn d1 [.int x1, .int (0 : Int32), .int (5 : Int32)] σ (some (.int v6)) σ2 ∧ (if v6 = 0 then (r = some (.int (-1 : Int32)) ∧ σ' = σ2) else ∃ d7 : Nat, ∃ v12 : Int32, ∃ σ8 : AH, d7 + 1 ≤ D ∧ Call X l m_X11_isWeek d7 [.int x2] σ2 (some (.int v12)) σ8 ∧ (if v12 = 0 then (r = some (.int (-1 : Int32)) ∧ σ' = σ8) else ∃ d13 : Nat, ∃ v18 : Int32, ∃ σ14 : AH, d13 + 1 ≤ D ∧ Call X l m_X11_isWeek d13 [.int x3] σ8 (some (.int v18)) σ14 ∧ (if v18 = 0 then (r = some (.int (-1 : Int32)) ∧ σ' = σ14) else ∃ d19 : Nat, ∃ v24 : Int32, ∃ σ20 : AH, d19 + 1 ≤ D ∧ Call X l m_X11_isWeek d19 [.int x4] σ14 (some (.int v24)) σ20 ∧ (if v24 = 0 then (r = some (.int (-1 : Int32)) ∧ σ' = σ20) else ∃ d25 : Nat, ∃ v30 : Int32, ∃ σ26 : AH, d25 + 1 ≤ D ∧ Call X l m_X4_turned d25 [.ref 113, .int x1, .int x2, .int x3, .int x4] σ20 (some (.int v30)) σ26 ∧ (r = some (.int v30) ∧ σ' = σ26)))))
set_option maxRecDepth 100000 in
theorem w_X11_beside_0 {X : Sx} {l : Launch} {D : Nat} {x1 : Int32} {x2 : Int32} {x3 : Int32} {x4 : Int32} {σ : AH} {r : Option Value} {σ' : AH} (hs : Sh σ) (h : W_X11_beside_0 X l D x1 x2 x3 x4 σ r σ') : E X l m_X11_beside D 0 [(0, .ref 0), (1, .int x1), (2, .int x2), (3, .int x3), (4, .int x4)] [] σ r σ' := by
  unfold W_X11_beside_0 at h
  refine E_iload_n 1 dX11_beside_0 rfl rfl ?_
  refine E_iconst (0 : Int32) dX11_beside_1 (by decide) ?_
  refine E_iconst (5 : Int32) dX11_beside_2 (by decide) ?_
  obtain ⟨d1, v6, σ2, hD3, hC4, h⟩ := h
  have hs5 := hC4.1.2.2.2.1 hs
  refine E_callS (As := [.int x1, .int (0 : Int32), .int (5 : Int32)]) (rest := []) (r1 := (some (.int v6))) dX11_beside_3 ok_X11_isIn is_X11_isIn ml_X11_124 hD3 rfl rfl (Nat.le_of_ble_eq_true rfl) (by decide +kernel) hC4 ?_
  refine E_if_eq 31 dX11_beside_6 (by decide) (fun c => ?_) (fun c => ?_)
  · rw [if_pos c] at h
    refine E_iconst (-1 : Int32) dX11_beside_31 (by decide) ?_
    obtain ⟨rfl, rfl⟩ := h
    exact E_iret dX11_beside_32 rfl
  · rw [if_neg c] at h
    refine E_iload_n 2 dX11_beside_9 rfl rfl ?_
    obtain ⟨d7, v12, σ8, hD9, hC10, h⟩ := h
    have hs11 := hC10.1.2.2.2.1 hs5
    refine E_callS (As := [.int x2]) (rest := []) (r1 := (some (.int v12))) dX11_beside_10 ok_X11_isWeek is_X11_isWeek ml_X11_95 hD9 rfl rfl (Nat.le_of_ble_eq_true rfl) (by decide +kernel) hC10 ?_
    refine E_if_eq 31 dX11_beside_13 (by decide) (fun c => ?_) (fun c => ?_)
    · rw [if_pos c] at h
      refine E_iconst (-1 : Int32) dX11_beside_31 (by decide) ?_
      obtain ⟨rfl, rfl⟩ := h
      exact E_iret dX11_beside_32 rfl
    · rw [if_neg c] at h
      refine E_iload_n 3 dX11_beside_16 rfl rfl ?_
      obtain ⟨d13, v18, σ14, hD15, hC16, h⟩ := h
      have hs17 := hC16.1.2.2.2.1 hs11
      refine E_callS (As := [.int x3]) (rest := []) (r1 := (some (.int v18))) dX11_beside_17 ok_X11_isWeek is_X11_isWeek ml_X11_95 hD15 rfl rfl (Nat.le_of_ble_eq_true rfl) (by decide +kernel) hC16 ?_
      refine E_if_eq 31 dX11_beside_20 (by decide) (fun c => ?_) (fun c => ?_)
      · rw [if_pos c] at h
        refine E_iconst (-1 : Int32) dX11_beside_31 (by decide) ?_
        obtain ⟨rfl, rfl⟩ := h
        exact E_iret dX11_beside_32 rfl
      · rw [if_neg c] at h
        refine E_iload 4 dX11_beside_23 rfl ?_
        obtain ⟨d19, v24, σ20, hD21, hC22, h⟩ := h
        have hs23 := hC22.1.2.2.2.1 hs17
        refine E_callS (As := [.int x4]) (rest := []) (r1 := (some (.int v24))) dX11_beside_25 ok_X11_isWeek is_X11_isWeek ml_X11_95 hD21 rfl rfl (Nat.le_of_ble_eq_true rfl) (by decide +kernel) hC22 ?_
        refine E_if_ne 33 dX11_beside_28 (by decide) (fun c => ?_) (fun c => ?_)
        · rw [if_neg c] at h
          refine E_aload_n 0 dX11_beside_33 rfl rfl ?_
          refine E_getR 113 dX11_beside_34 fl_X11_67 rfl (sk_0 hs23) (sn hs23 (by decide)) (sr_0_8 hs23) ?_
          refine E_iload_n 1 dX11_beside_37 rfl rfl ?_
          refine E_iload_n 2 dX11_beside_38 rfl rfl ?_
          refine E_iload_n 3 dX11_beside_39 rfl rfl ?_
          refine E_iload 4 dX11_beside_40 rfl ?_
          obtain ⟨d25, v30, σ26, hD27, hC28, h⟩ := h
          have hs29 := hC28.1.2.2.2.1 hs23
          refine E_callV (As := [.int x1, .int x2, .int x3, .int x4]) (rest := []) (r1 := (some (.int v30))) (b := 113) dX11_beside_42 ok_X4_turned in_X4_turned se_X4_turned ml_X11_327 hD27 rfl rfl (Nat.le_of_ble_eq_true rfl) (sk_113 hs23) (sn hs23 (by decide)) (by decide) rfl (by decide +kernel) hC28 ?_
          obtain ⟨rfl, rfl⟩ := h
          exact E_iret dX11_beside_45 rfl
        · rw [if_pos c] at h
          refine E_iconst (-1 : Int32) dX11_beside_31 (by decide) ?_
          obtain ⟨rfl, rfl⟩ := h
          exact E_iret dX11_beside_32 rfl
def W_X11_offer_0 (X : Sx) (l : Launch) (D : Nat) (x1 : Int32) (σ : AH) (r : Option Value) (σ' : AH) : Prop := ∃ d1 : Nat, ∃ v6 : Int32, ∃ σ2 : AH, d1 + 1 ≤ D ∧ Call X l m_X11_isMoveWeek d1 [.ref 0, .int x1] σ (some (.int v6)) σ2 ∧ (if v6 = 0 then ∃ d47 : Nat, ∃ v52 : Int32, ∃ σ48 : AH, d47 + 1 ≤ D ∧ Call X l m_X11_answer d47 [.ref 0, .int (-1 : Int32)] σ2 (some (.int v52)) σ48 ∧ (r = some (.int v52) ∧ σ' = σ48) else (if (gI σ2 1 12) < (100 : Int32) then ∃ d7 : Nat, ∃ b12 : Nat, ∃ σ8 : AH, d7 + 1 ≤ D ∧ Call X l m_X11_runFor d7 [.ref 0, .int x1, .int (0 : Int32)] σ2 (some (.ref b12)) σ8 ∧ b12 ∈ runIds ∧ ∃ d14 : Nat, ∃ σ15 : AH, d14 + 1 ≤ D ∧ Call X l m_X4_join d14 [.ref 113, .int x1, .int (gI σ8 0 13)] σ8 none σ15 ∧ ∃ d19 : Nat, ∃ σ20 : AH, d19 + 1 ≤ D ∧ Call X l m_X4_sortAll d19 [.ref 113, .int x1] σ15 none σ20 ∧ ∃ d24 : Nat, ∃ σ25 : AH, d24 + 1 ≤ D ∧ Call X l m_X2_lookRound d24 [.ref 119, .int x1, .ref b12] σ20 none σ25 ∧ ∃ d29 : Nat, ∃ v34 : Int32, ∃ σ30 : AH, d29 + 1 ≤ D ∧ Call X l m_X2_giveAll d29 [.ref 119, .int x1] σ25 (some (.int v34)) σ30 ∧ ∃ d35 : Nat, ∃ v40 : Int32, ∃ σ36 : AH, d35 + 1 ≤ D ∧ Call X l m_X11_answer d35 [.ref 0, .int v34] (sI (sI (sI σ30 1 12 ((gI σ30 1 12) + (1 : Int32))) 1 13 ((gI (sI σ30 1 12 ((gI σ30 1 12) + (1 : Int32))) 1 13) + v34)) 1 15 x1) (some (.int v40)) σ36 ∧ (r = some (.int v40) ∧ σ' = σ36) else ∃ d41 : Nat, ∃ v46 : Int32, ∃ σ42 : AH, d41 + 1 ≤ D ∧ Call X l m_X11_answer d41 [.ref 0, .int (-5 : Int32)] σ2 (some (.int v46)) σ42 ∧ (r = some (.int v46) ∧ σ' = σ42)))
set_option maxRecDepth 100000 in
theorem w_X11_offer_0 {X : Sx} {l : Launch} {D : Nat} {x1 : Int32} {σ : AH} {r : Option Value} {σ' : AH} (hs : Sh σ) (h : W_X11_offer_0 X l D x1 σ r σ') : E X l m_X11_offer D 0 [(0, .ref 0), (1, .int x1)] [] σ r σ' := by
  unfold W_X11_offer_0 at h
  refine E_aload_n 0 dX11_offer_0 rfl rfl ?_
  refine E_iload_n 1 dX11_offer_1 rfl rfl ?_
  obtain ⟨d1, v6, σ2, hD3, hC4, h⟩ := h
  have hs5 := hC4.1.2.2.2.1 hs
  refine E_callV (As := [.int x1]) (rest := []) (r1 := (some (.int v6))) (b := 0) dX11_offer_2 ok_X11_isMoveWeek in_X11_isMoveWeek se_X11_isMoveWeek ml_X11_331 hD3 rfl rfl (Nat.le_of_ble_eq_true rfl) (sk_0 hs) (sn hs (by decide)) (by decide) rfl (by decide +kernel) hC4 ?_
  refine E_if_ne 14 dX11_offer_5 (by decide) (fun c => ?_) (fun c => ?_)
  · rw [if_neg c] at h
    refine E_aload_n 0 dX11_offer_14 rfl rfl ?_
    refine E_getR 1 dX11_offer_15 fl_X11_10 rfl (sk_0 hs5) (sn hs5 (by decide)) (sr_0_0 hs5) ?_
    refine E_getI dX11_offer_18 fl_X11_334 rfl (sk_1 hs5) (sn hs5 (by decide)) ?_
    refine E_bipush (100 : Int32) dX11_offer_21 (by decide) ?_
    refine E_icmp_lt 33 dX11_offer_23 (by decide) (fun c => ?_) (fun c => ?_)
    · rw [if_pos c] at h
      refine E_aload_n 0 dX11_offer_33 rfl rfl ?_
      refine E_iload_n 1 dX11_offer_34 rfl rfl ?_
      refine E_iconst (0 : Int32) dX11_offer_35 (by decide) ?_
      obtain ⟨d7, b12, σ8, hD9, hC10, hm13, h⟩ := h
      have hs11 := hC10.1.2.2.2.1 hs5
      refine E_callV (As := [.int x1, .int (0 : Int32)]) (rest := []) (r1 := (some (.ref b12))) (b := 0) dX11_offer_36 ok_X11_runFor in_X11_runFor se_X11_runFor ml_X11_194 hD9 rfl rfl (Nat.le_of_ble_eq_true rfl) (sk_0 hs5) (sn hs5 (by decide)) (by decide) rfl (by decide +kernel) hC10 ?_
      refine E_astore_n [(2, .ref b12), (0, .ref 0), (1, .int x1)] dX11_offer_39 rfl (by decide) rfl ?_
      refine E_aload_n 1 dX11_offer_40 rfl rfl ?_
      refine E_getR 113 dX11_offer_41 fl_X11_67 rfl (sk_0 hs11) (sn hs11 (by decide)) (sr_0_8 hs11) ?_
      refine E_iload_n 2 dX11_offer_44 rfl rfl ?_
      refine E_aload_n 1 dX11_offer_45 rfl rfl ?_
      refine E_getI dX11_offer_46 fl_X11_289 rfl (sk_0 hs11) (sn hs11 (by decide)) ?_
      obtain ⟨d14, σ15, hD16, hC17, h⟩ := h
      have hs18 := hC17.1.2.2.2.1 hs11
      refine E_callV (As := [.int x1, .int (gI σ8 0 13)]) (rest := []) (r1 := none) (b := 113) dX11_offer_49 ok_X4_join in_X4_join se_X4_join ml_X11_298 hD16 rfl rfl (Nat.le_of_ble_eq_true rfl) (sk_113 hs11) (sn hs11 (by decide)) (by decide) rfl (by decide +kernel) hC17 ?_
      refine E_aload_n 1 dX11_offer_52 rfl rfl ?_
      refine E_getR 113 dX11_offer_53 fl_X11_67 rfl (sk_0 hs18) (sn hs18 (by decide)) (sr_0_8 hs18) ?_
      refine E_iload_n 2 dX11_offer_56 rfl rfl ?_
      obtain ⟨d19, σ20, hD21, hC22, h⟩ := h
      have hs23 := hC22.1.2.2.2.1 hs18
      refine E_callV (As := [.int x1]) (rest := []) (r1 := none) (b := 113) dX11_offer_57 ok_X4_sortAll in_X4_sortAll se_X4_sortAll ml_X11_337 hD21 rfl rfl (Nat.le_of_ble_eq_true rfl) (sk_113 hs18) (sn hs18 (by decide)) (by decide) rfl (by decide +kernel) hC22 ?_
      refine E_aload_n 1 dX11_offer_60 rfl rfl ?_
      refine E_getR 119 dX11_offer_61 fl_X11_76 rfl (sk_0 hs23) (sn hs23 (by decide)) (sr_0_9 hs23) ?_
      refine E_iload_n 2 dX11_offer_64 rfl rfl ?_
      refine E_aload_n 0 dX11_offer_65 rfl rfl ?_
      obtain ⟨d24, σ25, hD26, hC27, h⟩ := h
      have hs28 := hC27.1.2.2.2.1 hs23
      refine E_callV (As := [.int x1, .ref b12]) (rest := []) (r1 := none) (b := 119) dX11_offer_66 ok_X2_lookRound in_X2_lookRound se_X2_lookRound ml_X11_340 hD26 rfl rfl (Nat.le_of_ble_eq_true rfl) (sk_119 hs23) (sn hs23 (by decide)) (by decide) rfl (by decide +kernel) hC27 ?_
      refine E_aload_n 1 dX11_offer_69 rfl rfl ?_
      refine E_getR 119 dX11_offer_70 fl_X11_76 rfl (sk_0 hs28) (sn hs28 (by decide)) (sr_0_9 hs28) ?_
      refine E_iload_n 2 dX11_offer_73 rfl rfl ?_
      obtain ⟨d29, v34, σ30, hD31, hC32, h⟩ := h
      have hs33 := hC32.1.2.2.2.1 hs28
      refine E_callV (As := [.int x1]) (rest := []) (r1 := (some (.int v34))) (b := 119) dX11_offer_74 ok_X2_giveAll in_X2_giveAll se_X2_giveAll ml_X11_344 hD31 rfl rfl (Nat.le_of_ble_eq_true rfl) (sk_119 hs28) (sn hs28 (by decide)) (by decide) rfl (by decide +kernel) hC32 ?_
      refine E_istore_n [(3, .int v34), (2, .ref b12), (0, .ref 0), (1, .int x1)] dX11_offer_77 rfl (by decide) rfl ?_
      refine E_aload_n 2 dX11_offer_78 rfl rfl ?_
      refine E_getR 1 dX11_offer_79 fl_X11_10 rfl (sk_0 hs33) (sn hs33 (by decide)) (sr_0_0 hs33) ?_
      refine E_dup dX11_offer_82 rfl ?_
      refine E_getI dX11_offer_83 fl_X11_334 rfl (sk_1 hs33) (sn hs33 (by decide)) ?_
      refine E_iconst (1 : Int32) dX11_offer_86 (by decide) ?_
      refine E_iadd dX11_offer_87 ?_
      refine E_putI dX11_offer_88 fl_X11_334 rfl (Or.inl rfl) (sk_1 hs33) (sn hs33 (by decide)) (Or.inl (by decide)) rfl rfl ?_
      refine E_aload_n 2 dX11_offer_91 rfl rfl ?_
      refine E_getR 1 dX11_offer_92 fl_X11_10 rfl (sk_0 hs33) (sn hs33 (by decide)) (sr_0_0 hs33) ?_
      refine E_dup dX11_offer_95 rfl ?_
      refine E_getI dX11_offer_96 fl_X11_347 rfl (sk_1 hs33) (sn hs33 (by decide)) ?_
      refine E_iload_n 0 dX11_offer_99 rfl rfl ?_
      refine E_iadd dX11_offer_100 ?_
      refine E_putI dX11_offer_101 fl_X11_347 rfl (Or.inl rfl) (sk_1 hs33) (sn hs33 (by decide)) (Or.inl (by decide)) rfl rfl ?_
      refine E_aload_n 2 dX11_offer_104 rfl rfl ?_
      refine E_getR 1 dX11_offer_105 fl_X11_10 rfl (sk_0 hs33) (sn hs33 (by decide)) (sr_0_0 hs33) ?_
      refine E_iload_n 3 dX11_offer_108 rfl rfl ?_
      refine E_putI dX11_offer_109 fl_X11_350 rfl (Or.inl rfl) (sk_1 hs33) (sn hs33 (by decide)) (Or.inl (by decide)) rfl rfl ?_
      refine E_aload_n 2 dX11_offer_112 rfl rfl ?_
      refine E_iload_n 0 dX11_offer_113 rfl rfl ?_
      obtain ⟨d35, v40, σ36, hD37, hC38, h⟩ := h
      have hs39 := hC38.1.2.2.2.1 hs33
      refine E_callV (As := [.int v34]) (rest := []) (r1 := (some (.int v40))) (b := 0) dX11_offer_114 ok_X11_answer in_X11_answer se_X11_answer ml_X11_105 hD37 rfl rfl (Nat.le_of_ble_eq_true rfl) (sk_0 hs33) (sn hs33 (by decide)) (by decide) rfl (by decide +kernel) hC38 ?_
      obtain ⟨rfl, rfl⟩ := h
      exact E_iret dX11_offer_117 rfl
    · rw [if_neg c] at h
      refine E_aload_n 0 dX11_offer_26 rfl rfl ?_
      refine E_bipush (-5 : Int32) dX11_offer_27 (by decide) ?_
      obtain ⟨d41, v46, σ42, hD43, hC44, h⟩ := h
      have hs45 := hC44.1.2.2.2.1 hs5
      refine E_callV (As := [.int (-5 : Int32)]) (rest := []) (r1 := (some (.int v46))) (b := 0) dX11_offer_29 ok_X11_answer in_X11_answer se_X11_answer ml_X11_105 hD43 rfl rfl (Nat.le_of_ble_eq_true rfl) (sk_0 hs5) (sn hs5 (by decide)) (by decide) rfl (by decide +kernel) hC44 ?_
      obtain ⟨rfl, rfl⟩ := h
      exact E_iret dX11_offer_32 rfl
  · rw [if_pos c] at h
    refine E_aload_n 0 dX11_offer_8 rfl rfl ?_
    refine E_iconst (-1 : Int32) dX11_offer_9 (by decide) ?_
    obtain ⟨d47, v52, σ48, hD49, hC50, h⟩ := h
    have hs51 := hC50.1.2.2.2.1 hs5
    refine E_callV (As := [.int (-1 : Int32)]) (rest := []) (r1 := (some (.int v52))) (b := 0) dX11_offer_10 ok_X11_answer in_X11_answer se_X11_answer ml_X11_105 hD49 rfl rfl (Nat.le_of_ble_eq_true rfl) (sk_0 hs5) (sn hs5 (by decide)) (by decide) rfl (by decide +kernel) hC50 ?_
    obtain ⟨rfl, rfl⟩ := h
    exact E_iret dX11_offer_13 rfl
def W_X11_lives_73 (X : Sx) (l : Launch) (D : Nat) (y0 : Int32) (y1 : Int32) (σ : AH) (r : Option Value) (σ' : AH) : Prop := ∃ d25 : Nat, ∃ v30 : Int32, ∃ σ26 : AH, d25 + 1 ≤ D ∧ Call X l m_X8_at d25 [.ref 17, .int y1, .int y0] σ (some (.int v30)) σ26 ∧ (r = some (.int v30) ∧ σ' = σ26)
set_option maxRecDepth 100000 in
theorem w_X11_lives_73 {X : Sx} {l : Launch} {D : Nat} {y0 : Int32} {y1 : Int32} {σ : AH} {r : Option Value} {σ' : AH} (hs : Sh σ) (h : W_X11_lives_73 X l D y0 y1 σ r σ') : E X l m_X11_lives D 73 [] [.int y0, .int y1, .ref 17] σ r σ' := by
  unfold W_X11_lives_73 at h
  obtain ⟨d25, v30, σ26, hD27, hC28, h⟩ := h
  have hs29 := hC28.1.2.2.2.1 hs
  refine E_callV (As := [.int y1, .int y0]) (rest := []) (r1 := (some (.int v30))) (b := 17) dX11_lives_73 ok_X8_at in_X8_at se_X8_at ml_X11_223 hD27 rfl rfl (Nat.le_of_ble_eq_true rfl) (sk_17 hs) (sn hs (by decide)) (by decide) rfl (by decide +kernel) hC28 ?_
  obtain ⟨rfl, rfl⟩ := h
  exact E_iret dX11_lives_76 rfl
def W_X11_lives_0 (X : Sx) (l : Launch) (D : Nat) (x1 : Int32) (x2 : Int32) (x3 : Int32) (σ : AH) (r : Option Value) (σ' : AH) : Prop := ∃ d1 : Nat, ∃ v6 : Int32, ∃ σ2 : AH, d1 + 1 ≤ D ∧ Call X l m_X11_isPlot d1 [.ref 0, .int x1] σ (some (.int v6)) σ2 ∧ (if v6 = 0 then (r = some (.int (-1 : Int32)) ∧ σ' = σ2) else ∃ d7 : Nat, ∃ v12 : Int32, ∃ σ8 : AH, d7 + 1 ≤ D ∧ Call X l m_X11_isWeek d7 [.int x2] σ2 (some (.int v12)) σ8 ∧ (if v12 = 0 then (r = some (.int (-1 : Int32)) ∧ σ' = σ8) else ∃ d13 : Nat, ∃ v18 : Int32, ∃ σ14 : AH, d13 + 1 ≤ D ∧ Call X l m_X11_isIn d13 [.int x3, .int (0 : Int32), .int (2 : Int32)] σ8 (some (.int v18)) σ14 ∧ (if v18 = 0 then (r = some (.int (-1 : Int32)) ∧ σ' = σ14) else ∃ d19 : Nat, ∃ v24 : Int32, ∃ σ20 : AH, d19 + 1 ≤ D ∧ Call X l m_X2_livedStay d19 [.ref 119, .int x1, .int x2] σ14 (some (.int v24)) σ20 ∧ (if v24 = (-1 : Int32) then (r = some (.int (-1 : Int32)) ∧ σ' = σ20) else (if x3 = 0 then W_X11_lives_73 X l D (1 : Int32) v24 σ20 r σ' else (if x3 = (1 : Int32) then W_X11_lives_73 X l D (2 : Int32) v24 σ20 r σ' else W_X11_lives_73 X l D (6 : Int32) v24 σ20 r σ'))))))
set_option maxRecDepth 100000 in
theorem w_X11_lives_0 {X : Sx} {l : Launch} {D : Nat} {x1 : Int32} {x2 : Int32} {x3 : Int32} {σ : AH} {r : Option Value} {σ' : AH} (hs : Sh σ) (h : W_X11_lives_0 X l D x1 x2 x3 σ r σ') : E X l m_X11_lives D 0 [(0, .ref 0), (1, .int x1), (2, .int x2), (3, .int x3)] [] σ r σ' := by
  unfold W_X11_lives_0 at h
  refine E_aload_n 0 dX11_lives_0 rfl rfl ?_
  refine E_iload_n 1 dX11_lives_1 rfl rfl ?_
  obtain ⟨d1, v6, σ2, hD3, hC4, h⟩ := h
  have hs5 := hC4.1.2.2.2.1 hs
  refine E_callV (As := [.int x1]) (rest := []) (r1 := (some (.int v6))) (b := 0) dX11_lives_2 ok_X11_isPlot in_X11_isPlot se_X11_isPlot ml_X11_185 hD3 rfl rfl (Nat.le_of_ble_eq_true rfl) (sk_0 hs) (sn hs (by decide)) (by decide) rfl (by decide +kernel) hC4 ?_
  refine E_if_eq 24 dX11_lives_5 (by decide) (fun c => ?_) (fun c => ?_)
  · rw [if_pos c] at h
    refine E_iconst (-1 : Int32) dX11_lives_24 (by decide) ?_
    obtain ⟨rfl, rfl⟩ := h
    exact E_iret dX11_lives_25 rfl
  · rw [if_neg c] at h
    refine E_iload_n 2 dX11_lives_8 rfl rfl ?_
    obtain ⟨d7, v12, σ8, hD9, hC10, h⟩ := h
    have hs11 := hC10.1.2.2.2.1 hs5
    refine E_callS (As := [.int x2]) (rest := []) (r1 := (some (.int v12))) dX11_lives_9 ok_X11_isWeek is_X11_isWeek ml_X11_95 hD9 rfl rfl (Nat.le_of_ble_eq_true rfl) (by decide +kernel) hC10 ?_
    refine E_if_eq 24 dX11_lives_12 (by decide) (fun c => ?_) (fun c => ?_)
    · rw [if_pos c] at h
      refine E_iconst (-1 : Int32) dX11_lives_24 (by decide) ?_
      obtain ⟨rfl, rfl⟩ := h
      exact E_iret dX11_lives_25 rfl
    · rw [if_neg c] at h
      refine E_iload_n 3 dX11_lives_15 rfl rfl ?_
      refine E_iconst (0 : Int32) dX11_lives_16 (by decide) ?_
      refine E_iconst (2 : Int32) dX11_lives_17 (by decide) ?_
      obtain ⟨d13, v18, σ14, hD15, hC16, h⟩ := h
      have hs17 := hC16.1.2.2.2.1 hs11
      refine E_callS (As := [.int x3, .int (0 : Int32), .int (2 : Int32)]) (rest := []) (r1 := (some (.int v18))) dX11_lives_18 ok_X11_isIn is_X11_isIn ml_X11_124 hD15 rfl rfl (Nat.le_of_ble_eq_true rfl) (by decide +kernel) hC16 ?_
      refine E_if_ne 26 dX11_lives_21 (by decide) (fun c => ?_) (fun c => ?_)
      · rw [if_neg c] at h
        refine E_aload_n 0 dX11_lives_26 rfl rfl ?_
        refine E_getR 119 dX11_lives_27 fl_X11_76 rfl (sk_0 hs17) (sn hs17 (by decide)) (sr_0_9 hs17) ?_
        refine E_iload_n 1 dX11_lives_30 rfl rfl ?_
        refine E_iload_n 2 dX11_lives_31 rfl rfl ?_
        obtain ⟨d19, v24, σ20, hD21, hC22, h⟩ := h
        have hs23 := hC22.1.2.2.2.1 hs17
        refine E_callV (As := [.int x1, .int x2]) (rest := []) (r1 := (some (.int v24))) (b := 119) dX11_lives_32 ok_X2_livedStay in_X2_livedStay se_X2_livedStay ml_X11_353 hD21 rfl rfl (Nat.le_of_ble_eq_true rfl) (sk_119 hs17) (sn hs17 (by decide)) (by decide) rfl (by decide +kernel) hC22 ?_
        refine E_istore [(4, .int v24), (0, .ref 0), (1, .int x1), (2, .int x2), (3, .int x3)] dX11_lives_35 (by decide) rfl ?_
        refine E_iload 0 dX11_lives_37 rfl ?_
        refine E_iconst (-1 : Int32) dX11_lives_39 (by decide) ?_
        refine E_icmp_ne 45 dX11_lives_40 (by decide) (fun c => ?_) (fun c => ?_)
        · rw [if_neg c] at h
          refine E_aload_n 1 dX11_lives_45 rfl rfl ?_
          refine E_getR 1 dX11_lives_46 fl_X11_10 rfl (sk_0 hs23) (sn hs23 (by decide)) (sr_0_0 hs23) ?_
          refine E_getR 17 dX11_lives_49 fl_X11_356 rfl (sk_1 hs23) (sn hs23 (by decide)) (sr_1_9 hs23) ?_
          refine E_iload 0 dX11_lives_52 rfl ?_
          refine E_iload_n 4 dX11_lives_54 rfl rfl ?_
          refine E_if_ne 62 dX11_lives_55 (by decide) (fun c => ?_) (fun c => ?_)
          · rw [if_neg c] at h
            refine E_iload_n 4 dX11_lives_62 rfl rfl ?_
            refine E_iconst (1 : Int32) dX11_lives_63 (by decide) ?_
            refine E_icmp_ne 71 dX11_lives_64 (by decide) (fun c => ?_) (fun c => ?_)
            · rw [if_neg c] at h
              refine E_bipush (6 : Int32) dX11_lives_71 (by decide) ?_
              exact E_lv [] rfl (w_X11_lives_73 hs23 h)
            · rw [if_pos c] at h
              refine E_iconst (2 : Int32) dX11_lives_67 (by decide) ?_
              refine E_goto 73 dX11_lives_68 (by decide) ?_
              exact E_lv [] rfl (w_X11_lives_73 hs23 h)
          · rw [if_pos c] at h
            refine E_iconst (1 : Int32) dX11_lives_58 (by decide) ?_
            refine E_goto 73 dX11_lives_59 (by decide) ?_
            exact E_lv [] rfl (w_X11_lives_73 hs23 h)
        · rw [if_pos c] at h
          refine E_iconst (-1 : Int32) dX11_lives_43 (by decide) ?_
          obtain ⟨rfl, rfl⟩ := h
          exact E_iret dX11_lives_44 rfl
      · rw [if_pos c] at h
        refine E_iconst (-1 : Int32) dX11_lives_24 (by decide) ?_
        obtain ⟨rfl, rfl⟩ := h
        exact E_iret dX11_lives_25 rfl
def W_X11_roof_0 (X : Sx) (l : Launch) (D : Nat) (x1 : Int32) (x2 : Int32) (σ : AH) (r : Option Value) (σ' : AH) : Prop := ∃ d1 : Nat, ∃ v6 : Int32, ∃ σ2 : AH, d1 + 1 ≤ D ∧ Call X l m_X11_isWeek d1 [.int x2] σ (some (.int v6)) σ2 ∧ (if v6 = 0 then (r = some (.int (-1 : Int32)) ∧ σ' = σ2) else ∃ d7 : Nat, ∃ v12 : Int32, ∃ σ8 : AH, d7 + 1 ≤ D ∧ Call X l m_X11_isKnownEntry d7 [.ref 0, .int x1, .int x2] σ2 (some (.int v12)) σ8 ∧ (if v12 = 0 then (r = some (.int (-1 : Int32)) ∧ σ' = σ8) else ∃ d13 : Nat, ∃ σ14 : AH, d13 + 1 ≤ D ∧ Call X l m_X4_join d13 [.ref 113, .int x2, .int (gI σ8 0 13)] σ8 none σ14 ∧ vp_in x1 60 ∧ ∃ d19 : Nat, ∃ v24 : Int32, ∃ σ20 : AH, d19 + 1 ≤ D ∧ Call X l m_X2_roofOf d19 [.ref 119, .int (gI σ14 114 x1.toNatClampNeg), .int x2] σ14 (some (.int v24)) σ20 ∧ (r = some (.int v24) ∧ σ' = σ20)))
set_option maxRecDepth 100000 in
theorem w_X11_roof_0 {X : Sx} {l : Launch} {D : Nat} {x1 : Int32} {x2 : Int32} {σ : AH} {r : Option Value} {σ' : AH} (hs : Sh σ) (h : W_X11_roof_0 X l D x1 x2 σ r σ') : E X l m_X11_roof D 0 [(0, .ref 0), (1, .int x1), (2, .int x2)] [] σ r σ' := by
  unfold W_X11_roof_0 at h
  refine E_iload_n 2 dX11_roof_0 rfl rfl ?_
  obtain ⟨d1, v6, σ2, hD3, hC4, h⟩ := h
  have hs5 := hC4.1.2.2.2.1 hs
  refine E_callS (As := [.int x2]) (rest := []) (r1 := (some (.int v6))) dX11_roof_1 ok_X11_isWeek is_X11_isWeek ml_X11_95 hD3 rfl rfl (Nat.le_of_ble_eq_true rfl) (by decide +kernel) hC4 ?_
  refine E_if_eq 16 dX11_roof_4 (by decide) (fun c => ?_) (fun c => ?_)
  · rw [if_pos c] at h
    refine E_iconst (-1 : Int32) dX11_roof_16 (by decide) ?_
    obtain ⟨rfl, rfl⟩ := h
    exact E_iret dX11_roof_17 rfl
  · rw [if_neg c] at h
    refine E_aload_n 0 dX11_roof_7 rfl rfl ?_
    refine E_iload_n 1 dX11_roof_8 rfl rfl ?_
    refine E_iload_n 2 dX11_roof_9 rfl rfl ?_
    obtain ⟨d7, v12, σ8, hD9, hC10, h⟩ := h
    have hs11 := hC10.1.2.2.2.1 hs5
    refine E_callV (As := [.int x1, .int x2]) (rest := []) (r1 := (some (.int v12))) (b := 0) dX11_roof_10 ok_X11_isKnownEntry in_X11_isKnownEntry se_X11_isKnownEntry ml_X11_295 hD9 rfl rfl (Nat.le_of_ble_eq_true rfl) (sk_0 hs5) (sn hs5 (by decide)) (by decide) rfl (by decide +kernel) hC10 ?_
    refine E_if_ne 18 dX11_roof_13 (by decide) (fun c => ?_) (fun c => ?_)
    · rw [if_neg c] at h
      refine E_aload_n 0 dX11_roof_18 rfl rfl ?_
      refine E_getR 113 dX11_roof_19 fl_X11_67 rfl (sk_0 hs11) (sn hs11 (by decide)) (sr_0_8 hs11) ?_
      refine E_iload_n 2 dX11_roof_22 rfl rfl ?_
      refine E_aload_n 0 dX11_roof_23 rfl rfl ?_
      refine E_getI dX11_roof_24 fl_X11_289 rfl (sk_0 hs11) (sn hs11 (by decide)) ?_
      obtain ⟨d13, σ14, hD15, hC16, h⟩ := h
      have hs17 := hC16.1.2.2.2.1 hs11
      refine E_callV (As := [.int x2, .int (gI σ8 0 13)]) (rest := []) (r1 := none) (b := 113) dX11_roof_27 ok_X4_join in_X4_join se_X4_join ml_X11_298 hD15 rfl rfl (Nat.le_of_ble_eq_true rfl) (sk_113 hs11) (sn hs11 (by decide)) (by decide) rfl (by decide +kernel) hC16 ?_
      refine E_aload_n 0 dX11_roof_30 rfl rfl ?_
      refine E_getR 119 dX11_roof_31 fl_X11_76 rfl (sk_0 hs17) (sn hs17 (by decide)) (sr_0_9 hs17) ?_
      refine E_aload_n 0 dX11_roof_34 rfl rfl ?_
      refine E_getR 113 dX11_roof_35 fl_X11_67 rfl (sk_0 hs17) (sn hs17 (by decide)) (sr_0_8 hs17) ?_
      refine E_getR 114 dX11_roof_38 fl_X11_301 rfl (sk_113 hs17) (sn hs17 (by decide)) (sr_113_2 hs17) ?_
      refine E_iload_n 1 dX11_roof_41 rfl rfl ?_
      obtain ⟨g18, h⟩ := h
      refine E_iald2 (x1.toNatClampNeg) dX11_roof_42 (sk_114 hs17) (sn hs17 (by decide)) g18 rfl ?_
      refine E_iload_n 2 dX11_roof_43 rfl rfl ?_
      obtain ⟨d19, v24, σ20, hD21, hC22, h⟩ := h
      have hs23 := hC22.1.2.2.2.1 hs17
      refine E_callV (As := [.int (gI σ14 114 x1.toNatClampNeg), .int x2]) (rest := []) (r1 := (some (.int v24))) (b := 119) dX11_roof_44 ok_X2_roofOf in_X2_roofOf se_X2_roofOf ml_X11_359 hD21 rfl rfl (Nat.le_of_ble_eq_true rfl) (sk_119 hs17) (sn hs17 (by decide)) (by decide) rfl (by decide +kernel) hC22 ?_
      obtain ⟨rfl, rfl⟩ := h
      exact E_iret dX11_roof_47 rfl
    · rw [if_pos c] at h
      refine E_iconst (-1 : Int32) dX11_roof_16 (by decide) ?_
      obtain ⟨rfl, rfl⟩ := h
      exact E_iret dX11_roof_17 rfl
def W_X11_squat_176 (X : Sx) (l : Launch) (D : Nat) (x3 : Int32) (y0 : Int32) (y1 : Int32) (y2 : Int32) (y3 : Int32) (σ : AH) (r : Option Value) (σ' : AH) : Prop := ∃ d89 : Nat, ∃ σ90 : AH, d89 + 1 ≤ D ∧ Call X l m_X2_goIn d89 [.ref 119, .int y3, .int y2, .int y1, .int y0, .int (0 : Int32)] σ none σ90 ∧ ∃ d94 : Nat, ∃ v99 : Int32, ∃ σ95 : AH, d94 + 1 ≤ D ∧ Call X l m_X11_answer d94 [.ref 0, .int (gI (sI (sI σ90 1 14 ((gI σ90 1 14) + (1 : Int32))) 1 15 x3) 1 14)] (sI (sI σ90 1 14 ((gI σ90 1 14) + (1 : Int32))) 1 15 x3) (some (.int v99)) σ95 ∧ (r = some (.int v99) ∧ σ' = σ95)
set_option maxRecDepth 100000 in
theorem w_X11_squat_176 {X : Sx} {l : Launch} {D : Nat} {x3 : Int32} {y0 : Int32} {y1 : Int32} {y2 : Int32} {y3 : Int32} {σ : AH} {r : Option Value} {σ' : AH} (hs : Sh σ) (h : W_X11_squat_176 X l D x3 y0 y1 y2 y3 σ r σ') : E X l m_X11_squat D 176 [(0, .ref 0), (3, .int x3)] [.int y0, .int y1, .int y2, .int y3, .ref 119] σ r σ' := by
  unfold W_X11_squat_176 at h
  refine E_iconst (0 : Int32) dX11_squat_176 (by decide) ?_
  obtain ⟨d89, σ90, hD91, hC92, h⟩ := h
  have hs93 := hC92.1.2.2.2.1 hs
  refine E_callV (As := [.int y3, .int y2, .int y1, .int y0, .int (0 : Int32)]) (rest := []) (r1 := none) (b := 119) dX11_squat_177 ok_X2_goIn in_X2_goIn se_X2_goIn ml_X11_372 hD91 rfl rfl (Nat.le_of_ble_eq_true rfl) (sk_119 hs) (sn hs (by decide)) (by decide) rfl (by decide +kernel) hC92 ?_
  refine E_aload_n 0 dX11_squat_180 rfl rfl ?_
  refine E_getR 1 dX11_squat_181 fl_X11_10 rfl (sk_0 hs93) (sn hs93 (by decide)) (sr_0_0 hs93) ?_
  refine E_dup dX11_squat_184 rfl ?_
  refine E_getI dX11_squat_185 fl_X11_368 rfl (sk_1 hs93) (sn hs93 (by decide)) ?_
  refine E_iconst (1 : Int32) dX11_squat_188 (by decide) ?_
  refine E_iadd dX11_squat_189 ?_
  refine E_putI dX11_squat_190 fl_X11_368 rfl (Or.inl rfl) (sk_1 hs93) (sn hs93 (by decide)) (Or.inl (by decide)) rfl rfl ?_
  refine E_aload_n 0 dX11_squat_193 rfl rfl ?_
  refine E_getR 1 dX11_squat_194 fl_X11_10 rfl (sk_0 hs93) (sn hs93 (by decide)) (sr_0_0 hs93) ?_
  refine E_iload_n 1 dX11_squat_197 rfl rfl ?_
  refine E_putI dX11_squat_198 fl_X11_350 rfl (Or.inl rfl) (sk_1 hs93) (sn hs93 (by decide)) (Or.inl (by decide)) rfl rfl ?_
  refine E_aload_n 0 dX11_squat_201 rfl rfl ?_
  refine E_aload_n 0 dX11_squat_202 rfl rfl ?_
  refine E_getR 1 dX11_squat_203 fl_X11_10 rfl (sk_0 hs93) (sn hs93 (by decide)) (sr_0_0 hs93) ?_
  refine E_getI dX11_squat_206 fl_X11_368 rfl (sk_1 hs93) (sn hs93 (by decide)) ?_
  obtain ⟨d94, v99, σ95, hD96, hC97, h⟩ := h
  have hs98 := hC97.1.2.2.2.1 hs93
  refine E_callV (As := [.int (gI (sI (sI σ90 1 14 ((gI σ90 1 14) + (1 : Int32))) 1 15 x3) 1 14)]) (rest := []) (r1 := (some (.int v99))) (b := 0) dX11_squat_209 ok_X11_answer in_X11_answer se_X11_answer ml_X11_105 hD96 rfl rfl (Nat.le_of_ble_eq_true rfl) (sk_0 hs93) (sn hs93 (by decide)) (by decide) rfl (by decide +kernel) hC97 ?_
  obtain ⟨rfl, rfl⟩ := h
  exact E_iret dX11_squat_212 rfl
def W_X11_squat_31 (X : Sx) (l : Launch) (D : Nat) (σ : AH) (r : Option Value) (σ' : AH) : Prop := ∃ d77 : Nat, ∃ v82 : Int32, ∃ σ78 : AH, d77 + 1 ≤ D ∧ Call X l m_X11_answer d77 [.ref 0, .int (-2 : Int32)] σ (some (.int v82)) σ78 ∧ (r = some (.int v82) ∧ σ' = σ78)
set_option maxRecDepth 100000 in
theorem w_X11_squat_31 {X : Sx} {l : Launch} {D : Nat} {σ : AH} {r : Option Value} {σ' : AH} (hs : Sh σ) (h : W_X11_squat_31 X l D σ r σ') : E X l m_X11_squat D 31 [(0, .ref 0)] [] σ r σ' := by
  unfold W_X11_squat_31 at h
  refine E_aload_n 0 dX11_squat_31 rfl rfl ?_
  refine E_bipush (-2 : Int32) dX11_squat_32 (by decide) ?_
  obtain ⟨d77, v82, σ78, hD79, hC80, h⟩ := h
  have hs81 := hC80.1.2.2.2.1 hs
  refine E_callV (As := [.int (-2 : Int32)]) (rest := []) (r1 := (some (.int v82))) (b := 0) dX11_squat_34 ok_X11_answer in_X11_answer se_X11_answer ml_X11_105 hD79 rfl rfl (Nat.le_of_ble_eq_true rfl) (sk_0 hs) (sn hs (by decide)) (by decide) rfl (by decide +kernel) hC80 ?_
  obtain ⟨rfl, rfl⟩ := h
  exact E_iret dX11_squat_37 rfl
def W_X11_squat_98 (X : Sx) (l : Launch) (D : Nat) (σ : AH) (r : Option Value) (σ' : AH) : Prop := ∃ d83 : Nat, ∃ v88 : Int32, ∃ σ84 : AH, d83 + 1 ≤ D ∧ Call X l m_X11_answer d83 [.ref 0, .int (-3 : Int32)] σ (some (.int v88)) σ84 ∧ (r = some (.int v88) ∧ σ' = σ84)
set_option maxRecDepth 100000 in
theorem w_X11_squat_98 {X : Sx} {l : Launch} {D : Nat} {σ : AH} {r : Option Value} {σ' : AH} (hs : Sh σ) (h : W_X11_squat_98 X l D σ r σ') : E X l m_X11_squat D 98 [(0, .ref 0)] [] σ r σ' := by
  unfold W_X11_squat_98 at h
  refine E_aload_n 0 dX11_squat_98 rfl rfl ?_
  refine E_bipush (-3 : Int32) dX11_squat_99 (by decide) ?_
  obtain ⟨d83, v88, σ84, hD85, hC86, h⟩ := h
  have hs87 := hC86.1.2.2.2.1 hs
  refine E_callV (As := [.int (-3 : Int32)]) (rest := []) (r1 := (some (.int v88))) (b := 0) dX11_squat_101 ok_X11_answer in_X11_answer se_X11_answer ml_X11_105 hD85 rfl rfl (Nat.le_of_ble_eq_true rfl) (sk_0 hs) (sn hs (by decide)) (by decide) rfl (by decide +kernel) hC86 ?_
  obtain ⟨rfl, rfl⟩ := h
  exact E_iret dX11_squat_104 rfl
def W_X11_squat_0 (X : Sx) (l : Launch) (D : Nat) (x1 : Int32) (x2 : Int32) (x3 : Int32) (σ : AH) (r : Option Value) (σ' : AH) : Prop := ∃ d1 : Nat, ∃ v6 : Int32, ∃ σ2 : AH, d1 + 1 ≤ D ∧ Call X l m_X11_isMoveWeek d1 [.ref 0, .int x3] σ (some (.int v6)) σ2 ∧ (if v6 = 0 then ∃ d71 : Nat, ∃ v76 : Int32, ∃ σ72 : AH, d71 + 1 ≤ D ∧ Call X l m_X11_answer d71 [.ref 0, .int (-1 : Int32)] σ2 (some (.int v76)) σ72 ∧ (r = some (.int v76) ∧ σ' = σ72) else ∃ d7 : Nat, ∃ v12 : Int32, ∃ σ8 : AH, d7 + 1 ≤ D ∧ Call X l m_X11_isPlot d7 [.ref 0, .int x2] σ2 (some (.int v12)) σ8 ∧ (if v12 = 0 then W_X11_squat_31 X l D σ8 r σ' else ∃ d13 : Nat, ∃ v18 : Int32, ∃ σ14 : AH, d13 + 1 ≤ D ∧ Call X l m_X11_isKnownEntry d13 [.ref 0, .int x1, .int x3] σ8 (some (.int v18)) σ14 ∧ (if v18 = 0 then W_X11_squat_31 X l D σ14 r σ' else ∃ d19 : Nat, ∃ b24 : Nat, ∃ σ20 : AH, d19 + 1 ≤ D ∧ Call X l m_X11_runFor d19 [.ref 0, .int x3, .int (0 : Int32)] σ14 (some (.ref b24)) σ20 ∧ b24 ∈ runIds ∧ ∃ d26 : Nat, ∃ σ27 : AH, d26 + 1 ≤ D ∧ Call X l m_X4_join d26 [.ref 113, .int x3, .int (gI σ20 0 13)] σ20 none σ27 ∧ ∃ d31 : Nat, ∃ σ32 : AH, d31 + 1 ≤ D ∧ Call X l m_X2_lookRound d31 [.ref 119, .int x3, .ref b24] σ27 none σ32 ∧ ∃ d36 : Nat, ∃ v41 : Int32, ∃ σ37 : AH, d36 + 1 ≤ D ∧ Call X l m_X2_isFree d36 [.ref 119, .int x2] σ32 (some (.int v41)) σ37 ∧ (if v41 = 0 then W_X11_squat_98 X l D σ37 r σ' else vp_in x1 60 ∧ ∃ d43 : Nat, ∃ v48 : Int32, ∃ σ44 : AH, d43 + 1 ≤ D ∧ Call X l m_X2_isRoofless d43 [.ref 119, .int (gI σ37 114 x1.toNatClampNeg)] σ37 (some (.int v48)) σ44 ∧ (if v48 = 0 then W_X11_squat_98 X l D σ44 r σ' else (if (gI σ44 1 14) < (40 : Int32) then ∃ d49 : Nat, ∃ σ50 : AH, d49 + 1 ≤ D ∧ Call X l m_X3_settle d49 [.ref 28, .int x3, .int x3] σ44 none σ50 ∧ ∃ d54 : Nat, ∃ σ55 : AH, d54 + 1 ≤ D ∧ Call X l m_X3_ask d54 [.ref 28, .int (0 : Int32), .int x3] σ50 none σ55 ∧ ∃ d59 : Nat, ∃ v64 : Int32, ∃ σ60 : AH, d59 + 1 ≤ D ∧ Call X l m_X3_counted d59 [.ref 28, .int (60 : Int32)] σ55 (some (.int v64)) σ60 ∧ (if v64 = (-1 : Int32) then W_X11_squat_176 X l D x3 (2000000000 : Int32) x3 x2 x1 σ60 r σ' else W_X11_squat_176 X l D x3 (x3 + v64) x3 x2 x1 σ60 r σ') else ∃ d65 : Nat, ∃ v70 : Int32, ∃ σ66 : AH, d65 + 1 ≤ D ∧ Call X l m_X11_answer d65 [.ref 0, .int (-5 : Int32)] σ44 (some (.int v70)) σ66 ∧ (r = some (.int v70) ∧ σ' = σ66)))))))
set_option maxRecDepth 100000 in
theorem w_X11_squat_0 {X : Sx} {l : Launch} {D : Nat} {x1 : Int32} {x2 : Int32} {x3 : Int32} {σ : AH} {r : Option Value} {σ' : AH} (hs : Sh σ) (h : W_X11_squat_0 X l D x1 x2 x3 σ r σ') : E X l m_X11_squat D 0 [(0, .ref 0), (1, .int x1), (2, .int x2), (3, .int x3)] [] σ r σ' := by
  unfold W_X11_squat_0 at h
  refine E_aload_n 0 dX11_squat_0 rfl rfl ?_
  refine E_iload_n 3 dX11_squat_1 rfl rfl ?_
  obtain ⟨d1, v6, σ2, hD3, hC4, h⟩ := h
  have hs5 := hC4.1.2.2.2.1 hs
  refine E_callV (As := [.int x3]) (rest := []) (r1 := (some (.int v6))) (b := 0) dX11_squat_2 ok_X11_isMoveWeek in_X11_isMoveWeek se_X11_isMoveWeek ml_X11_331 hD3 rfl rfl (Nat.le_of_ble_eq_true rfl) (sk_0 hs) (sn hs (by decide)) (by decide) rfl (by decide +kernel) hC4 ?_
  refine E_if_ne 14 dX11_squat_5 (by decide) (fun c => ?_) (fun c => ?_)
  · rw [if_neg c] at h
    refine E_aload_n 0 dX11_squat_14 rfl rfl ?_
    refine E_iload_n 2 dX11_squat_15 rfl rfl ?_
    obtain ⟨d7, v12, σ8, hD9, hC10, h⟩ := h
    have hs11 := hC10.1.2.2.2.1 hs5
    refine E_callV (As := [.int x2]) (rest := []) (r1 := (some (.int v12))) (b := 0) dX11_squat_16 ok_X11_isPlot in_X11_isPlot se_X11_isPlot ml_X11_185 hD9 rfl rfl (Nat.le_of_ble_eq_true rfl) (sk_0 hs5) (sn hs5 (by decide)) (by decide) rfl (by decide +kernel) hC10 ?_
    refine E_if_eq 31 dX11_squat_19 (by decide) (fun c => ?_) (fun c => ?_)
    · rw [if_pos c] at h
      exact E_lv [0] rfl (w_X11_squat_31 hs11 h)
    · rw [if_neg c] at h
      refine E_aload_n 0 dX11_squat_22 rfl rfl ?_
      refine E_iload_n 1 dX11_squat_23 rfl rfl ?_
      refine E_iload_n 3 dX11_squat_24 rfl rfl ?_
      obtain ⟨d13, v18, σ14, hD15, hC16, h⟩ := h
      have hs17 := hC16.1.2.2.2.1 hs11
      refine E_callV (As := [.int x1, .int x3]) (rest := []) (r1 := (some (.int v18))) (b := 0) dX11_squat_25 ok_X11_isKnownEntry in_X11_isKnownEntry se_X11_isKnownEntry ml_X11_295 hD15 rfl rfl (Nat.le_of_ble_eq_true rfl) (sk_0 hs11) (sn hs11 (by decide)) (by decide) rfl (by decide +kernel) hC16 ?_
      refine E_if_ne 38 dX11_squat_28 (by decide) (fun c => ?_) (fun c => ?_)
      · rw [if_neg c] at h
        refine E_aload_n 0 dX11_squat_38 rfl rfl ?_
        refine E_iload_n 3 dX11_squat_39 rfl rfl ?_
        refine E_iconst (0 : Int32) dX11_squat_40 (by decide) ?_
        obtain ⟨d19, b24, σ20, hD21, hC22, hm25, h⟩ := h
        have hs23 := hC22.1.2.2.2.1 hs17
        refine E_callV (As := [.int x3, .int (0 : Int32)]) (rest := []) (r1 := (some (.ref b24))) (b := 0) dX11_squat_41 ok_X11_runFor in_X11_runFor se_X11_runFor ml_X11_194 hD21 rfl rfl (Nat.le_of_ble_eq_true rfl) (sk_0 hs17) (sn hs17 (by decide)) (by decide) rfl (by decide +kernel) hC22 ?_
        refine E_astore [(4, .ref b24), (0, .ref 0), (1, .int x1), (2, .int x2), (3, .int x3)] dX11_squat_44 (by decide) rfl ?_
        refine E_aload_n 1 dX11_squat_46 rfl rfl ?_
        refine E_getR 113 dX11_squat_47 fl_X11_67 rfl (sk_0 hs23) (sn hs23 (by decide)) (sr_0_8 hs23) ?_
        refine E_iload_n 4 dX11_squat_50 rfl rfl ?_
        refine E_aload_n 1 dX11_squat_51 rfl rfl ?_
        refine E_getI dX11_squat_52 fl_X11_289 rfl (sk_0 hs23) (sn hs23 (by decide)) ?_
        obtain ⟨d26, σ27, hD28, hC29, h⟩ := h
        have hs30 := hC29.1.2.2.2.1 hs23
        refine E_callV (As := [.int x3, .int (gI σ20 0 13)]) (rest := []) (r1 := none) (b := 113) dX11_squat_55 ok_X4_join in_X4_join se_X4_join ml_X11_298 hD28 rfl rfl (Nat.le_of_ble_eq_true rfl) (sk_113 hs23) (sn hs23 (by decide)) (by decide) rfl (by decide +kernel) hC29 ?_
        refine E_aload_n 1 dX11_squat_58 rfl rfl ?_
        refine E_getR 119 dX11_squat_59 fl_X11_76 rfl (sk_0 hs30) (sn hs30 (by decide)) (sr_0_9 hs30) ?_
        refine E_iload_n 4 dX11_squat_62 rfl rfl ?_
        refine E_aload 0 dX11_squat_63 rfl ?_
        obtain ⟨d31, σ32, hD33, hC34, h⟩ := h
        have hs35 := hC34.1.2.2.2.1 hs30
        refine E_callV (As := [.int x3, .ref b24]) (rest := []) (r1 := none) (b := 119) dX11_squat_65 ok_X2_lookRound in_X2_lookRound se_X2_lookRound ml_X11_340 hD33 rfl rfl (Nat.le_of_ble_eq_true rfl) (sk_119 hs30) (sn hs30 (by decide)) (by decide) rfl (by decide +kernel) hC34 ?_
        refine E_aload_n 1 dX11_squat_68 rfl rfl ?_
        refine E_getR 119 dX11_squat_69 fl_X11_76 rfl (sk_0 hs35) (sn hs35 (by decide)) (sr_0_9 hs35) ?_
        refine E_iload_n 3 dX11_squat_72 rfl rfl ?_
        obtain ⟨d36, v41, σ37, hD38, hC39, h⟩ := h
        have hs40 := hC39.1.2.2.2.1 hs35
        refine E_callV (As := [.int x2]) (rest := []) (r1 := (some (.int v41))) (b := 119) dX11_squat_73 ok_X2_isFree in_X2_isFree se_X2_isFree ml_X11_362 hD38 rfl rfl (Nat.le_of_ble_eq_true rfl) (sk_119 hs35) (sn hs35 (by decide)) (by decide) rfl (by decide +kernel) hC39 ?_
        refine E_if_eq 98 dX11_squat_76 (by decide) (fun c => ?_) (fun c => ?_)
        · rw [if_pos c] at h
          exact E_lv [1] rfl (w_X11_squat_98 hs40 h)
        · rw [if_neg c] at h
          refine E_aload_n 1 dX11_squat_79 rfl rfl ?_
          refine E_getR 119 dX11_squat_80 fl_X11_76 rfl (sk_0 hs40) (sn hs40 (by decide)) (sr_0_9 hs40) ?_
          refine E_aload_n 1 dX11_squat_83 rfl rfl ?_
          refine E_getR 113 dX11_squat_84 fl_X11_67 rfl (sk_0 hs40) (sn hs40 (by decide)) (sr_0_8 hs40) ?_
          refine E_getR 114 dX11_squat_87 fl_X11_301 rfl (sk_113 hs40) (sn hs40 (by decide)) (sr_113_2 hs40) ?_
          refine E_iload_n 2 dX11_squat_90 rfl rfl ?_
          obtain ⟨g42, h⟩ := h
          refine E_iald2 (x1.toNatClampNeg) dX11_squat_91 (sk_114 hs40) (sn hs40 (by decide)) g42 rfl ?_
          obtain ⟨d43, v48, σ44, hD45, hC46, h⟩ := h
          have hs47 := hC46.1.2.2.2.1 hs40
          refine E_callV (As := [.int (gI σ37 114 x1.toNatClampNeg)]) (rest := []) (r1 := (some (.int v48))) (b := 119) dX11_squat_92 ok_X2_isRoofless in_X2_isRoofless se_X2_isRoofless ml_X11_365 hD45 rfl rfl (Nat.le_of_ble_eq_true rfl) (sk_119 hs40) (sn hs40 (by decide)) (by decide) rfl (by decide +kernel) hC46 ?_
          refine E_if_ne 105 dX11_squat_95 (by decide) (fun c => ?_) (fun c => ?_)
          · rw [if_neg c] at h
            refine E_aload_n 1 dX11_squat_105 rfl rfl ?_
            refine E_getR 1 dX11_squat_106 fl_X11_10 rfl (sk_0 hs47) (sn hs47 (by decide)) (sr_0_0 hs47) ?_
            refine E_getI dX11_squat_109 fl_X11_368 rfl (sk_1 hs47) (sn hs47 (by decide)) ?_
            refine E_bipush (40 : Int32) dX11_squat_112 (by decide) ?_
            refine E_icmp_lt 124 dX11_squat_114 (by decide) (fun c => ?_) (fun c => ?_)
            · rw [if_pos c] at h
              refine E_aload_n 1 dX11_squat_124 rfl rfl ?_
              refine E_getR 28 dX11_squat_125 fl_X11_32 rfl (sk_0 hs47) (sn hs47 (by decide)) (sr_0_3 hs47) ?_
              refine E_iload_n 4 dX11_squat_128 rfl rfl ?_
              refine E_iload_n 4 dX11_squat_129 rfl rfl ?_
              obtain ⟨d49, σ50, hD51, hC52, h⟩ := h
              have hs53 := hC52.1.2.2.2.1 hs47
              refine E_callV (As := [.int x3, .int x3]) (rest := []) (r1 := none) (b := 28) dX11_squat_130 ok_X3_settle in_X3_settle se_X3_settle ml_X11_131 hD51 rfl rfl (Nat.le_of_ble_eq_true rfl) (sk_28 hs47) (sn hs47 (by decide)) (by decide) rfl (by decide +kernel) hC52 ?_
              refine E_aload_n 1 dX11_squat_133 rfl rfl ?_
              refine E_getR 28 dX11_squat_134 fl_X11_32 rfl (sk_0 hs53) (sn hs53 (by decide)) (sr_0_3 hs53) ?_
              refine E_iconst (0 : Int32) dX11_squat_137 (by decide) ?_
              refine E_iload_n 4 dX11_squat_138 rfl rfl ?_
              obtain ⟨d54, σ55, hD56, hC57, h⟩ := h
              have hs58 := hC57.1.2.2.2.1 hs53
              refine E_callV (As := [.int (0 : Int32), .int x3]) (rest := []) (r1 := none) (b := 28) dX11_squat_139 ok_X3_ask in_X3_ask se_X3_ask ml_X11_139 hD56 rfl rfl (Nat.le_of_ble_eq_true rfl) (sk_28 hs53) (sn hs53 (by decide)) (by decide) rfl (by decide +kernel) hC57 ?_
              refine E_aload_n 1 dX11_squat_142 rfl rfl ?_
              refine E_getR 28 dX11_squat_143 fl_X11_32 rfl (sk_0 hs58) (sn hs58 (by decide)) (sr_0_3 hs58) ?_
              refine E_bipush (60 : Int32) dX11_squat_146 (by decide) ?_
              obtain ⟨d59, v64, σ60, hD61, hC62, h⟩ := h
              have hs63 := hC62.1.2.2.2.1 hs58
              refine E_callV (As := [.int (60 : Int32)]) (rest := []) (r1 := (some (.int v64))) (b := 28) dX11_squat_148 ok_X3_counted in_X3_counted se_X3_counted ml_X11_142 hD61 rfl rfl (Nat.le_of_ble_eq_true rfl) (sk_28 hs58) (sn hs58 (by decide)) (by decide) rfl (by decide +kernel) hC62 ?_
              refine E_istore [(5, .int v64), (4, .ref b24), (0, .ref 0), (1, .int x1), (2, .int x2), (3, .int x3)] dX11_squat_151 (by decide) rfl ?_
              refine E_aload_n 2 dX11_squat_153 rfl rfl ?_
              refine E_getR 119 dX11_squat_154 fl_X11_76 rfl (sk_0 hs63) (sn hs63 (by decide)) (sr_0_9 hs63) ?_
              refine E_iload_n 3 dX11_squat_157 rfl rfl ?_
              refine E_iload_n 4 dX11_squat_158 rfl rfl ?_
              refine E_iload_n 5 dX11_squat_159 rfl rfl ?_
              refine E_iload 0 dX11_squat_160 rfl ?_
              refine E_iconst (-1 : Int32) dX11_squat_162 (by decide) ?_
              refine E_icmp_ne 172 dX11_squat_163 (by decide) (fun c => ?_) (fun c => ?_)
              · rw [if_neg c] at h
                refine E_iload_n 5 dX11_squat_172 rfl rfl ?_
                refine E_iload 0 dX11_squat_173 rfl ?_
                refine E_iadd dX11_squat_175 ?_
                exact E_lv [2, 5] rfl (w_X11_squat_176 hs63 h)
              · rw [if_pos c] at h
                refine E_ldcw (2000000000 : Int32) dX11_squat_166 ct_X11_371 ?_
                refine E_goto 176 dX11_squat_169 (by decide) ?_
                exact E_lv [2, 5] rfl (w_X11_squat_176 hs63 h)
            · rw [if_neg c] at h
              refine E_aload_n 1 dX11_squat_117 rfl rfl ?_
              refine E_bipush (-5 : Int32) dX11_squat_118 (by decide) ?_
              obtain ⟨d65, v70, σ66, hD67, hC68, h⟩ := h
              have hs69 := hC68.1.2.2.2.1 hs47
              refine E_callV (As := [.int (-5 : Int32)]) (rest := []) (r1 := (some (.int v70))) (b := 0) dX11_squat_120 ok_X11_answer in_X11_answer se_X11_answer ml_X11_105 hD67 rfl rfl (Nat.le_of_ble_eq_true rfl) (sk_0 hs47) (sn hs47 (by decide)) (by decide) rfl (by decide +kernel) hC68 ?_
              obtain ⟨rfl, rfl⟩ := h
              exact E_iret dX11_squat_123 rfl
          · rw [if_pos c] at h
            exact E_lv [1] rfl (w_X11_squat_98 hs47 h)
      · rw [if_pos c] at h
        exact E_lv [0] rfl (w_X11_squat_31 hs17 h)
  · rw [if_pos c] at h
    refine E_aload_n 0 dX11_squat_8 rfl rfl ?_
    refine E_iconst (-1 : Int32) dX11_squat_9 (by decide) ?_
    obtain ⟨d71, v76, σ72, hD73, hC74, h⟩ := h
    have hs75 := hC74.1.2.2.2.1 hs5
    refine E_callV (As := [.int (-1 : Int32)]) (rest := []) (r1 := (some (.int v76))) (b := 0) dX11_squat_10 ok_X11_answer in_X11_answer se_X11_answer ml_X11_105 hD73 rfl rfl (Nat.le_of_ble_eq_true rfl) (sk_0 hs5) (sn hs5 (by decide)) (by decide) rfl (by decide +kernel) hC74 ?_
    obtain ⟨rfl, rfl⟩ := h
    exact E_iret dX11_squat_13 rfl
def W_X11_out_56 (X : Sx) (l : Launch) (D : Nat) (σ : AH) (r : Option Value) (σ' : AH) : Prop := ∃ d48 : Nat, ∃ v53 : Int32, ∃ σ49 : AH, d48 + 1 ≤ D ∧ Call X l m_X11_answer d48 [.ref 0, .int (-3 : Int32)] σ (some (.int v53)) σ49 ∧ (r = some (.int v53) ∧ σ' = σ49)
set_option maxRecDepth 100000 in
theorem w_X11_out_56 {X : Sx} {l : Launch} {D : Nat} {σ : AH} {r : Option Value} {σ' : AH} (hs : Sh σ) (h : W_X11_out_56 X l D σ r σ') : E X l m_X11_out D 56 [(0, .ref 0)] [] σ r σ' := by
  unfold W_X11_out_56 at h
  refine E_aload_n 0 dX11_out_56 rfl rfl ?_
  refine E_bipush (-3 : Int32) dX11_out_57 (by decide) ?_
  obtain ⟨d48, v53, σ49, hD50, hC51, h⟩ := h
  have hs52 := hC51.1.2.2.2.1 hs
  refine E_callV (As := [.int (-3 : Int32)]) (rest := []) (r1 := (some (.int v53))) (b := 0) dX11_out_59 ok_X11_answer in_X11_answer se_X11_answer ml_X11_105 hD50 rfl rfl (Nat.le_of_ble_eq_true rfl) (sk_0 hs) (sn hs (by decide)) (by decide) rfl (by decide +kernel) hC51 ?_
  obtain ⟨rfl, rfl⟩ := h
  exact E_iret dX11_out_62 rfl
def W_X11_out_0 (X : Sx) (l : Launch) (D : Nat) (x1 : Int32) (x2 : Int32) (σ : AH) (r : Option Value) (σ' : AH) : Prop := ∃ d1 : Nat, ∃ v6 : Int32, ∃ σ2 : AH, d1 + 1 ≤ D ∧ Call X l m_X11_isMoveWeek d1 [.ref 0, .int x2] σ (some (.int v6)) σ2 ∧ (if v6 = 0 then ∃ d42 : Nat, ∃ v47 : Int32, ∃ σ43 : AH, d42 + 1 ≤ D ∧ Call X l m_X11_answer d42 [.ref 0, .int (-1 : Int32)] σ2 (some (.int v47)) σ43 ∧ (r = some (.int v47) ∧ σ' = σ43) else ∃ d7 : Nat, ∃ v12 : Int32, ∃ σ8 : AH, d7 + 1 ≤ D ∧ Call X l m_X11_isPlot d7 [.ref 0, .int x1] σ2 (some (.int v12)) σ8 ∧ (if v12 = 0 then ∃ d36 : Nat, ∃ v41 : Int32, ∃ σ37 : AH, d36 + 1 ≤ D ∧ Call X l m_X11_answer d36 [.ref 0, .int (-2 : Int32)] σ8 (some (.int v41)) σ37 ∧ (r = some (.int v41) ∧ σ' = σ37) else ∃ d13 : Nat, ∃ v18 : Int32, ∃ σ14 : AH, d13 + 1 ≤ D ∧ Call X l m_X2_stayIn d13 [.ref 119, .int x1, .int x2] σ8 (some (.int v18)) σ14 ∧ (if v18 = (-1 : Int32) then W_X11_out_56 X l D σ14 r σ' else ∃ d19 : Nat, ∃ v24 : Int32, ∃ σ20 : AH, d19 + 1 ≤ D ∧ Call X l m_X2_isLived d19 [.ref 119, .int v18, .int x2] σ14 (some (.int v24)) σ20 ∧ (if v24 = 0 then ∃ d25 : Nat, ∃ σ26 : AH, d25 + 1 ≤ D ∧ Call X l m_X8_put d25 [.ref 17, .int v18, .int (5 : Int32), .int x2] σ20 none σ26 ∧ ∃ d30 : Nat, ∃ v35 : Int32, ∃ σ31 : AH, d30 + 1 ≤ D ∧ Call X l m_X11_answer d30 [.ref 0, .int (0 : Int32)] (sI σ26 1 15 x2) (some (.int v35)) σ31 ∧ (r = some (.int v35) ∧ σ' = σ31) else W_X11_out_56 X l D σ20 r σ'))))
set_option maxRecDepth 100000 in
theorem w_X11_out_0 {X : Sx} {l : Launch} {D : Nat} {x1 : Int32} {x2 : Int32} {σ : AH} {r : Option Value} {σ' : AH} (hs : Sh σ) (h : W_X11_out_0 X l D x1 x2 σ r σ') : E X l m_X11_out D 0 [(0, .ref 0), (1, .int x1), (2, .int x2)] [] σ r σ' := by
  unfold W_X11_out_0 at h
  refine E_aload_n 0 dX11_out_0 rfl rfl ?_
  refine E_iload_n 2 dX11_out_1 rfl rfl ?_
  obtain ⟨d1, v6, σ2, hD3, hC4, h⟩ := h
  have hs5 := hC4.1.2.2.2.1 hs
  refine E_callV (As := [.int x2]) (rest := []) (r1 := (some (.int v6))) (b := 0) dX11_out_2 ok_X11_isMoveWeek in_X11_isMoveWeek se_X11_isMoveWeek ml_X11_331 hD3 rfl rfl (Nat.le_of_ble_eq_true rfl) (sk_0 hs) (sn hs (by decide)) (by decide) rfl (by decide +kernel) hC4 ?_
  refine E_if_ne 14 dX11_out_5 (by decide) (fun c => ?_) (fun c => ?_)
  · rw [if_neg c] at h
    refine E_aload_n 0 dX11_out_14 rfl rfl ?_
    refine E_iload_n 1 dX11_out_15 rfl rfl ?_
    obtain ⟨d7, v12, σ8, hD9, hC10, h⟩ := h
    have hs11 := hC10.1.2.2.2.1 hs5
    refine E_callV (As := [.int x1]) (rest := []) (r1 := (some (.int v12))) (b := 0) dX11_out_16 ok_X11_isPlot in_X11_isPlot se_X11_isPlot ml_X11_185 hD9 rfl rfl (Nat.le_of_ble_eq_true rfl) (sk_0 hs5) (sn hs5 (by decide)) (by decide) rfl (by decide +kernel) hC10 ?_
    refine E_if_ne 29 dX11_out_19 (by decide) (fun c => ?_) (fun c => ?_)
    · rw [if_neg c] at h
      refine E_aload_n 0 dX11_out_29 rfl rfl ?_
      refine E_getR 119 dX11_out_30 fl_X11_76 rfl (sk_0 hs11) (sn hs11 (by decide)) (sr_0_9 hs11) ?_
      refine E_iload_n 1 dX11_out_33 rfl rfl ?_
      refine E_iload_n 2 dX11_out_34 rfl rfl ?_
      obtain ⟨d13, v18, σ14, hD15, hC16, h⟩ := h
      have hs17 := hC16.1.2.2.2.1 hs11
      refine E_callV (As := [.int x1, .int x2]) (rest := []) (r1 := (some (.int v18))) (b := 119) dX11_out_35 ok_X2_stayIn in_X2_stayIn se_X2_stayIn ml_X11_376 hD15 rfl rfl (Nat.le_of_ble_eq_true rfl) (sk_119 hs11) (sn hs11 (by decide)) (by decide) rfl (by decide +kernel) hC16 ?_
      refine E_istore_n [(3, .int v18), (0, .ref 0), (1, .int x1), (2, .int x2)] dX11_out_38 rfl (by decide) rfl ?_
      refine E_iload_n 0 dX11_out_39 rfl rfl ?_
      refine E_iconst (-1 : Int32) dX11_out_40 (by decide) ?_
      refine E_icmp_eq 56 dX11_out_41 (by decide) (fun c => ?_) (fun c => ?_)
      · rw [if_pos c] at h
        exact E_lv [1] rfl (w_X11_out_56 hs17 h)
      · rw [if_neg c] at h
        refine E_aload_n 1 dX11_out_44 rfl rfl ?_
        refine E_getR 119 dX11_out_45 fl_X11_76 rfl (sk_0 hs17) (sn hs17 (by decide)) (sr_0_9 hs17) ?_
        refine E_iload_n 0 dX11_out_48 rfl rfl ?_
        refine E_iload_n 3 dX11_out_49 rfl rfl ?_
        obtain ⟨d19, v24, σ20, hD21, hC22, h⟩ := h
        have hs23 := hC22.1.2.2.2.1 hs17
        refine E_callV (As := [.int v18, .int x2]) (rest := []) (r1 := (some (.int v24))) (b := 119) dX11_out_50 ok_X2_isLived in_X2_isLived se_X2_isLived ml_X11_379 hD21 rfl rfl (Nat.le_of_ble_eq_true rfl) (sk_119 hs17) (sn hs17 (by decide)) (by decide) rfl (by decide +kernel) hC22 ?_
        refine E_if_eq 63 dX11_out_53 (by decide) (fun c => ?_) (fun c => ?_)
        · rw [if_pos c] at h
          refine E_aload_n 1 dX11_out_63 rfl rfl ?_
          refine E_getR 1 dX11_out_64 fl_X11_10 rfl (sk_0 hs23) (sn hs23 (by decide)) (sr_0_0 hs23) ?_
          refine E_getR 17 dX11_out_67 fl_X11_356 rfl (sk_1 hs23) (sn hs23 (by decide)) (sr_1_9 hs23) ?_
          refine E_iload_n 0 dX11_out_70 rfl rfl ?_
          refine E_iconst (5 : Int32) dX11_out_71 (by decide) ?_
          refine E_iload_n 3 dX11_out_72 rfl rfl ?_
          obtain ⟨d25, σ26, hD27, hC28, h⟩ := h
          have hs29 := hC28.1.2.2.2.1 hs23
          refine E_callV (As := [.int v18, .int (5 : Int32), .int x2]) (rest := []) (r1 := none) (b := 17) dX11_out_73 ok_X8_put in_X8_put se_X8_put ml_X11_169 hD27 rfl rfl (Nat.le_of_ble_eq_true rfl) (sk_17 hs23) (sn hs23 (by decide)) (by decide) rfl (by decide +kernel) hC28 ?_
          refine E_aload_n 1 dX11_out_76 rfl rfl ?_
          refine E_getR 1 dX11_out_77 fl_X11_10 rfl (sk_0 hs29) (sn hs29 (by decide)) (sr_0_0 hs29) ?_
          refine E_iload_n 3 dX11_out_80 rfl rfl ?_
          refine E_putI dX11_out_81 fl_X11_350 rfl (Or.inl rfl) (sk_1 hs29) (sn hs29 (by decide)) (Or.inl (by decide)) rfl rfl ?_
          refine E_aload_n 1 dX11_out_84 rfl rfl ?_
          refine E_iconst (0 : Int32) dX11_out_85 (by decide) ?_
          obtain ⟨d30, v35, σ31, hD32, hC33, h⟩ := h
          have hs34 := hC33.1.2.2.2.1 hs29
          refine E_callV (As := [.int (0 : Int32)]) (rest := []) (r1 := (some (.int v35))) (b := 0) dX11_out_86 ok_X11_answer in_X11_answer se_X11_answer ml_X11_105 hD32 rfl rfl (Nat.le_of_ble_eq_true rfl) (sk_0 hs29) (sn hs29 (by decide)) (by decide) rfl (by decide +kernel) hC33 ?_
          obtain ⟨rfl, rfl⟩ := h
          exact E_iret dX11_out_89 rfl
        · rw [if_neg c] at h
          exact E_lv [1] rfl (w_X11_out_56 hs23 h)
    · rw [if_pos c] at h
      refine E_aload_n 0 dX11_out_22 rfl rfl ?_
      refine E_bipush (-2 : Int32) dX11_out_23 (by decide) ?_
      obtain ⟨d36, v41, σ37, hD38, hC39, h⟩ := h
      have hs40 := hC39.1.2.2.2.1 hs11
      refine E_callV (As := [.int (-2 : Int32)]) (rest := []) (r1 := (some (.int v41))) (b := 0) dX11_out_25 ok_X11_answer in_X11_answer se_X11_answer ml_X11_105 hD38 rfl rfl (Nat.le_of_ble_eq_true rfl) (sk_0 hs11) (sn hs11 (by decide)) (by decide) rfl (by decide +kernel) hC39 ?_
      obtain ⟨rfl, rfl⟩ := h
      exact E_iret dX11_out_28 rfl
  · rw [if_pos c] at h
    refine E_aload_n 0 dX11_out_8 rfl rfl ?_
    refine E_iconst (-1 : Int32) dX11_out_9 (by decide) ?_
    obtain ⟨d42, v47, σ43, hD44, hC45, h⟩ := h
    have hs46 := hC45.1.2.2.2.1 hs5
    refine E_callV (As := [.int (-1 : Int32)]) (rest := []) (r1 := (some (.int v47))) (b := 0) dX11_out_10 ok_X11_answer in_X11_answer se_X11_answer ml_X11_105 hD44 rfl rfl (Nat.le_of_ble_eq_true rfl) (sk_0 hs5) (sn hs5 (by decide)) (by decide) rfl (by decide +kernel) hC45 ?_
    obtain ⟨rfl, rfl⟩ := h
    exact E_iret dX11_out_13 rfl
