theorem dX4_isAlike_0 : decode cX4_isAlike 0 = .ok (.iconst 0, 1) := by decide +kernel
theorem dX4_isAlike_1 : decode cX4_isAlike 1 = .ok (.istore_n 3, 1) := by decide +kernel
theorem dX4_isAlike_2 : decode cX4_isAlike 2 = .ok (.bipush 7, 2) := by decide +kernel
theorem dX4_isAlike_4 : decode cX4_isAlike 4 = .ok (.istore 4, 2) := by decide +kernel
theorem dX4_isAlike_6 : decode cX4_isAlike 6 = .ok (.iload 4, 2) := by decide +kernel
theorem dX4_isAlike_8 : decode cX4_isAlike 8 = .ok (.bipush 10, 2) := by decide +kernel
theorem dX4_isAlike_10 : decode cX4_isAlike 10 = .ok (.if_icmp .ge 63, 3) := by decide +kernel
theorem dX4_isAlike_13 : decode cX4_isAlike 13 = .ok (.aload_n 0, 1) := by decide +kernel
theorem dX4_isAlike_14 : decode cX4_isAlike 14 = .ok (.getfield 35, 3) := by decide +kernel
theorem dX4_isAlike_17 : decode cX4_isAlike 17 = .ok (.getfield 43, 3) := by decide +kernel
theorem dX4_isAlike_20 : decode cX4_isAlike 20 = .ok (.iload_n 1, 1) := by decide +kernel
theorem dX4_isAlike_21 : decode cX4_isAlike 21 = .ok (.iload 4, 2) := by decide +kernel
theorem dX4_isAlike_23 : decode cX4_isAlike 23 = .ok (.invokevirtual 55, 3) := by decide +kernel
theorem dX4_isAlike_26 : decode cX4_isAlike 26 = .ok (.istore 5, 2) := by decide +kernel
theorem dX4_isAlike_28 : decode cX4_isAlike 28 = .ok (.aload_n 0, 1) := by decide +kernel
theorem dX4_isAlike_29 : decode cX4_isAlike 29 = .ok (.getfield 35, 3) := by decide +kernel
theorem dX4_isAlike_32 : decode cX4_isAlike 32 = .ok (.getfield 43, 3) := by decide +kernel
theorem dX4_isAlike_35 : decode cX4_isAlike 35 = .ok (.iload_n 2, 1) := by decide +kernel
theorem dX4_isAlike_36 : decode cX4_isAlike 36 = .ok (.iload 4, 2) := by decide +kernel
theorem dX4_isAlike_38 : decode cX4_isAlike 38 = .ok (.invokevirtual 55, 3) := by decide +kernel
theorem dX4_isAlike_41 : decode cX4_isAlike 41 = .ok (.istore 6, 2) := by decide +kernel
theorem dX4_isAlike_43 : decode cX4_isAlike 43 = .ok (.iload 5, 2) := by decide +kernel
theorem dX4_isAlike_45 : decode cX4_isAlike 45 = .ok (.iconst (-1), 1) := by decide +kernel
theorem dX4_isAlike_46 : decode cX4_isAlike 46 = .ok (.if_icmp .eq 21, 3) := by decide +kernel
theorem dX4_isAlike_49 : decode cX4_isAlike 49 = .ok (.iload 6, 2) := by decide +kernel
theorem dX4_isAlike_51 : decode cX4_isAlike 51 = .ok (.iconst (-1), 1) := by decide +kernel
theorem dX4_isAlike_52 : decode cX4_isAlike 52 = .ok (.if_icmp .eq 15, 3) := by decide +kernel
theorem dX4_isAlike_55 : decode cX4_isAlike 55 = .ok (.iload 5, 2) := by decide +kernel
theorem dX4_isAlike_57 : decode cX4_isAlike 57 = .ok (.iload 6, 2) := by decide +kernel
theorem dX4_isAlike_59 : decode cX4_isAlike 59 = .ok (.if_icmp .eq 5, 3) := by decide +kernel
theorem dX4_isAlike_62 : decode cX4_isAlike 62 = .ok (.iconst 0, 1) := by decide +kernel
theorem dX4_isAlike_63 : decode cX4_isAlike 63 = .ok (.ireturn, 1) := by decide +kernel
theorem dX4_isAlike_64 : decode cX4_isAlike 64 = .ok (.iinc 3 1, 3) := by decide +kernel
theorem dX4_isAlike_67 : decode cX4_isAlike 67 = .ok (.iinc 4 1, 3) := by decide +kernel
theorem dX4_isAlike_70 : decode cX4_isAlike 70 = .ok (.goto (-64), 3) := by decide +kernel
theorem dX4_isAlike_73 : decode cX4_isAlike 73 = .ok (.iload_n 3, 1) := by decide +kernel
theorem dX4_isAlike_74 : decode cX4_isAlike 74 = .ok (.iconst 2, 1) := by decide +kernel
theorem dX4_isAlike_75 : decode cX4_isAlike 75 = .ok (.if_icmp .lt 7, 3) := by decide +kernel
theorem dX4_isAlike_78 : decode cX4_isAlike 78 = .ok (.iconst 1, 1) := by decide +kernel
theorem dX4_isAlike_79 : decode cX4_isAlike 79 = .ok (.goto 4, 3) := by decide +kernel
theorem dX4_isAlike_82 : decode cX4_isAlike 82 = .ok (.iconst 0, 1) := by decide +kernel
theorem dX4_isAlike_83 : decode cX4_isAlike 83 = .ok (.ireturn, 1) := by decide +kernel
theorem dX4_weightOf_0 : decode cX4_weightOf 0 = .ok (.aload_n 0, 1) := by decide +kernel
theorem dX4_weightOf_1 : decode cX4_weightOf 1 = .ok (.getfield 39, 3) := by decide +kernel
theorem dX4_weightOf_4 : decode cX4_weightOf 4 = .ok (.iconst 0, 1) := by decide +kernel
theorem dX4_weightOf_5 : decode cX4_weightOf 5 = .ok (.iload_n 2, 1) := by decide +kernel
theorem dX4_weightOf_6 : decode cX4_weightOf 6 = .ok (.invokevirtual 72, 3) := by decide +kernel
theorem dX4_weightOf_9 : decode cX4_weightOf 9 = .ok (.aload_n 0, 1) := by decide +kernel
theorem dX4_weightOf_10 : decode cX4_weightOf 10 = .ok (.getfield 39, 3) := by decide +kernel
theorem dX4_weightOf_13 : decode cX4_weightOf 13 = .ok (.iload_n 1, 1) := by decide +kernel
theorem dX4_weightOf_14 : decode cX4_weightOf 14 = .ok (.iconst 0, 1) := by decide +kernel
theorem dX4_weightOf_15 : decode cX4_weightOf 15 = .ok (.iload_n 2, 1) := by decide +kernel
theorem dX4_weightOf_16 : decode cX4_weightOf 16 = .ok (.aload_n 0, 1) := by decide +kernel
theorem dX4_weightOf_17 : decode cX4_weightOf 17 = .ok (.getfield 35, 3) := by decide +kernel
theorem dX4_weightOf_20 : decode cX4_weightOf 20 = .ok (.getfield 43, 3) := by decide +kernel
theorem dX4_weightOf_23 : decode cX4_weightOf 23 = .ok (.iload_n 1, 1) := by decide +kernel
theorem dX4_weightOf_24 : decode cX4_weightOf 24 = .ok (.iconst 1, 1) := by decide +kernel
theorem dX4_weightOf_25 : decode cX4_weightOf 25 = .ok (.invokevirtual 55, 3) := by decide +kernel
theorem dX4_weightOf_28 : decode cX4_weightOf 28 = .ok (.isub, 1) := by decide +kernel
theorem dX4_weightOf_29 : decode cX4_weightOf 29 = .ok (.invokestatic 78, 3) := by decide +kernel
theorem dX4_weightOf_32 : decode cX4_weightOf 32 = .ok (.invokevirtual 81, 3) := by decide +kernel
theorem dX4_weightOf_35 : decode cX4_weightOf 35 = .ok (.aload_n 0, 1) := by decide +kernel
theorem dX4_weightOf_36 : decode cX4_weightOf 36 = .ok (.getfield 39, 3) := by decide +kernel
theorem dX4_weightOf_39 : decode cX4_weightOf 39 = .ok (.bipush 54, 2) := by decide +kernel
theorem dX4_weightOf_41 : decode cX4_weightOf 41 = .ok (.invokevirtual 84, 3) := by decide +kernel
theorem dX4_weightOf_44 : decode cX4_weightOf 44 = .ok (.lreturn, 1) := by decide +kernel
theorem dX4_sortAll_0 : decode cX4_sortAll 0 = .ok (.iconst 0, 1) := by decide +kernel
theorem dX4_sortAll_1 : decode cX4_sortAll 1 = .ok (.istore_n 2, 1) := by decide +kernel
theorem dX4_sortAll_2 : decode cX4_sortAll 2 = .ok (.iload_n 2, 1) := by decide +kernel
theorem dX4_sortAll_3 : decode cX4_sortAll 3 = .ok (.bipush 6, 2) := by decide +kernel
theorem dX4_sortAll_5 : decode cX4_sortAll 5 = .ok (.if_icmp .ge 16, 3) := by decide +kernel
theorem dX4_sortAll_8 : decode cX4_sortAll 8 = .ok (.aload_n 0, 1) := by decide +kernel
theorem dX4_sortAll_9 : decode cX4_sortAll 9 = .ok (.iload_n 2, 1) := by decide +kernel
theorem dX4_sortAll_10 : decode cX4_sortAll 10 = .ok (.iload_n 1, 1) := by decide +kernel
theorem dX4_sortAll_11 : decode cX4_sortAll 11 = .ok (.iload_n 1, 1) := by decide +kernel
theorem dX4_sortAll_12 : decode cX4_sortAll 12 = .ok (.invokevirtual 88, 3) := by decide +kernel
theorem dX4_sortAll_15 : decode cX4_sortAll 15 = .ok (.iinc 2 1, 3) := by decide +kernel
theorem dX4_sortAll_18 : decode cX4_sortAll 18 = .ok (.goto (-16), 3) := by decide +kernel
theorem dX4_sortAll_21 : decode cX4_sortAll 21 = .ok (.return_, 1) := by decide +kernel
theorem dX4_sort_0 : decode cX4_sort 0 = .ok (.aload_n 0, 1) := by decide +kernel
theorem dX4_sort_1 : decode cX4_sort 1 = .ok (.getfield 39, 3) := by decide +kernel
theorem dX4_sort_4 : decode cX4_sort 4 = .ok (.iload_n 2, 1) := by decide +kernel
theorem dX4_sort_5 : decode cX4_sort 5 = .ok (.iload_n 3, 1) := by decide +kernel
theorem dX4_sort_6 : decode cX4_sort 6 = .ok (.invokevirtual 91, 3) := by decide +kernel
theorem dX4_sort_9 : decode cX4_sort 9 = .ok (.iload_n 1, 1) := by decide +kernel
theorem dX4_sort_10 : decode cX4_sort 10 = .ok (.bipush 60, 2) := by decide +kernel
theorem dX4_sort_12 : decode cX4_sort 12 = .ok (.imul, 1) := by decide +kernel
theorem dX4_sort_13 : decode cX4_sort 13 = .ok (.istore 4, 2) := by decide +kernel
theorem dX4_sort_15 : decode cX4_sort 15 = .ok (.iconst 0, 1) := by decide +kernel
theorem dX4_sort_16 : decode cX4_sort 16 = .ok (.istore 5, 2) := by decide +kernel
theorem dX4_sort_18 : decode cX4_sort 18 = .ok (.iconst 0, 1) := by decide +kernel
theorem dX4_sort_19 : decode cX4_sort 19 = .ok (.istore 6, 2) := by decide +kernel
theorem dX4_sort_21 : decode cX4_sort 21 = .ok (.iload 6, 2) := by decide +kernel
theorem dX4_sort_23 : decode cX4_sort 23 = .ok (.aload_n 0, 1) := by decide +kernel
theorem dX4_sort_24 : decode cX4_sort 24 = .ok (.getfield 35, 3) := by decide +kernel
theorem dX4_sort_27 : decode cX4_sort 27 = .ok (.getfield 43, 3) := by decide +kernel
theorem dX4_sort_30 : decode cX4_sort 30 = .ok (.invokevirtual 49, 3) := by decide +kernel
theorem dX4_sort_33 : decode cX4_sort 33 = .ok (.if_icmp .ge 141, 3) := by decide +kernel
theorem dX4_sort_36 : decode cX4_sort 36 = .ok (.aload_n 0, 1) := by decide +kernel
theorem dX4_sort_37 : decode cX4_sort 37 = .ok (.getfield 35, 3) := by decide +kernel
theorem dX4_sort_40 : decode cX4_sort 40 = .ok (.getfield 43, 3) := by decide +kernel
theorem dX4_sort_43 : decode cX4_sort 43 = .ok (.iload 6, 2) := by decide +kernel
theorem dX4_sort_45 : decode cX4_sort 45 = .ok (.iconst 0, 1) := by decide +kernel
theorem dX4_sort_46 : decode cX4_sort 46 = .ok (.invokevirtual 55, 3) := by decide +kernel
theorem dX4_sort_49 : decode cX4_sort 49 = .ok (.iload_n 1, 1) := by decide +kernel
theorem dX4_sort_50 : decode cX4_sort 50 = .ok (.if_icmp .ne 118, 3) := by decide +kernel
theorem dX4_sort_53 : decode cX4_sort 53 = .ok (.aload_n 0, 1) := by decide +kernel
theorem dX4_sort_54 : decode cX4_sort 54 = .ok (.getfield 35, 3) := by decide +kernel
theorem dX4_sort_57 : decode cX4_sort 57 = .ok (.getfield 43, 3) := by decide +kernel
theorem dX4_sort_60 : decode cX4_sort 60 = .ok (.iload 6, 2) := by decide +kernel
theorem dX4_sort_62 : decode cX4_sort 62 = .ok (.iconst 1, 1) := by decide +kernel
theorem dX4_sort_63 : decode cX4_sort 63 = .ok (.invokevirtual 55, 3) := by decide +kernel
theorem dX4_sort_66 : decode cX4_sort 66 = .ok (.iload_n 2, 1) := by decide +kernel
theorem dX4_sort_67 : decode cX4_sort 67 = .ok (.if_icmp .gt 101, 3) := by decide +kernel
theorem dX4_sort_70 : decode cX4_sort 70 = .ok (.aload_n 0, 1) := by decide +kernel
theorem dX4_sort_71 : decode cX4_sort 71 = .ok (.getfield 35, 3) := by decide +kernel
theorem dX4_sort_74 : decode cX4_sort 74 = .ok (.getfield 43, 3) := by decide +kernel
theorem dX4_sort_77 : decode cX4_sort 77 = .ok (.iload 6, 2) := by decide +kernel
theorem dX4_sort_79 : decode cX4_sort 79 = .ok (.bipush 6, 2) := by decide +kernel
theorem dX4_sort_81 : decode cX4_sort 81 = .ok (.invokevirtual 55, 3) := by decide +kernel
theorem dX4_sort_84 : decode cX4_sort 84 = .ok (.iload_n 3, 1) := by decide +kernel
theorem dX4_sort_85 : decode cX4_sort 85 = .ok (.if_icmp .gt 83, 3) := by decide +kernel
theorem dX4_sort_88 : decode cX4_sort 88 = .ok (.aload_n 0, 1) := by decide +kernel
theorem dX4_sort_89 : decode cX4_sort 89 = .ok (.getfield 28, 3) := by decide +kernel
theorem dX4_sort_92 : decode cX4_sort 92 = .ok (.iload 6, 2) := by decide +kernel
theorem dX4_sort_94 : decode cX4_sort 94 = .ok (.aload_n 0, 1) := by decide +kernel
theorem dX4_sort_95 : decode cX4_sort 95 = .ok (.iload 6, 2) := by decide +kernel
theorem dX4_sort_97 : decode cX4_sort 97 = .ok (.iload_n 2, 1) := by decide +kernel
theorem dX4_sort_98 : decode cX4_sort 98 = .ok (.invokevirtual 94, 3) := by decide +kernel
theorem dX4_sort_101 : decode cX4_sort 101 = .ok (.lastore, 1) := by decide +kernel
theorem dX4_sort_102 : decode cX4_sort 102 = .ok (.iload 4, 2) := by decide +kernel
theorem dX4_sort_104 : decode cX4_sort 104 = .ok (.iload 5, 2) := by decide +kernel
theorem dX4_sort_106 : decode cX4_sort 106 = .ok (.iadd, 1) := by decide +kernel
theorem dX4_sort_107 : decode cX4_sort 107 = .ok (.istore 7, 2) := by decide +kernel
theorem dX4_sort_109 : decode cX4_sort 109 = .ok (.iload 7, 2) := by decide +kernel
theorem dX4_sort_111 : decode cX4_sort 111 = .ok (.iload 4, 2) := by decide +kernel
theorem dX4_sort_113 : decode cX4_sort 113 = .ok (.if_icmp .le 43, 3) := by decide +kernel
theorem dX4_sort_116 : decode cX4_sort 116 = .ok (.aload_n 0, 1) := by decide +kernel
theorem dX4_sort_117 : decode cX4_sort 117 = .ok (.iload 6, 2) := by decide +kernel
theorem dX4_sort_119 : decode cX4_sort 119 = .ok (.aload_n 0, 1) := by decide +kernel
theorem dX4_sort_120 : decode cX4_sort 120 = .ok (.getfield 22, 3) := by decide +kernel
theorem dX4_sort_123 : decode cX4_sort 123 = .ok (.iload 7, 2) := by decide +kernel
theorem dX4_sort_125 : decode cX4_sort 125 = .ok (.iconst 1, 1) := by decide +kernel
theorem dX4_sort_126 : decode cX4_sort 126 = .ok (.isub, 1) := by decide +kernel
theorem dX4_sort_127 : decode cX4_sort 127 = .ok (.iaload, 1) := by decide +kernel
theorem dX4_sort_128 : decode cX4_sort 128 = .ok (.invokevirtual 98, 3) := by decide +kernel
theorem dX4_sort_131 : decode cX4_sort 131 = .ok (.ifCond .eq 25, 3) := by decide +kernel
theorem dX4_sort_134 : decode cX4_sort 134 = .ok (.aload_n 0, 1) := by decide +kernel
theorem dX4_sort_135 : decode cX4_sort 135 = .ok (.getfield 22, 3) := by decide +kernel
theorem dX4_sort_138 : decode cX4_sort 138 = .ok (.iload 7, 2) := by decide +kernel
theorem dX4_sort_140 : decode cX4_sort 140 = .ok (.aload_n 0, 1) := by decide +kernel
theorem dX4_sort_141 : decode cX4_sort 141 = .ok (.getfield 22, 3) := by decide +kernel
theorem dX4_sort_144 : decode cX4_sort 144 = .ok (.iload 7, 2) := by decide +kernel
theorem dX4_sort_146 : decode cX4_sort 146 = .ok (.iconst 1, 1) := by decide +kernel
theorem dX4_sort_147 : decode cX4_sort 147 = .ok (.isub, 1) := by decide +kernel
theorem dX4_sort_148 : decode cX4_sort 148 = .ok (.iaload, 1) := by decide +kernel
theorem dX4_sort_149 : decode cX4_sort 149 = .ok (.iastore, 1) := by decide +kernel
theorem dX4_sort_150 : decode cX4_sort 150 = .ok (.iinc 7 (-1), 3) := by decide +kernel
theorem dX4_sort_153 : decode cX4_sort 153 = .ok (.goto (-44), 3) := by decide +kernel
theorem dX4_sort_156 : decode cX4_sort 156 = .ok (.aload_n 0, 1) := by decide +kernel
theorem dX4_sort_157 : decode cX4_sort 157 = .ok (.getfield 22, 3) := by decide +kernel
theorem dX4_sort_160 : decode cX4_sort 160 = .ok (.iload 7, 2) := by decide +kernel
theorem dX4_sort_162 : decode cX4_sort 162 = .ok (.iload 6, 2) := by decide +kernel
theorem dX4_sort_164 : decode cX4_sort 164 = .ok (.iastore, 1) := by decide +kernel
theorem dX4_sort_165 : decode cX4_sort 165 = .ok (.iinc 5 1, 3) := by decide +kernel
theorem dX4_sort_168 : decode cX4_sort 168 = .ok (.iinc 6 1, 3) := by decide +kernel
theorem dX4_sort_171 : decode cX4_sort 171 = .ok (.goto (-150), 3) := by decide +kernel
theorem dX4_sort_174 : decode cX4_sort 174 = .ok (.aload_n 0, 1) := by decide +kernel
theorem dX4_sort_175 : decode cX4_sort 175 = .ok (.getfield 25, 3) := by decide +kernel
theorem dX4_sort_178 : decode cX4_sort 178 = .ok (.iload_n 1, 1) := by decide +kernel
theorem dX4_sort_179 : decode cX4_sort 179 = .ok (.iload 5, 2) := by decide +kernel
theorem dX4_sort_181 : decode cX4_sort 181 = .ok (.iastore, 1) := by decide +kernel
theorem dX4_sort_182 : decode cX4_sort 182 = .ok (.return_, 1) := by decide +kernel
theorem dX4_isAhead_0 : decode cX4_isAhead 0 = .ok (.aload_n 0, 1) := by decide +kernel
theorem dX4_isAhead_1 : decode cX4_isAhead 1 = .ok (.getfield 28, 3) := by decide +kernel
theorem dX4_isAhead_4 : decode cX4_isAhead 4 = .ok (.iload_n 1, 1) := by decide +kernel
theorem dX4_isAhead_5 : decode cX4_isAhead 5 = .ok (.laload, 1) := by decide +kernel
theorem dX4_isAhead_6 : decode cX4_isAhead 6 = .ok (.aload_n 0, 1) := by decide +kernel
theorem dX4_isAhead_7 : decode cX4_isAhead 7 = .ok (.getfield 28, 3) := by decide +kernel
theorem dX4_isAhead_10 : decode cX4_isAhead 10 = .ok (.iload_n 2, 1) := by decide +kernel
theorem dX4_isAhead_11 : decode cX4_isAhead 11 = .ok (.laload, 1) := by decide +kernel
theorem dX4_isAhead_12 : decode cX4_isAhead 12 = .ok (.lcmp, 1) := by decide +kernel
theorem dX4_isAhead_13 : decode cX4_isAhead 13 = .ok (.ifCond .eq 25, 3) := by decide +kernel
theorem dX4_isAhead_16 : decode cX4_isAhead 16 = .ok (.aload_n 0, 1) := by decide +kernel
theorem dX4_isAhead_17 : decode cX4_isAhead 17 = .ok (.getfield 28, 3) := by decide +kernel
theorem dX4_isAhead_20 : decode cX4_isAhead 20 = .ok (.iload_n 1, 1) := by decide +kernel
theorem dX4_isAhead_21 : decode cX4_isAhead 21 = .ok (.laload, 1) := by decide +kernel
theorem dX4_isAhead_22 : decode cX4_isAhead 22 = .ok (.aload_n 0, 1) := by decide +kernel
theorem dX4_isAhead_23 : decode cX4_isAhead 23 = .ok (.getfield 28, 3) := by decide +kernel
theorem dX4_isAhead_26 : decode cX4_isAhead 26 = .ok (.iload_n 2, 1) := by decide +kernel
theorem dX4_isAhead_27 : decode cX4_isAhead 27 = .ok (.laload, 1) := by decide +kernel
theorem dX4_isAhead_28 : decode cX4_isAhead 28 = .ok (.lcmp, 1) := by decide +kernel
theorem dX4_isAhead_29 : decode cX4_isAhead 29 = .ok (.ifCond .le 7, 3) := by decide +kernel
theorem dX4_isAhead_32 : decode cX4_isAhead 32 = .ok (.iconst 1, 1) := by decide +kernel
theorem dX4_isAhead_33 : decode cX4_isAhead 33 = .ok (.goto 4, 3) := by decide +kernel
theorem dX4_isAhead_36 : decode cX4_isAhead 36 = .ok (.iconst 0, 1) := by decide +kernel
theorem dX4_isAhead_37 : decode cX4_isAhead 37 = .ok (.ireturn, 1) := by decide +kernel
theorem dX4_isAhead_38 : decode cX4_isAhead 38 = .ok (.aload_n 0, 1) := by decide +kernel
theorem dX4_isAhead_39 : decode cX4_isAhead 39 = .ok (.getfield 35, 3) := by decide +kernel
theorem dX4_isAhead_42 : decode cX4_isAhead 42 = .ok (.getfield 43, 3) := by decide +kernel
theorem dX4_isAhead_45 : decode cX4_isAhead 45 = .ok (.iload_n 1, 1) := by decide +kernel
theorem dX4_isAhead_46 : decode cX4_isAhead 46 = .ok (.iconst 1, 1) := by decide +kernel
theorem dX4_isAhead_47 : decode cX4_isAhead 47 = .ok (.invokevirtual 55, 3) := by decide +kernel
theorem dX4_isAhead_50 : decode cX4_isAhead 50 = .ok (.istore_n 3, 1) := by decide +kernel
theorem dX4_isAhead_51 : decode cX4_isAhead 51 = .ok (.aload_n 0, 1) := by decide +kernel
theorem dX4_isAhead_52 : decode cX4_isAhead 52 = .ok (.getfield 35, 3) := by decide +kernel
theorem dX4_isAhead_55 : decode cX4_isAhead 55 = .ok (.getfield 43, 3) := by decide +kernel
theorem dX4_isAhead_58 : decode cX4_isAhead 58 = .ok (.iload_n 2, 1) := by decide +kernel
theorem dX4_isAhead_59 : decode cX4_isAhead 59 = .ok (.iconst 1, 1) := by decide +kernel
theorem dX4_isAhead_60 : decode cX4_isAhead 60 = .ok (.invokevirtual 55, 3) := by decide +kernel
theorem dX4_isAhead_63 : decode cX4_isAhead 63 = .ok (.istore 4, 2) := by decide +kernel
theorem dX4_isAhead_65 : decode cX4_isAhead 65 = .ok (.iload_n 3, 1) := by decide +kernel
theorem dX4_isAhead_66 : decode cX4_isAhead 66 = .ok (.iload 4, 2) := by decide +kernel
theorem dX4_isAhead_68 : decode cX4_isAhead 68 = .ok (.if_icmp .eq 17, 3) := by decide +kernel
theorem dX4_isAhead_71 : decode cX4_isAhead 71 = .ok (.iload_n 3, 1) := by decide +kernel
theorem dX4_isAhead_72 : decode cX4_isAhead 72 = .ok (.iload 4, 2) := by decide +kernel
theorem dX4_isAhead_74 : decode cX4_isAhead 74 = .ok (.if_icmp .ge 7, 3) := by decide +kernel
theorem dX4_isAhead_77 : decode cX4_isAhead 77 = .ok (.iconst 1, 1) := by decide +kernel
theorem dX4_isAhead_78 : decode cX4_isAhead 78 = .ok (.goto 17, 3) := by decide +kernel
theorem dX4_isAhead_81 : decode cX4_isAhead 81 = .ok (.iconst 0, 1) := by decide +kernel
theorem dX4_isAhead_82 : decode cX4_isAhead 82 = .ok (.goto 13, 3) := by decide +kernel
theorem dX4_isAhead_85 : decode cX4_isAhead 85 = .ok (.iload_n 1, 1) := by decide +kernel
theorem dX4_isAhead_86 : decode cX4_isAhead 86 = .ok (.iload_n 2, 1) := by decide +kernel
theorem dX4_isAhead_87 : decode cX4_isAhead 87 = .ok (.if_icmp .ge 7, 3) := by decide +kernel
theorem dX4_isAhead_90 : decode cX4_isAhead 90 = .ok (.iconst 1, 1) := by decide +kernel
theorem dX4_isAhead_91 : decode cX4_isAhead 91 = .ok (.goto 4, 3) := by decide +kernel
theorem dX4_isAhead_94 : decode cX4_isAhead 94 = .ok (.iconst 0, 1) := by decide +kernel
theorem dX4_isAhead_95 : decode cX4_isAhead 95 = .ok (.ireturn, 1) := by decide +kernel
theorem dX4_turned_0 : decode cX4_turned 0 = .ok (.iload_n 1, 1) := by decide +kernel
theorem dX4_turned_1 : decode cX4_turned 1 = .ok (.bipush 60, 2) := by decide +kernel
theorem dX4_turned_3 : decode cX4_turned 3 = .ok (.imul, 1) := by decide +kernel
theorem dX4_turned_4 : decode cX4_turned 4 = .ok (.istore 5, 2) := by decide +kernel
theorem dX4_turned_6 : decode cX4_turned 6 = .ok (.aload_n 0, 1) := by decide +kernel
theorem dX4_turned_7 : decode cX4_turned 7 = .ok (.iload_n 1, 1) := by decide +kernel
theorem dX4_turned_8 : decode cX4_turned 8 = .ok (.iload_n 2, 1) := by decide +kernel
theorem dX4_turned_9 : decode cX4_turned 9 = .ok (.iload_n 3, 1) := by decide +kernel
theorem dX4_turned_10 : decode cX4_turned 10 = .ok (.invokevirtual 88, 3) := by decide +kernel
theorem dX4_turned_13 : decode cX4_turned 13 = .ok (.aload_n 0, 1) := by decide +kernel
theorem dX4_turned_14 : decode cX4_turned 14 = .ok (.getfield 32, 3) := by decide +kernel
theorem dX4_turned_17 : decode cX4_turned 17 = .ok (.iconst (-1), 1) := by decide +kernel
theorem dX4_turned_18 : decode cX4_turned 18 = .ok (.invokestatic 101, 3) := by decide +kernel
theorem dX4_turned_21 : decode cX4_turned 21 = .ok (.iconst 0, 1) := by decide +kernel
theorem dX4_turned_22 : decode cX4_turned 22 = .ok (.istore 6, 2) := by decide +kernel
theorem dX4_turned_24 : decode cX4_turned 24 = .ok (.iload 6, 2) := by decide +kernel
theorem dX4_turned_26 : decode cX4_turned 26 = .ok (.aload_n 0, 1) := by decide +kernel
theorem dX4_turned_27 : decode cX4_turned 27 = .ok (.getfield 25, 3) := by decide +kernel
theorem dX4_turned_30 : decode cX4_turned 30 = .ok (.iload_n 1, 1) := by decide +kernel
theorem dX4_turned_31 : decode cX4_turned 31 = .ok (.iaload, 1) := by decide +kernel
theorem dX4_turned_32 : decode cX4_turned 32 = .ok (.if_icmp .ge 26, 3) := by decide +kernel
theorem dX4_turned_35 : decode cX4_turned 35 = .ok (.aload_n 0, 1) := by decide +kernel
theorem dX4_turned_36 : decode cX4_turned 36 = .ok (.getfield 32, 3) := by decide +kernel
theorem dX4_turned_39 : decode cX4_turned 39 = .ok (.aload_n 0, 1) := by decide +kernel
theorem dX4_turned_40 : decode cX4_turned 40 = .ok (.getfield 22, 3) := by decide +kernel
theorem dX4_turned_43 : decode cX4_turned 43 = .ok (.iload 5, 2) := by decide +kernel
theorem dX4_turned_45 : decode cX4_turned 45 = .ok (.iload 6, 2) := by decide +kernel
theorem dX4_turned_47 : decode cX4_turned 47 = .ok (.iadd, 1) := by decide +kernel
theorem dX4_turned_48 : decode cX4_turned 48 = .ok (.iaload, 1) := by decide +kernel
theorem dX4_turned_49 : decode cX4_turned 49 = .ok (.iload 6, 2) := by decide +kernel
theorem dX4_turned_51 : decode cX4_turned 51 = .ok (.iastore, 1) := by decide +kernel
theorem dX4_turned_52 : decode cX4_turned 52 = .ok (.iinc 6 1, 3) := by decide +kernel
theorem dX4_turned_55 : decode cX4_turned 55 = .ok (.goto (-31), 3) := by decide +kernel
theorem dX4_turned_58 : decode cX4_turned 58 = .ok (.aload_n 0, 1) := by decide +kernel
theorem dX4_turned_59 : decode cX4_turned 59 = .ok (.iload_n 1, 1) := by decide +kernel
theorem dX4_turned_60 : decode cX4_turned 60 = .ok (.iload_n 2, 1) := by decide +kernel
theorem dX4_turned_61 : decode cX4_turned 61 = .ok (.iload 4, 2) := by decide +kernel
theorem dX4_turned_63 : decode cX4_turned 63 = .ok (.invokevirtual 88, 3) := by decide +kernel
theorem dX4_turned_66 : decode cX4_turned 66 = .ok (.iconst 0, 1) := by decide +kernel
theorem dX4_turned_67 : decode cX4_turned 67 = .ok (.istore 6, 2) := by decide +kernel
theorem dX4_turned_69 : decode cX4_turned 69 = .ok (.iconst 0, 1) := by decide +kernel
theorem dX4_turned_70 : decode cX4_turned 70 = .ok (.istore 7, 2) := by decide +kernel
theorem dX4_turned_72 : decode cX4_turned 72 = .ok (.iload 7, 2) := by decide +kernel
theorem dX4_turned_74 : decode cX4_turned 74 = .ok (.aload_n 0, 1) := by decide +kernel
theorem dX4_turned_75 : decode cX4_turned 75 = .ok (.getfield 25, 3) := by decide +kernel
theorem dX4_turned_78 : decode cX4_turned 78 = .ok (.iload_n 1, 1) := by decide +kernel
theorem dX4_turned_79 : decode cX4_turned 79 = .ok (.iaload, 1) := by decide +kernel
theorem dX4_turned_80 : decode cX4_turned 80 = .ok (.if_icmp .ge 71, 3) := by decide +kernel
theorem dX4_turned_83 : decode cX4_turned 83 = .ok (.aload_n 0, 1) := by decide +kernel
theorem dX4_turned_84 : decode cX4_turned 84 = .ok (.getfield 32, 3) := by decide +kernel
theorem dX4_turned_87 : decode cX4_turned 87 = .ok (.aload_n 0, 1) := by decide +kernel
theorem dX4_turned_88 : decode cX4_turned 88 = .ok (.getfield 22, 3) := by decide +kernel
theorem dX4_turned_91 : decode cX4_turned 91 = .ok (.iload 5, 2) := by decide +kernel
theorem dX4_turned_93 : decode cX4_turned 93 = .ok (.iload 7, 2) := by decide +kernel
theorem dX4_turned_95 : decode cX4_turned 95 = .ok (.iadd, 1) := by decide +kernel
theorem dX4_turned_96 : decode cX4_turned 96 = .ok (.iaload, 1) := by decide +kernel
theorem dX4_turned_97 : decode cX4_turned 97 = .ok (.iaload, 1) := by decide +kernel
theorem dX4_turned_98 : decode cX4_turned 98 = .ok (.istore 8, 2) := by decide +kernel
theorem dX4_turned_100 : decode cX4_turned 100 = .ok (.iconst 0, 1) := by decide +kernel
theorem dX4_turned_101 : decode cX4_turned 101 = .ok (.istore 9, 2) := by decide +kernel
theorem dX4_turned_103 : decode cX4_turned 103 = .ok (.iload 9, 2) := by decide +kernel
theorem dX4_turned_105 : decode cX4_turned 105 = .ok (.iload 7, 2) := by decide +kernel
theorem dX4_turned_107 : decode cX4_turned 107 = .ok (.if_icmp .ge 38, 3) := by decide +kernel
theorem dX4_turned_110 : decode cX4_turned 110 = .ok (.iload 8, 2) := by decide +kernel
theorem dX4_turned_112 : decode cX4_turned 112 = .ok (.iconst (-1), 1) := by decide +kernel
theorem dX4_turned_113 : decode cX4_turned 113 = .ok (.if_icmp .eq 32, 3) := by decide +kernel
theorem dX4_turned_116 : decode cX4_turned 116 = .ok (.aload_n 0, 1) := by decide +kernel
theorem dX4_turned_117 : decode cX4_turned 117 = .ok (.getfield 32, 3) := by decide +kernel
theorem dX4_turned_120 : decode cX4_turned 120 = .ok (.aload_n 0, 1) := by decide +kernel
theorem dX4_turned_121 : decode cX4_turned 121 = .ok (.getfield 22, 3) := by decide +kernel
theorem dX4_turned_124 : decode cX4_turned 124 = .ok (.iload 5, 2) := by decide +kernel
theorem dX4_turned_126 : decode cX4_turned 126 = .ok (.iload 9, 2) := by decide +kernel
theorem dX4_turned_128 : decode cX4_turned 128 = .ok (.iadd, 1) := by decide +kernel
theorem dX4_turned_129 : decode cX4_turned 129 = .ok (.iaload, 1) := by decide +kernel
theorem dX4_turned_130 : decode cX4_turned 130 = .ok (.iaload, 1) := by decide +kernel
theorem dX4_turned_131 : decode cX4_turned 131 = .ok (.iload 8, 2) := by decide +kernel
theorem dX4_turned_133 : decode cX4_turned 133 = .ok (.if_icmp .le 6, 3) := by decide +kernel
theorem dX4_turned_136 : decode cX4_turned 136 = .ok (.iinc 6 1, 3) := by decide +kernel
theorem dX4_turned_139 : decode cX4_turned 139 = .ok (.iinc 9 1, 3) := by decide +kernel
theorem dX4_turned_142 : decode cX4_turned 142 = .ok (.goto (-39), 3) := by decide +kernel
theorem dX4_turned_145 : decode cX4_turned 145 = .ok (.iinc 7 1, 3) := by decide +kernel
theorem dX4_turned_148 : decode cX4_turned 148 = .ok (.goto (-76), 3) := by decide +kernel
theorem dX4_turned_151 : decode cX4_turned 151 = .ok (.iload 6, 2) := by decide +kernel
theorem dX4_turned_153 : decode cX4_turned 153 = .ok (.ireturn, 1) := by decide +kernel
theorem dX5_init_0 : decode cX5_init 0 = .ok (.aload_n 0, 1) := by decide +kernel
theorem dX5_init_1 : decode cX5_init 1 = .ok (.invokespecial 3, 3) := by decide +kernel
theorem dX5_init_4 : decode cX5_init 4 = .ok (.aload_n 0, 1) := by decide +kernel
theorem dX5_init_5 : decode cX5_init 5 = .ok (.sipush 400, 3) := by decide +kernel
theorem dX5_init_8 : decode cX5_init 8 = .ok (.newarray .int, 2) := by decide +kernel
theorem dX5_init_10 : decode cX5_init 10 = .ok (.putfield 11, 3) := by decide +kernel
theorem dX5_init_13 : decode cX5_init 13 = .ok (.aload_n 0, 1) := by decide +kernel
theorem dX5_init_14 : decode cX5_init 14 = .ok (.bipush 16, 2) := by decide +kernel
theorem dX5_init_16 : decode cX5_init 16 = .ok (.newarray .int, 2) := by decide +kernel
theorem dX5_init_18 : decode cX5_init 18 = .ok (.putfield 15, 3) := by decide +kernel
theorem dX5_init_21 : decode cX5_init 21 = .ok (.aload_n 0, 1) := by decide +kernel
theorem dX5_init_22 : decode cX5_init 22 = .ok (.bipush 16, 2) := by decide +kernel
theorem dX5_init_24 : decode cX5_init 24 = .ok (.newarray .int, 2) := by decide +kernel
theorem dX5_init_26 : decode cX5_init 26 = .ok (.putfield 18, 3) := by decide +kernel
theorem dX5_init_29 : decode cX5_init 29 = .ok (.aload_n 0, 1) := by decide +kernel
theorem dX5_init_30 : decode cX5_init 30 = .ok (.bipush 16, 2) := by decide +kernel
theorem dX5_init_32 : decode cX5_init 32 = .ok (.newarray .int, 2) := by decide +kernel
theorem dX5_init_34 : decode cX5_init 34 = .ok (.putfield 21, 3) := by decide +kernel
theorem dX5_init_37 : decode cX5_init 37 = .ok (.aload_n 0, 1) := by decide +kernel
theorem dX5_init_38 : decode cX5_init 38 = .ok (.sipush 400, 3) := by decide +kernel
theorem dX5_init_41 : decode cX5_init 41 = .ok (.newarray .int, 2) := by decide +kernel
theorem dX5_init_43 : decode cX5_init 43 = .ok (.putfield 24, 3) := by decide +kernel
theorem dX5_init_46 : decode cX5_init 46 = .ok (.return_, 1) := by decide +kernel
theorem dX5_hasRoom_0 : decode cX5_hasRoom 0 = .ok (.aload_n 0, 1) := by decide +kernel
theorem dX5_hasRoom_1 : decode cX5_hasRoom 1 = .ok (.getfield 27, 3) := by decide +kernel
theorem dX5_hasRoom_4 : decode cX5_hasRoom 4 = .ok (.iload_n 1, 1) := by decide +kernel
theorem dX5_hasRoom_5 : decode cX5_hasRoom 5 = .ok (.iadd, 1) := by decide +kernel
theorem dX5_hasRoom_6 : decode cX5_hasRoom 6 = .ok (.sipush 400, 3) := by decide +kernel
theorem dX5_hasRoom_9 : decode cX5_hasRoom 9 = .ok (.if_icmp .gt 7, 3) := by decide +kernel
theorem dX5_hasRoom_12 : decode cX5_hasRoom 12 = .ok (.iconst 1, 1) := by decide +kernel
theorem dX5_hasRoom_13 : decode cX5_hasRoom 13 = .ok (.goto 4, 3) := by decide +kernel
theorem dX5_hasRoom_16 : decode cX5_hasRoom 16 = .ok (.iconst 0, 1) := by decide +kernel
theorem dX5_hasRoom_17 : decode cX5_hasRoom 17 = .ok (.ireturn, 1) := by decide +kernel
theorem dX5_write_0 : decode cX5_write 0 = .ok (.bipush 24, 2) := by decide +kernel
theorem dX5_write_2 : decode cX5_write 2 = .ok (.istore_n 2, 1) := by decide +kernel
theorem dX5_write_3 : decode cX5_write 3 = .ok (.iload_n 2, 1) := by decide +kernel
theorem dX5_write_4 : decode cX5_write 4 = .ok (.ifCond .lt 45, 3) := by decide +kernel
theorem dX5_write_7 : decode cX5_write 7 = .ok (.aload_n 0, 1) := by decide +kernel
theorem dX5_write_8 : decode cX5_write 8 = .ok (.getfield 27, 3) := by decide +kernel
theorem dX5_write_11 : decode cX5_write 11 = .ok (.sipush 400, 3) := by decide +kernel
theorem dX5_write_14 : decode cX5_write 14 = .ok (.if_icmp .ge 35, 3) := by decide +kernel
theorem dX5_write_17 : decode cX5_write 17 = .ok (.aload_n 0, 1) := by decide +kernel
theorem dX5_write_18 : decode cX5_write 18 = .ok (.getfield 11, 3) := by decide +kernel
theorem dX5_write_21 : decode cX5_write 21 = .ok (.aload_n 0, 1) := by decide +kernel
theorem dX5_write_22 : decode cX5_write 22 = .ok (.getfield 27, 3) := by decide +kernel
theorem dX5_write_25 : decode cX5_write 25 = .ok (.iload_n 1, 1) := by decide +kernel
theorem dX5_write_26 : decode cX5_write 26 = .ok (.iload_n 2, 1) := by decide +kernel
theorem dX5_write_27 : decode cX5_write 27 = .ok (.ishr, 1) := by decide +kernel
theorem dX5_write_28 : decode cX5_write 28 = .ok (.sipush 255, 3) := by decide +kernel
theorem dX5_write_31 : decode cX5_write 31 = .ok (.iand, 1) := by decide +kernel
theorem dX5_write_32 : decode cX5_write 32 = .ok (.iastore, 1) := by decide +kernel
theorem dX5_write_33 : decode cX5_write 33 = .ok (.aload_n 0, 1) := by decide +kernel
theorem dX5_write_34 : decode cX5_write 34 = .ok (.dup, 1) := by decide +kernel
theorem dX5_write_35 : decode cX5_write 35 = .ok (.getfield 27, 3) := by decide +kernel
theorem dX5_write_38 : decode cX5_write 38 = .ok (.iconst 1, 1) := by decide +kernel
theorem dX5_write_39 : decode cX5_write 39 = .ok (.iadd, 1) := by decide +kernel
theorem dX5_write_40 : decode cX5_write 40 = .ok (.putfield 27, 3) := by decide +kernel
theorem dX5_write_43 : decode cX5_write 43 = .ok (.iinc 2 (-8), 3) := by decide +kernel
theorem dX5_write_46 : decode cX5_write 46 = .ok (.goto (-43), 3) := by decide +kernel
theorem dX5_write_49 : decode cX5_write 49 = .ok (.return_, 1) := by decide +kernel
theorem dX5_read_0 : decode cX5_read 0 = .ok (.aload_n 0, 1) := by decide +kernel
theorem dX5_read_1 : decode cX5_read 1 = .ok (.iconst 0, 1) := by decide +kernel
theorem dX5_read_2 : decode cX5_read 2 = .ok (.putfield 31, 3) := by decide +kernel
theorem dX5_read_5 : decode cX5_read 5 = .ok (.aload_n 0, 1) := by decide +kernel
theorem dX5_read_6 : decode cX5_read 6 = .ok (.iconst 0, 1) := by decide +kernel
theorem dX5_read_7 : decode cX5_read 7 = .ok (.putfield 34, 3) := by decide +kernel
theorem dX5_read_10 : decode cX5_read 10 = .ok (.aload_n 0, 1) := by decide +kernel
theorem dX5_read_11 : decode cX5_read 11 = .ok (.iconst 0, 1) := by decide +kernel
theorem dX5_read_12 : decode cX5_read 12 = .ok (.putfield 37, 3) := by decide +kernel
theorem dX5_read_15 : decode cX5_read 15 = .ok (.aload_n 0, 1) := by decide +kernel
theorem dX5_read_16 : decode cX5_read 16 = .ok (.iconst 0, 1) := by decide +kernel
theorem dX5_read_17 : decode cX5_read 17 = .ok (.putfield 40, 3) := by decide +kernel
theorem dX5_read_20 : decode cX5_read 20 = .ok (.aload_n 0, 1) := by decide +kernel
theorem dX5_read_21 : decode cX5_read 21 = .ok (.invokevirtual 43, 3) := by decide +kernel
theorem dX5_read_24 : decode cX5_read 24 = .ok (.aload_n 0, 1) := by decide +kernel
theorem dX5_read_25 : decode cX5_read 25 = .ok (.getfield 31, 3) := by decide +kernel
theorem dX5_read_28 : decode cX5_read 28 = .ok (.bipush 16, 2) := by decide +kernel
theorem dX5_read_30 : decode cX5_read 30 = .ok (.if_icmp .ge 43, 3) := by decide +kernel
theorem dX5_read_33 : decode cX5_read 33 = .ok (.aload_n 0, 1) := by decide +kernel
theorem dX5_read_34 : decode cX5_read 34 = .ok (.invokevirtual 46, 3) := by decide +kernel
theorem dX5_read_37 : decode cX5_read 37 = .ok (.ifCond .eq 36, 3) := by decide +kernel
theorem dX5_read_40 : decode cX5_read 40 = .ok (.aload_n 0, 1) := by decide +kernel
theorem dX5_read_41 : decode cX5_read 41 = .ok (.dup, 1) := by decide +kernel
theorem dX5_read_42 : decode cX5_read 42 = .ok (.getfield 31, 3) := by decide +kernel
theorem dX5_read_45 : decode cX5_read 45 = .ok (.iconst 1, 1) := by decide +kernel
theorem dX5_read_46 : decode cX5_read 46 = .ok (.iadd, 1) := by decide +kernel
theorem dX5_read_47 : decode cX5_read 47 = .ok (.putfield 31, 3) := by decide +kernel
theorem dX5_read_50 : decode cX5_read 50 = .ok (.aload_n 0, 1) := by decide +kernel
theorem dX5_read_51 : decode cX5_read 51 = .ok (.getfield 50, 3) := by decide +kernel
theorem dX5_read_54 : decode cX5_read 54 = .ok (.ifCond .ne 5, 3) := by decide +kernel
theorem dX5_read_57 : decode cX5_read 57 = .ok (.iconst (-1), 1) := by decide +kernel
theorem dX5_read_58 : decode cX5_read 58 = .ok (.ireturn, 1) := by decide +kernel
theorem dX5_read_59 : decode cX5_read 59 = .ok (.aload_n 0, 1) := by decide +kernel
theorem dX5_read_60 : decode cX5_read 60 = .ok (.bipush 59, 2) := by decide +kernel
theorem dX5_read_62 : decode cX5_read 62 = .ok (.invokevirtual 53, 3) := by decide +kernel
theorem dX5_read_65 : decode cX5_read 65 = .ok (.ifCond .ne (-41), 3) := by decide +kernel
theorem dX5_read_68 : decode cX5_read 68 = .ok (.aload_n 0, 1) := by decide +kernel
theorem dX5_read_69 : decode cX5_read 69 = .ok (.getfield 57, 3) := by decide +kernel
theorem dX5_read_72 : decode cX5_read 72 = .ok (.ireturn, 1) := by decide +kernel
theorem dX5_read_73 : decode cX5_read 73 = .ok (.aload_n 0, 1) := by decide +kernel
theorem dX5_read_74 : decode cX5_read 74 = .ok (.getfield 57, 3) := by decide +kernel
theorem dX5_read_77 : decode cX5_read 77 = .ok (.ireturn, 1) := by decide +kernel
theorem dX5_step_0 : decode cX5_step 0 = .ok (.aload_n 0, 1) := by decide +kernel
theorem dX5_step_1 : decode cX5_step 1 = .ok (.getfield 40, 3) := by decide +kernel
theorem dX5_step_4 : decode cX5_step 4 = .ok (.istore_n 1, 1) := by decide +kernel
theorem dX5_step_5 : decode cX5_step 5 = .ok (.iload_n 1, 1) := by decide +kernel
theorem dX5_step_6 : decode cX5_step 6 = .ok (.aload_n 0, 1) := by decide +kernel
theorem dX5_step_7 : decode cX5_step 7 = .ok (.getfield 27, 3) := by decide +kernel
theorem dX5_step_10 : decode cX5_step 10 = .ok (.if_icmp .ge 20, 3) := by decide +kernel
theorem dX5_step_13 : decode cX5_step 13 = .ok (.aload_n 0, 1) := by decide +kernel
theorem dX5_step_14 : decode cX5_step 14 = .ok (.getfield 11, 3) := by decide +kernel
theorem dX5_step_17 : decode cX5_step 17 = .ok (.iload_n 1, 1) := by decide +kernel
theorem dX5_step_18 : decode cX5_step 18 = .ok (.iaload, 1) := by decide +kernel
theorem dX5_step_19 : decode cX5_step 19 = .ok (.bipush 32, 2) := by decide +kernel
theorem dX5_step_21 : decode cX5_step 21 = .ok (.if_icmp .ne 9, 3) := by decide +kernel
theorem dX5_step_24 : decode cX5_step 24 = .ok (.iinc 1 1, 3) := by decide +kernel
theorem dX5_step_27 : decode cX5_step 27 = .ok (.goto (-22), 3) := by decide +kernel
theorem dX5_step_30 : decode cX5_step 30 = .ok (.aload_n 0, 1) := by decide +kernel
theorem dX5_step_31 : decode cX5_step 31 = .ok (.iload_n 1, 1) := by decide +kernel
theorem dX5_step_32 : decode cX5_step 32 = .ok (.putfield 57, 3) := by decide +kernel
theorem dX5_step_35 : decode cX5_step 35 = .ok (.aload_n 0, 1) := by decide +kernel
theorem dX5_step_36 : decode cX5_step 36 = .ok (.iconst 0, 1) := by decide +kernel
theorem dX5_step_37 : decode cX5_step 37 = .ok (.putfield 60, 3) := by decide +kernel
theorem dX5_step_40 : decode cX5_step 40 = .ok (.iload_n 1, 1) := by decide +kernel
theorem dX5_step_41 : decode cX5_step 41 = .ok (.aload_n 0, 1) := by decide +kernel
theorem dX5_step_42 : decode cX5_step 42 = .ok (.getfield 27, 3) := by decide +kernel
theorem dX5_step_45 : decode cX5_step 45 = .ok (.if_icmp .lt 11, 3) := by decide +kernel
theorem dX5_step_48 : decode cX5_step 48 = .ok (.aload_n 0, 1) := by decide +kernel
theorem dX5_step_49 : decode cX5_step 49 = .ok (.iconst 0, 1) := by decide +kernel
theorem dX5_step_50 : decode cX5_step 50 = .ok (.putfield 50, 3) := by decide +kernel
theorem dX5_step_53 : decode cX5_step 53 = .ok (.goto 123, 3) := by decide +kernel
theorem dX5_step_56 : decode cX5_step 56 = .ok (.aload_n 0, 1) := by decide +kernel
theorem dX5_step_57 : decode cX5_step 57 = .ok (.getfield 11, 3) := by decide +kernel
theorem dX5_step_60 : decode cX5_step 60 = .ok (.iload_n 1, 1) := by decide +kernel
theorem dX5_step_61 : decode cX5_step 61 = .ok (.iaload, 1) := by decide +kernel
theorem dX5_step_62 : decode cX5_step 62 = .ok (.invokestatic 63, 3) := by decide +kernel
theorem dX5_step_65 : decode cX5_step 65 = .ok (.ifCond .eq 34, 3) := by decide +kernel
theorem dX5_step_68 : decode cX5_step 68 = .ok (.aload_n 0, 1) := by decide +kernel
theorem dX5_step_69 : decode cX5_step 69 = .ok (.iconst 1, 1) := by decide +kernel
theorem dX5_step_70 : decode cX5_step 70 = .ok (.putfield 50, 3) := by decide +kernel
theorem dX5_step_73 : decode cX5_step 73 = .ok (.iload_n 1, 1) := by decide +kernel
theorem dX5_step_74 : decode cX5_step 74 = .ok (.aload_n 0, 1) := by decide +kernel
theorem dX5_step_75 : decode cX5_step 75 = .ok (.getfield 27, 3) := by decide +kernel
theorem dX5_step_78 : decode cX5_step 78 = .ok (.if_icmp .ge 98, 3) := by decide +kernel
theorem dX5_step_81 : decode cX5_step 81 = .ok (.aload_n 0, 1) := by decide +kernel
theorem dX5_step_82 : decode cX5_step 82 = .ok (.getfield 11, 3) := by decide +kernel
theorem dX5_step_85 : decode cX5_step 85 = .ok (.iload_n 1, 1) := by decide +kernel
theorem dX5_step_86 : decode cX5_step 86 = .ok (.iaload, 1) := by decide +kernel
theorem dX5_step_87 : decode cX5_step 87 = .ok (.invokestatic 63, 3) := by decide +kernel
theorem dX5_step_90 : decode cX5_step 90 = .ok (.ifCond .eq 86, 3) := by decide +kernel
theorem dX5_step_93 : decode cX5_step 93 = .ok (.iinc 1 1, 3) := by decide +kernel
theorem dX5_step_96 : decode cX5_step 96 = .ok (.goto (-23), 3) := by decide +kernel
theorem dX5_step_99 : decode cX5_step 99 = .ok (.aload_n 0, 1) := by decide +kernel
theorem dX5_step_100 : decode cX5_step 100 = .ok (.getfield 11, 3) := by decide +kernel
theorem dX5_step_103 : decode cX5_step 103 = .ok (.iload_n 1, 1) := by decide +kernel
theorem dX5_step_104 : decode cX5_step 104 = .ok (.iaload, 1) := by decide +kernel
theorem dX5_step_105 : decode cX5_step 105 = .ok (.invokestatic 67, 3) := by decide +kernel
theorem dX5_step_108 : decode cX5_step 108 = .ok (.ifCond .eq 60, 3) := by decide +kernel
theorem dX5_step_111 : decode cX5_step 111 = .ok (.aload_n 0, 1) := by decide +kernel
theorem dX5_step_112 : decode cX5_step 112 = .ok (.iconst 2, 1) := by decide +kernel
theorem dX5_step_113 : decode cX5_step 113 = .ok (.putfield 50, 3) := by decide +kernel
theorem dX5_step_116 : decode cX5_step 116 = .ok (.iload_n 1, 1) := by decide +kernel
theorem dX5_step_117 : decode cX5_step 117 = .ok (.aload_n 0, 1) := by decide +kernel
theorem dX5_step_118 : decode cX5_step 118 = .ok (.getfield 27, 3) := by decide +kernel
theorem dX5_step_121 : decode cX5_step 121 = .ok (.if_icmp .ge 55, 3) := by decide +kernel
theorem dX5_step_124 : decode cX5_step 124 = .ok (.aload_n 0, 1) := by decide +kernel
theorem dX5_step_125 : decode cX5_step 125 = .ok (.getfield 11, 3) := by decide +kernel
theorem dX5_step_128 : decode cX5_step 128 = .ok (.iload_n 1, 1) := by decide +kernel
theorem dX5_step_129 : decode cX5_step 129 = .ok (.iaload, 1) := by decide +kernel
theorem dX5_step_130 : decode cX5_step 130 = .ok (.invokestatic 67, 3) := by decide +kernel
theorem dX5_step_133 : decode cX5_step 133 = .ok (.ifCond .eq 43, 3) := by decide +kernel
theorem dX5_step_136 : decode cX5_step 136 = .ok (.aload_n 0, 1) := by decide +kernel
theorem dX5_step_137 : decode cX5_step 137 = .ok (.ldc 70, 2) := by decide +kernel
theorem dX5_step_139 : decode cX5_step 139 = .ok (.aload_n 0, 1) := by decide +kernel
theorem dX5_step_140 : decode cX5_step 140 = .ok (.getfield 60, 3) := by decide +kernel
theorem dX5_step_143 : decode cX5_step 143 = .ok (.bipush 10, 2) := by decide +kernel
theorem dX5_step_145 : decode cX5_step 145 = .ok (.imul, 1) := by decide +kernel
theorem dX5_step_146 : decode cX5_step 146 = .ok (.aload_n 0, 1) := by decide +kernel
theorem dX5_step_147 : decode cX5_step 147 = .ok (.getfield 11, 3) := by decide +kernel
theorem dX5_step_150 : decode cX5_step 150 = .ok (.iload_n 1, 1) := by decide +kernel
theorem dX5_step_151 : decode cX5_step 151 = .ok (.iaload, 1) := by decide +kernel
theorem dX5_step_152 : decode cX5_step 152 = .ok (.iadd, 1) := by decide +kernel
theorem dX5_step_153 : decode cX5_step 153 = .ok (.bipush 48, 2) := by decide +kernel
theorem dX5_step_155 : decode cX5_step 155 = .ok (.isub, 1) := by decide +kernel
theorem dX5_step_156 : decode cX5_step 156 = .ok (.invokestatic 71, 3) := by decide +kernel
theorem dX5_step_159 : decode cX5_step 159 = .ok (.putfield 60, 3) := by decide +kernel
theorem dX5_step_162 : decode cX5_step 162 = .ok (.iinc 1 1, 3) := by decide +kernel
theorem dX5_step_165 : decode cX5_step 165 = .ok (.goto (-49), 3) := by decide +kernel
theorem dX5_step_168 : decode cX5_step 168 = .ok (.aload_n 0, 1) := by decide +kernel
theorem dX5_step_169 : decode cX5_step 169 = .ok (.iconst 3, 1) := by decide +kernel
theorem dX5_step_170 : decode cX5_step 170 = .ok (.putfield 50, 3) := by decide +kernel
theorem dX5_step_173 : decode cX5_step 173 = .ok (.iinc 1 1, 3) := by decide +kernel
theorem dX5_step_176 : decode cX5_step 176 = .ok (.aload_n 0, 1) := by decide +kernel
theorem dX5_step_177 : decode cX5_step 177 = .ok (.iload_n 1, 1) := by decide +kernel
theorem dX5_step_178 : decode cX5_step 178 = .ok (.putfield 40, 3) := by decide +kernel
theorem dX5_step_181 : decode cX5_step 181 = .ok (.return_, 1) := by decide +kernel
theorem dX5_isLetter_0 : decode cX5_isLetter 0 = .ok (.iload_n 0, 1) := by decide +kernel
theorem dX5_isLetter_1 : decode cX5_isLetter 1 = .ok (.bipush 97, 2) := by decide +kernel
theorem dX5_isLetter_3 : decode cX5_isLetter 3 = .ok (.if_icmp .lt 13, 3) := by decide +kernel
theorem dX5_isLetter_6 : decode cX5_isLetter 6 = .ok (.iload_n 0, 1) := by decide +kernel
theorem dX5_isLetter_7 : decode cX5_isLetter 7 = .ok (.bipush 122, 2) := by decide +kernel
theorem dX5_isLetter_9 : decode cX5_isLetter 9 = .ok (.if_icmp .gt 7, 3) := by decide +kernel
theorem dX5_isLetter_12 : decode cX5_isLetter 12 = .ok (.iconst 1, 1) := by decide +kernel
theorem dX5_isLetter_13 : decode cX5_isLetter 13 = .ok (.goto 4, 3) := by decide +kernel
theorem dX5_isLetter_16 : decode cX5_isLetter 16 = .ok (.iconst 0, 1) := by decide +kernel
theorem dX5_isLetter_17 : decode cX5_isLetter 17 = .ok (.ireturn, 1) := by decide +kernel
theorem dX5_isDigit_0 : decode cX5_isDigit 0 = .ok (.iload_n 0, 1) := by decide +kernel
theorem dX5_isDigit_1 : decode cX5_isDigit 1 = .ok (.bipush 48, 2) := by decide +kernel
theorem dX5_isDigit_3 : decode cX5_isDigit 3 = .ok (.if_icmp .lt 13, 3) := by decide +kernel
theorem dX5_isDigit_6 : decode cX5_isDigit 6 = .ok (.iload_n 0, 1) := by decide +kernel
theorem dX5_isDigit_7 : decode cX5_isDigit 7 = .ok (.bipush 57, 2) := by decide +kernel
theorem dX5_isDigit_9 : decode cX5_isDigit 9 = .ok (.if_icmp .gt 7, 3) := by decide +kernel
theorem dX5_isDigit_12 : decode cX5_isDigit 12 = .ok (.iconst 1, 1) := by decide +kernel
theorem dX5_isDigit_13 : decode cX5_isDigit 13 = .ok (.goto 4, 3) := by decide +kernel
theorem dX5_isDigit_16 : decode cX5_isDigit 16 = .ok (.iconst 0, 1) := by decide +kernel
theorem dX5_isDigit_17 : decode cX5_isDigit 17 = .ok (.ireturn, 1) := by decide +kernel
theorem dX5_isSign_0 : decode cX5_isSign 0 = .ok (.aload_n 0, 1) := by decide +kernel
theorem dX5_isSign_1 : decode cX5_isSign 1 = .ok (.getfield 50, 3) := by decide +kernel
theorem dX5_isSign_4 : decode cX5_isSign 4 = .ok (.iconst 3, 1) := by decide +kernel
theorem dX5_isSign_5 : decode cX5_isSign 5 = .ok (.if_icmp .ne 20, 3) := by decide +kernel
theorem dX5_isSign_8 : decode cX5_isSign 8 = .ok (.aload_n 0, 1) := by decide +kernel
theorem dX5_isSign_9 : decode cX5_isSign 9 = .ok (.getfield 11, 3) := by decide +kernel
theorem dX5_isSign_12 : decode cX5_isSign 12 = .ok (.aload_n 0, 1) := by decide +kernel
theorem dX5_isSign_13 : decode cX5_isSign 13 = .ok (.getfield 57, 3) := by decide +kernel
theorem dX5_isSign_16 : decode cX5_isSign 16 = .ok (.iaload, 1) := by decide +kernel
theorem dX5_isSign_17 : decode cX5_isSign 17 = .ok (.iload_n 1, 1) := by decide +kernel
theorem dX5_isSign_18 : decode cX5_isSign 18 = .ok (.if_icmp .ne 7, 3) := by decide +kernel
theorem dX5_isSign_21 : decode cX5_isSign 21 = .ok (.iconst 1, 1) := by decide +kernel
theorem dX5_isSign_22 : decode cX5_isSign 22 = .ok (.goto 4, 3) := by decide +kernel
theorem dX5_isSign_25 : decode cX5_isSign 25 = .ok (.iconst 0, 1) := by decide +kernel
theorem dX5_isSign_26 : decode cX5_isSign 26 = .ok (.ireturn, 1) := by decide +kernel
theorem dX5_takeSign_0 : decode cX5_takeSign 0 = .ok (.aload_n 0, 1) := by decide +kernel
theorem dX5_takeSign_1 : decode cX5_takeSign 1 = .ok (.iload_n 1, 1) := by decide +kernel
theorem dX5_takeSign_2 : decode cX5_takeSign 2 = .ok (.invokevirtual 77, 3) := by decide +kernel
theorem dX5_takeSign_5 : decode cX5_takeSign 5 = .ok (.ifCond .ne 5, 3) := by decide +kernel
theorem dX5_takeSign_8 : decode cX5_takeSign 8 = .ok (.iconst 0, 1) := by decide +kernel
theorem dX5_takeSign_9 : decode cX5_takeSign 9 = .ok (.ireturn, 1) := by decide +kernel
theorem dX5_takeSign_10 : decode cX5_takeSign 10 = .ok (.aload_n 0, 1) := by decide +kernel
theorem dX5_takeSign_11 : decode cX5_takeSign 11 = .ok (.invokevirtual 43, 3) := by decide +kernel
theorem dX5_takeSign_14 : decode cX5_takeSign 14 = .ok (.iconst 1, 1) := by decide +kernel
theorem dX5_takeSign_15 : decode cX5_takeSign 15 = .ok (.ireturn, 1) := by decide +kernel
theorem dX5_isWord_0 : decode cX5_isWord 0 = .ok (.aload_n 0, 1) := by decide +kernel
theorem dX5_isWord_1 : decode cX5_isWord 1 = .ok (.aload_n 1, 1) := by decide +kernel
theorem dX5_isWord_2 : decode cX5_isWord 2 = .ok (.invokevirtual 80, 3) := by decide +kernel
theorem dX5_isWord_5 : decode cX5_isWord 5 = .ok (.ifCond .ne 7, 3) := by decide +kernel
theorem dX5_isWord_8 : decode cX5_isWord 8 = .ok (.iconst 1, 1) := by decide +kernel
theorem dX5_isWord_9 : decode cX5_isWord 9 = .ok (.goto 4, 3) := by decide +kernel
theorem dX5_isWord_12 : decode cX5_isWord 12 = .ok (.iconst 0, 1) := by decide +kernel
theorem dX5_isWord_13 : decode cX5_isWord 13 = .ok (.ireturn, 1) := by decide +kernel
theorem dX5_wordIn_0 : decode cX5_wordIn 0 = .ok (.iconst 0, 1) := by decide +kernel
theorem dX5_wordIn_1 : decode cX5_wordIn 1 = .ok (.istore_n 2, 1) := by decide +kernel
theorem dX5_wordIn_2 : decode cX5_wordIn 2 = .ok (.iconst 0, 1) := by decide +kernel
theorem dX5_wordIn_3 : decode cX5_wordIn 3 = .ok (.istore_n 3, 1) := by decide +kernel
theorem dX5_wordIn_4 : decode cX5_wordIn 4 = .ok (.iconst 0, 1) := by decide +kernel
theorem dX5_wordIn_5 : decode cX5_wordIn 5 = .ok (.istore 4, 2) := by decide +kernel
theorem dX5_wordIn_7 : decode cX5_wordIn 7 = .ok (.iload 4, 2) := by decide +kernel
theorem dX5_wordIn_9 : decode cX5_wordIn 9 = .ok (.aload_n 1, 1) := by decide +kernel
theorem dX5_wordIn_10 : decode cX5_wordIn 10 = .ok (.invokevirtual 84, 3) := by decide +kernel
theorem dX5_wordIn_13 : decode cX5_wordIn 13 = .ok (.if_icmp .gt 50, 3) := by decide +kernel
theorem dX5_wordIn_16 : decode cX5_wordIn 16 = .ok (.iload 4, 2) := by decide +kernel
theorem dX5_wordIn_18 : decode cX5_wordIn 18 = .ok (.aload_n 1, 1) := by decide +kernel
theorem dX5_wordIn_19 : decode cX5_wordIn 19 = .ok (.invokevirtual 84, 3) := by decide +kernel
theorem dX5_wordIn_22 : decode cX5_wordIn 22 = .ok (.if_icmp .eq 14, 3) := by decide +kernel
theorem dX5_wordIn_25 : decode cX5_wordIn 25 = .ok (.aload_n 1, 1) := by decide +kernel
theorem dX5_wordIn_26 : decode cX5_wordIn 26 = .ok (.iload 4, 2) := by decide +kernel
theorem dX5_wordIn_28 : decode cX5_wordIn 28 = .ok (.invokevirtual 89, 3) := by decide +kernel
theorem dX5_wordIn_31 : decode cX5_wordIn 31 = .ok (.bipush 32, 2) := by decide +kernel
theorem dX5_wordIn_33 : decode cX5_wordIn 33 = .ok (.if_icmp .ne 24, 3) := by decide +kernel
theorem dX5_wordIn_36 : decode cX5_wordIn 36 = .ok (.aload_n 0, 1) := by decide +kernel
theorem dX5_wordIn_37 : decode cX5_wordIn 37 = .ok (.aload_n 1, 1) := by decide +kernel
theorem dX5_wordIn_38 : decode cX5_wordIn 38 = .ok (.iload_n 3, 1) := by decide +kernel
theorem dX5_wordIn_39 : decode cX5_wordIn 39 = .ok (.iload 4, 2) := by decide +kernel
theorem dX5_wordIn_41 : decode cX5_wordIn 41 = .ok (.invokevirtual 93, 3) := by decide +kernel
theorem dX5_wordIn_44 : decode cX5_wordIn 44 = .ok (.ifCond .eq 5, 3) := by decide +kernel
theorem dX5_wordIn_47 : decode cX5_wordIn 47 = .ok (.iload_n 2, 1) := by decide +kernel
theorem dX5_wordIn_48 : decode cX5_wordIn 48 = .ok (.ireturn, 1) := by decide +kernel
theorem dX5_wordIn_49 : decode cX5_wordIn 49 = .ok (.iinc 2 1, 3) := by decide +kernel
theorem dX5_wordIn_52 : decode cX5_wordIn 52 = .ok (.iload 4, 2) := by decide +kernel
theorem dX5_wordIn_54 : decode cX5_wordIn 54 = .ok (.iconst 1, 1) := by decide +kernel
theorem dX5_wordIn_55 : decode cX5_wordIn 55 = .ok (.iadd, 1) := by decide +kernel
theorem dX5_wordIn_56 : decode cX5_wordIn 56 = .ok (.istore_n 3, 1) := by decide +kernel
theorem dX5_wordIn_57 : decode cX5_wordIn 57 = .ok (.iinc 4 1, 3) := by decide +kernel
theorem dX5_wordIn_60 : decode cX5_wordIn 60 = .ok (.goto (-53), 3) := by decide +kernel
theorem dX5_wordIn_63 : decode cX5_wordIn 63 = .ok (.iconst (-1), 1) := by decide +kernel
theorem dX5_wordIn_64 : decode cX5_wordIn 64 = .ok (.ireturn, 1) := by decide +kernel
theorem dX5_isSpelled_0 : decode cX5_isSpelled 0 = .ok (.aload_n 0, 1) := by decide +kernel
theorem dX5_isSpelled_1 : decode cX5_isSpelled 1 = .ok (.getfield 50, 3) := by decide +kernel
theorem dX5_isSpelled_4 : decode cX5_isSpelled 4 = .ok (.iconst 1, 1) := by decide +kernel
theorem dX5_isSpelled_5 : decode cX5_isSpelled 5 = .ok (.if_icmp .ne 18, 3) := by decide +kernel
theorem dX5_isSpelled_8 : decode cX5_isSpelled 8 = .ok (.aload_n 0, 1) := by decide +kernel
theorem dX5_isSpelled_9 : decode cX5_isSpelled 9 = .ok (.getfield 40, 3) := by decide +kernel
theorem dX5_isSpelled_12 : decode cX5_isSpelled 12 = .ok (.aload_n 0, 1) := by decide +kernel
theorem dX5_isSpelled_13 : decode cX5_isSpelled 13 = .ok (.getfield 57, 3) := by decide +kernel
theorem dX5_isSpelled_16 : decode cX5_isSpelled 16 = .ok (.isub, 1) := by decide +kernel
theorem dX5_isSpelled_17 : decode cX5_isSpelled 17 = .ok (.iload_n 3, 1) := by decide +kernel
theorem dX5_isSpelled_18 : decode cX5_isSpelled 18 = .ok (.iload_n 2, 1) := by decide +kernel
theorem dX5_isSpelled_19 : decode cX5_isSpelled 19 = .ok (.isub, 1) := by decide +kernel
theorem dX5_isSpelled_20 : decode cX5_isSpelled 20 = .ok (.if_icmp .eq 5, 3) := by decide +kernel
theorem dX5_isSpelled_23 : decode cX5_isSpelled 23 = .ok (.iconst 0, 1) := by decide +kernel
theorem dX5_isSpelled_24 : decode cX5_isSpelled 24 = .ok (.ireturn, 1) := by decide +kernel
theorem dX5_isSpelled_25 : decode cX5_isSpelled 25 = .ok (.iload_n 2, 1) := by decide +kernel
theorem dX5_isSpelled_26 : decode cX5_isSpelled 26 = .ok (.istore 4, 2) := by decide +kernel
theorem dX5_isSpelled_28 : decode cX5_isSpelled 28 = .ok (.iload 4, 2) := by decide +kernel
theorem dX5_isSpelled_30 : decode cX5_isSpelled 30 = .ok (.iload_n 3, 1) := by decide +kernel
theorem dX5_isSpelled_31 : decode cX5_isSpelled 31 = .ok (.if_icmp .ge 34, 3) := by decide +kernel
theorem dX5_isSpelled_34 : decode cX5_isSpelled 34 = .ok (.aload_n 0, 1) := by decide +kernel
theorem dX5_isSpelled_35 : decode cX5_isSpelled 35 = .ok (.getfield 11, 3) := by decide +kernel
theorem dX5_isSpelled_38 : decode cX5_isSpelled 38 = .ok (.aload_n 0, 1) := by decide +kernel
theorem dX5_isSpelled_39 : decode cX5_isSpelled 39 = .ok (.getfield 57, 3) := by decide +kernel
theorem dX5_isSpelled_42 : decode cX5_isSpelled 42 = .ok (.iload 4, 2) := by decide +kernel
theorem dX5_isSpelled_44 : decode cX5_isSpelled 44 = .ok (.iadd, 1) := by decide +kernel
theorem dX5_isSpelled_45 : decode cX5_isSpelled 45 = .ok (.iload_n 2, 1) := by decide +kernel
theorem dX5_isSpelled_46 : decode cX5_isSpelled 46 = .ok (.isub, 1) := by decide +kernel
theorem dX5_isSpelled_47 : decode cX5_isSpelled 47 = .ok (.iaload, 1) := by decide +kernel
theorem dX5_isSpelled_48 : decode cX5_isSpelled 48 = .ok (.aload_n 1, 1) := by decide +kernel
theorem dX5_isSpelled_49 : decode cX5_isSpelled 49 = .ok (.iload 4, 2) := by decide +kernel
theorem dX5_isSpelled_51 : decode cX5_isSpelled 51 = .ok (.invokevirtual 89, 3) := by decide +kernel
theorem dX5_isSpelled_54 : decode cX5_isSpelled 54 = .ok (.if_icmp .eq 5, 3) := by decide +kernel
theorem dX5_isSpelled_57 : decode cX5_isSpelled 57 = .ok (.iconst 0, 1) := by decide +kernel
theorem dX5_isSpelled_58 : decode cX5_isSpelled 58 = .ok (.ireturn, 1) := by decide +kernel
theorem dX5_isSpelled_59 : decode cX5_isSpelled 59 = .ok (.iinc 4 1, 3) := by decide +kernel
theorem dX5_isSpelled_62 : decode cX5_isSpelled 62 = .ok (.goto (-34), 3) := by decide +kernel
theorem dX5_isSpelled_65 : decode cX5_isSpelled 65 = .ok (.iconst 1, 1) := by decide +kernel
theorem dX5_isSpelled_66 : decode cX5_isSpelled 66 = .ok (.ireturn, 1) := by decide +kernel
theorem dX5_takeWord_0 : decode cX5_takeWord 0 = .ok (.aload_n 0, 1) := by decide +kernel
theorem dX5_takeWord_1 : decode cX5_takeWord 1 = .ok (.aload_n 1, 1) := by decide +kernel
theorem dX5_takeWord_2 : decode cX5_takeWord 2 = .ok (.invokevirtual 80, 3) := by decide +kernel
theorem dX5_takeWord_5 : decode cX5_takeWord 5 = .ok (.istore_n 2, 1) := by decide +kernel
theorem dX5_takeWord_6 : decode cX5_takeWord 6 = .ok (.iload_n 2, 1) := by decide +kernel
theorem dX5_takeWord_7 : decode cX5_takeWord 7 = .ok (.iconst (-1), 1) := by decide +kernel
theorem dX5_takeWord_8 : decode cX5_takeWord 8 = .ok (.if_icmp .eq 7, 3) := by decide +kernel
theorem dX5_takeWord_11 : decode cX5_takeWord 11 = .ok (.aload_n 0, 1) := by decide +kernel
theorem dX5_takeWord_12 : decode cX5_takeWord 12 = .ok (.invokevirtual 43, 3) := by decide +kernel
theorem dX5_takeWord_15 : decode cX5_takeWord 15 = .ok (.iload_n 2, 1) := by decide +kernel
theorem dX5_takeWord_16 : decode cX5_takeWord 16 = .ok (.ireturn, 1) := by decide +kernel
theorem dX5_emit_0 : decode cX5_emit 0 = .ok (.aload_n 0, 1) := by decide +kernel
theorem dX5_emit_1 : decode cX5_emit 1 = .ok (.getfield 34, 3) := by decide +kernel
theorem dX5_emit_4 : decode cX5_emit 4 = .ok (.sipush 400, 3) := by decide +kernel
theorem dX5_emit_7 : decode cX5_emit 7 = .ok (.if_icmp .ge 27, 3) := by decide +kernel
theorem dX5_emit_10 : decode cX5_emit 10 = .ok (.aload_n 0, 1) := by decide +kernel
theorem dX5_emit_11 : decode cX5_emit 11 = .ok (.getfield 24, 3) := by decide +kernel
theorem dX5_emit_14 : decode cX5_emit 14 = .ok (.aload_n 0, 1) := by decide +kernel
theorem dX5_emit_15 : decode cX5_emit 15 = .ok (.getfield 34, 3) := by decide +kernel
theorem dX5_emit_18 : decode cX5_emit 18 = .ok (.iload_n 1, 1) := by decide +kernel
theorem dX5_emit_19 : decode cX5_emit 19 = .ok (.iload_n 2, 1) := by decide +kernel
theorem dX5_emit_20 : decode cX5_emit 20 = .ok (.iconst 4, 1) := by decide +kernel
theorem dX5_emit_21 : decode cX5_emit 21 = .ok (.ishl, 1) := by decide +kernel
theorem dX5_emit_22 : decode cX5_emit 22 = .ok (.ior, 1) := by decide +kernel
theorem dX5_emit_23 : decode cX5_emit 23 = .ok (.iastore, 1) := by decide +kernel
theorem dX5_emit_24 : decode cX5_emit 24 = .ok (.aload_n 0, 1) := by decide +kernel
theorem dX5_emit_25 : decode cX5_emit 25 = .ok (.dup, 1) := by decide +kernel
theorem dX5_emit_26 : decode cX5_emit 26 = .ok (.getfield 34, 3) := by decide +kernel
theorem dX5_emit_29 : decode cX5_emit 29 = .ok (.iconst 1, 1) := by decide +kernel
theorem dX5_emit_30 : decode cX5_emit 30 = .ok (.iadd, 1) := by decide +kernel
theorem dX5_emit_31 : decode cX5_emit 31 = .ok (.putfield 34, 3) := by decide +kernel
theorem dX5_emit_34 : decode cX5_emit 34 = .ok (.return_, 1) := by decide +kernel
theorem dX5_readClause_0 : decode cX5_readClause 0 = .ok (.aload_n 0, 1) := by decide +kernel
theorem dX5_readClause_1 : decode cX5_readClause 1 = .ok (.getfield 21, 3) := by decide +kernel
theorem dX5_readClause_4 : decode cX5_readClause 4 = .ok (.aload_n 0, 1) := by decide +kernel
theorem dX5_readClause_5 : decode cX5_readClause 5 = .ok (.getfield 31, 3) := by decide +kernel
theorem dX5_readClause_8 : decode cX5_readClause 8 = .ok (.aload_n 0, 1) := by decide +kernel
theorem dX5_readClause_9 : decode cX5_readClause 9 = .ok (.getfield 34, 3) := by decide +kernel
theorem dX5_readClause_12 : decode cX5_readClause 12 = .ok (.iastore, 1) := by decide +kernel
theorem dX5_readClause_13 : decode cX5_readClause 13 = .ok (.aload_n 0, 1) := by decide +kernel
theorem dX5_readClause_14 : decode cX5_readClause 14 = .ok (.getfield 18, 3) := by decide +kernel
theorem dX5_readClause_17 : decode cX5_readClause 17 = .ok (.aload_n 0, 1) := by decide +kernel
theorem dX5_readClause_18 : decode cX5_readClause 18 = .ok (.getfield 31, 3) := by decide +kernel
theorem dX5_readClause_21 : decode cX5_readClause 21 = .ok (.iconst 0, 1) := by decide +kernel
theorem dX5_readClause_22 : decode cX5_readClause 22 = .ok (.iastore, 1) := by decide +kernel
theorem dX5_readClause_23 : decode cX5_readClause 23 = .ok (.aload_n 0, 1) := by decide +kernel
theorem dX5_readClause_24 : decode cX5_readClause 24 = .ok (.ldc 97, 2) := by decide +kernel
theorem dX5_readClause_26 : decode cX5_readClause 26 = .ok (.invokevirtual 99, 3) := by decide +kernel
theorem dX5_readClause_29 : decode cX5_readClause 29 = .ok (.ifCond .eq 12, 3) := by decide +kernel
theorem dX5_readClause_32 : decode cX5_readClause 32 = .ok (.aload_n 0, 1) := by decide +kernel
theorem dX5_readClause_33 : decode cX5_readClause 33 = .ok (.invokevirtual 43, 3) := by decide +kernel
theorem dX5_readClause_36 : decode cX5_readClause 36 = .ok (.aload_n 0, 1) := by decide +kernel
theorem dX5_readClause_37 : decode cX5_readClause 37 = .ok (.invokevirtual 103, 3) := by decide +kernel
theorem dX5_readClause_40 : decode cX5_readClause 40 = .ok (.ireturn, 1) := by decide +kernel
theorem dX5_readClause_41 : decode cX5_readClause 41 = .ok (.aload_n 0, 1) := by decide +kernel
theorem dX5_readClause_42 : decode cX5_readClause 42 = .ok (.invokevirtual 106, 3) := by decide +kernel
theorem dX5_readClause_45 : decode cX5_readClause 45 = .ok (.ifCond .ne 5, 3) := by decide +kernel
theorem dX5_readClause_48 : decode cX5_readClause 48 = .ok (.iconst 0, 1) := by decide +kernel
theorem dX5_readClause_49 : decode cX5_readClause 49 = .ok (.ireturn, 1) := by decide +kernel
theorem dX5_readClause_50 : decode cX5_readClause 50 = .ok (.aload_n 0, 1) := by decide +kernel
theorem dX5_readClause_51 : decode cX5_readClause 51 = .ok (.ldc 109, 2) := by decide +kernel
theorem dX5_readClause_53 : decode cX5_readClause 53 = .ok (.invokevirtual 99, 3) := by decide +kernel
theorem dX5_readClause_56 : decode cX5_readClause 56 = .ok (.ifCond .eq 24, 3) := by decide +kernel
theorem dX5_readClause_59 : decode cX5_readClause 59 = .ok (.aload_n 0, 1) := by decide +kernel
theorem dX5_readClause_60 : decode cX5_readClause 60 = .ok (.invokevirtual 43, 3) := by decide +kernel
theorem dX5_readClause_63 : decode cX5_readClause 63 = .ok (.aload_n 0, 1) := by decide +kernel
theorem dX5_readClause_64 : decode cX5_readClause 64 = .ok (.iconst 0, 1) := by decide +kernel
theorem dX5_readClause_65 : decode cX5_readClause 65 = .ok (.invokevirtual 111, 3) := by decide +kernel
theorem dX5_readClause_68 : decode cX5_readClause 68 = .ok (.ifCond .ne 5, 3) := by decide +kernel
theorem dX5_readClause_71 : decode cX5_readClause 71 = .ok (.iconst 0, 1) := by decide +kernel
theorem dX5_readClause_72 : decode cX5_readClause 72 = .ok (.ireturn, 1) := by decide +kernel
theorem dX5_readClause_73 : decode cX5_readClause 73 = .ok (.aload_n 0, 1) := by decide +kernel
theorem dX5_readClause_74 : decode cX5_readClause 74 = .ok (.bipush 14, 2) := by decide +kernel
theorem dX5_readClause_76 : decode cX5_readClause 76 = .ok (.iconst 0, 1) := by decide +kernel
theorem dX5_readClause_77 : decode cX5_readClause 77 = .ok (.invokevirtual 114, 3) := by decide +kernel
theorem dX5_readClause_80 : decode cX5_readClause 80 = .ok (.aload_n 0, 1) := by decide +kernel
theorem dX5_readClause_81 : decode cX5_readClause 81 = .ok (.bipush 15, 2) := by decide +kernel
theorem dX5_readClause_83 : decode cX5_readClause 83 = .ok (.iconst 0, 1) := by decide +kernel
theorem dX5_readClause_84 : decode cX5_readClause 84 = .ok (.invokevirtual 114, 3) := by decide +kernel
theorem dX5_readClause_87 : decode cX5_readClause 87 = .ok (.iconst 1, 1) := by decide +kernel
theorem dX5_readClause_88 : decode cX5_readClause 88 = .ok (.ireturn, 1) := by decide +kernel
theorem dX5_readStrike_0 : decode cX5_readStrike 0 = .ok (.aload_n 0, 1) := by decide +kernel
theorem dX5_readStrike_1 : decode cX5_readStrike 1 = .ok (.getfield 50, 3) := by decide +kernel
theorem dX5_readStrike_4 : decode cX5_readStrike 4 = .ok (.iconst 2, 1) := by decide +kernel
theorem dX5_readStrike_5 : decode cX5_readStrike 5 = .ok (.if_icmp .ne 12, 3) := by decide +kernel
theorem dX5_readStrike_8 : decode cX5_readStrike 8 = .ok (.aload_n 0, 1) := by decide +kernel
theorem dX5_readStrike_9 : decode cX5_readStrike 9 = .ok (.getfield 60, 3) := by decide +kernel
theorem dX5_readStrike_12 : decode cX5_readStrike 12 = .ok (.bipush 24, 2) := by decide +kernel
theorem dX5_readStrike_14 : decode cX5_readStrike 14 = .ok (.if_icmp .lt 5, 3) := by decide +kernel
theorem dX5_readStrike_17 : decode cX5_readStrike 17 = .ok (.iconst 0, 1) := by decide +kernel
theorem dX5_readStrike_18 : decode cX5_readStrike 18 = .ok (.ireturn, 1) := by decide +kernel
theorem dX5_readStrike_19 : decode cX5_readStrike 19 = .ok (.aload_n 0, 1) := by decide +kernel
theorem dX5_readStrike_20 : decode cX5_readStrike 20 = .ok (.getfield 60, 3) := by decide +kernel
theorem dX5_readStrike_23 : decode cX5_readStrike 23 = .ok (.istore_n 1, 1) := by decide +kernel
theorem dX5_readStrike_24 : decode cX5_readStrike 24 = .ok (.aload_n 0, 1) := by decide +kernel
theorem dX5_readStrike_25 : decode cX5_readStrike 25 = .ok (.invokevirtual 43, 3) := by decide +kernel
theorem dX5_readStrike_28 : decode cX5_readStrike 28 = .ok (.aload_n 0, 1) := by decide +kernel
theorem dX5_readStrike_29 : decode cX5_readStrike 29 = .ok (.ldc 118, 2) := by decide +kernel
theorem dX5_readStrike_31 : decode cX5_readStrike 31 = .ok (.invokevirtual 99, 3) := by decide +kernel
theorem dX5_readStrike_34 : decode cX5_readStrike 34 = .ok (.ifCond .ne 5, 3) := by decide +kernel
theorem dX5_readStrike_37 : decode cX5_readStrike 37 = .ok (.iconst 0, 1) := by decide +kernel
theorem dX5_readStrike_38 : decode cX5_readStrike 38 = .ok (.ireturn, 1) := by decide +kernel
theorem dX5_readStrike_39 : decode cX5_readStrike 39 = .ok (.aload_n 0, 1) := by decide +kernel
theorem dX5_readStrike_40 : decode cX5_readStrike 40 = .ok (.invokevirtual 43, 3) := by decide +kernel
theorem dX5_readStrike_43 : decode cX5_readStrike 43 = .ok (.aload_n 0, 1) := by decide +kernel
theorem dX5_readStrike_44 : decode cX5_readStrike 44 = .ok (.getfield 50, 3) := by decide +kernel
theorem dX5_readStrike_47 : decode cX5_readStrike 47 = .ok (.iconst 2, 1) := by decide +kernel
theorem dX5_readStrike_48 : decode cX5_readStrike 48 = .ok (.if_icmp .ne 12, 3) := by decide +kernel
theorem dX5_readStrike_51 : decode cX5_readStrike 51 = .ok (.aload_n 0, 1) := by decide +kernel
theorem dX5_readStrike_52 : decode cX5_readStrike 52 = .ok (.getfield 60, 3) := by decide +kernel
theorem dX5_readStrike_55 : decode cX5_readStrike 55 = .ok (.bipush 16, 2) := by decide +kernel
theorem dX5_readStrike_57 : decode cX5_readStrike 57 = .ok (.if_icmp .lt 5, 3) := by decide +kernel
theorem dX5_readStrike_60 : decode cX5_readStrike 60 = .ok (.iconst 0, 1) := by decide +kernel
theorem dX5_readStrike_61 : decode cX5_readStrike 61 = .ok (.ireturn, 1) := by decide +kernel
theorem dX5_readStrike_62 : decode cX5_readStrike 62 = .ok (.aload_n 0, 1) := by decide +kernel
theorem dX5_readStrike_63 : decode cX5_readStrike 63 = .ok (.getfield 15, 3) := by decide +kernel
theorem dX5_readStrike_66 : decode cX5_readStrike 66 = .ok (.aload_n 0, 1) := by decide +kernel
theorem dX5_readStrike_67 : decode cX5_readStrike 67 = .ok (.getfield 31, 3) := by decide +kernel
theorem dX5_readStrike_70 : decode cX5_readStrike 70 = .ok (.bipush 62, 2) := by decide +kernel
theorem dX5_readStrike_72 : decode cX5_readStrike 72 = .ok (.iastore, 1) := by decide +kernel
theorem dX5_readStrike_73 : decode cX5_readStrike 73 = .ok (.aload_n 0, 1) := by decide +kernel
theorem dX5_readStrike_74 : decode cX5_readStrike 74 = .ok (.getfield 18, 3) := by decide +kernel
theorem dX5_readStrike_77 : decode cX5_readStrike 77 = .ok (.aload_n 0, 1) := by decide +kernel
theorem dX5_readStrike_78 : decode cX5_readStrike 78 = .ok (.getfield 31, 3) := by decide +kernel
theorem dX5_readStrike_81 : decode cX5_readStrike 81 = .ok (.iload_n 1, 1) := by decide +kernel
theorem dX5_readStrike_82 : decode cX5_readStrike 82 = .ok (.bipush 16, 2) := by decide +kernel
theorem dX5_readStrike_84 : decode cX5_readStrike 84 = .ok (.imul, 1) := by decide +kernel
theorem dX5_readStrike_85 : decode cX5_readStrike 85 = .ok (.aload_n 0, 1) := by decide +kernel
theorem dX5_readStrike_86 : decode cX5_readStrike 86 = .ok (.getfield 60, 3) := by decide +kernel
theorem dX5_readStrike_89 : decode cX5_readStrike 89 = .ok (.iadd, 1) := by decide +kernel
theorem dX5_readStrike_90 : decode cX5_readStrike 90 = .ok (.iastore, 1) := by decide +kernel
theorem dX5_readStrike_91 : decode cX5_readStrike 91 = .ok (.aload_n 0, 1) := by decide +kernel
theorem dX5_readStrike_92 : decode cX5_readStrike 92 = .ok (.invokevirtual 43, 3) := by decide +kernel
theorem dX5_readStrike_95 : decode cX5_readStrike 95 = .ok (.iconst 1, 1) := by decide +kernel
theorem dX5_readStrike_96 : decode cX5_readStrike 96 = .ok (.ireturn, 1) := by decide +kernel
theorem dX5_readHead_0 : decode cX5_readHead 0 = .ok (.aload_n 0, 1) := by decide +kernel
theorem dX5_readHead_1 : decode cX5_readHead 1 = .ok (.ldc 120, 2) := by decide +kernel
theorem dX5_readHead_3 : decode cX5_readHead 3 = .ok (.invokevirtual 122, 3) := by decide +kernel
theorem dX5_readHead_6 : decode cX5_readHead 6 = .ok (.istore_n 1, 1) := by decide +kernel
theorem dX5_readHead_7 : decode cX5_readHead 7 = .ok (.iload_n 1, 1) := by decide +kernel
theorem dX5_readHead_8 : decode cX5_readHead 8 = .ok (.ifCond .eq 8, 3) := by decide +kernel
theorem dX5_readHead_11 : decode cX5_readHead 11 = .ok (.iload_n 1, 1) := by decide +kernel
theorem dX5_readHead_12 : decode cX5_readHead 12 = .ok (.iconst 1, 1) := by decide +kernel
theorem dX5_readHead_13 : decode cX5_readHead 13 = .ok (.if_icmp .ne 7, 3) := by decide +kernel
theorem dX5_readHead_16 : decode cX5_readHead 16 = .ok (.iconst 1, 1) := by decide +kernel
theorem dX5_readHead_17 : decode cX5_readHead 17 = .ok (.goto 4, 3) := by decide +kernel
theorem dX5_readHead_20 : decode cX5_readHead 20 = .ok (.iconst 0, 1) := by decide +kernel
theorem dX5_readHead_21 : decode cX5_readHead 21 = .ok (.istore_n 2, 1) := by decide +kernel
theorem dX5_readHead_22 : decode cX5_readHead 22 = .ok (.iload_n 2, 1) := by decide +kernel
theorem dX5_readHead_23 : decode cX5_readHead 23 = .ok (.ifCond .ne 14, 3) := by decide +kernel
theorem dX5_readHead_26 : decode cX5_readHead 26 = .ok (.iload_n 1, 1) := by decide +kernel
theorem dX5_readHead_27 : decode cX5_readHead 27 = .ok (.iconst 3, 1) := by decide +kernel
theorem dX5_readHead_28 : decode cX5_readHead 28 = .ok (.if_icmp .eq 9, 3) := by decide +kernel
theorem dX5_readHead_31 : decode cX5_readHead 31 = .ok (.iload_n 1, 1) := by decide +kernel
theorem dX5_readHead_32 : decode cX5_readHead 32 = .ok (.bipush 7, 2) := by decide +kernel
theorem dX5_readHead_34 : decode cX5_readHead 34 = .ok (.if_icmp .ne 7, 3) := by decide +kernel
theorem dX5_readHead_37 : decode cX5_readHead 37 = .ok (.iconst 1, 1) := by decide +kernel
theorem dX5_readHead_38 : decode cX5_readHead 38 = .ok (.goto 4, 3) := by decide +kernel
theorem dX5_readHead_41 : decode cX5_readHead 41 = .ok (.iconst 0, 1) := by decide +kernel
theorem dX5_readHead_42 : decode cX5_readHead 42 = .ok (.istore_n 3, 1) := by decide +kernel
theorem dX5_readHead_43 : decode cX5_readHead 43 = .ok (.iload_n 3, 1) := by decide +kernel
theorem dX5_readHead_44 : decode cX5_readHead 44 = .ok (.ifCond .eq 12, 3) := by decide +kernel
theorem dX5_readHead_47 : decode cX5_readHead 47 = .ok (.aload_n 0, 1) := by decide +kernel
theorem dX5_readHead_48 : decode cX5_readHead 48 = .ok (.ldc 125, 2) := by decide +kernel
theorem dX5_readHead_50 : decode cX5_readHead 50 = .ok (.invokevirtual 122, 3) := by decide +kernel
theorem dX5_readHead_53 : decode cX5_readHead 53 = .ok (.goto 4, 3) := by decide +kernel
theorem dX5_readHead_56 : decode cX5_readHead 56 = .ok (.iconst 0, 1) := by decide +kernel
theorem dX5_readHead_57 : decode cX5_readHead 57 = .ok (.istore 4, 2) := by decide +kernel
theorem dX5_readHead_59 : decode cX5_readHead 59 = .ok (.iload_n 1, 1) := by decide +kernel
theorem dX5_readHead_60 : decode cX5_readHead 60 = .ok (.iconst (-1), 1) := by decide +kernel
theorem dX5_readHead_61 : decode cX5_readHead 61 = .ok (.if_icmp .eq 9, 3) := by decide +kernel
theorem dX5_readHead_64 : decode cX5_readHead 64 = .ok (.iload 4, 2) := by decide +kernel
theorem dX5_readHead_66 : decode cX5_readHead 66 = .ok (.iconst (-1), 1) := by decide +kernel
theorem dX5_readHead_67 : decode cX5_readHead 67 = .ok (.if_icmp .ne 5, 3) := by decide +kernel
theorem dX5_readHead_70 : decode cX5_readHead 70 = .ok (.iconst 0, 1) := by decide +kernel
theorem dX5_readHead_71 : decode cX5_readHead 71 = .ok (.ireturn, 1) := by decide +kernel
theorem dX5_readHead_72 : decode cX5_readHead 72 = .ok (.iload_n 2, 1) := by decide +kernel
theorem dX5_readHead_73 : decode cX5_readHead 73 = .ok (.ifCond .eq 12, 3) := by decide +kernel
theorem dX5_readHead_76 : decode cX5_readHead 76 = .ok (.aload_n 0, 1) := by decide +kernel
theorem dX5_readHead_77 : decode cX5_readHead 77 = .ok (.ldc 127, 2) := by decide +kernel
theorem dX5_readHead_79 : decode cX5_readHead 79 = .ok (.invokevirtual 122, 3) := by decide +kernel
theorem dX5_readHead_82 : decode cX5_readHead 82 = .ok (.goto 4, 3) := by decide +kernel
theorem dX5_readHead_85 : decode cX5_readHead 85 = .ok (.iconst 0, 1) := by decide +kernel
theorem dX5_readHead_86 : decode cX5_readHead 86 = .ok (.istore 5, 2) := by decide +kernel
theorem dX5_readHead_88 : decode cX5_readHead 88 = .ok (.iload 5, 2) := by decide +kernel
theorem dX5_readHead_90 : decode cX5_readHead 90 = .ok (.iconst (-1), 1) := by decide +kernel
theorem dX5_readHead_91 : decode cX5_readHead 91 = .ok (.if_icmp .ne 5, 3) := by decide +kernel
theorem dX5_readHead_94 : decode cX5_readHead 94 = .ok (.iconst 0, 1) := by decide +kernel
theorem dX5_readHead_95 : decode cX5_readHead 95 = .ok (.ireturn, 1) := by decide +kernel
theorem dX5_readHead_96 : decode cX5_readHead 96 = .ok (.iload_n 1, 1) := by decide +kernel
theorem dX5_readHead_97 : decode cX5_readHead 97 = .ok (.ifCond .ne 12, 3) := by decide +kernel
theorem dX5_readHead_100 : decode cX5_readHead 100 = .ok (.aload_n 0, 1) := by decide +kernel
theorem dX5_readHead_101 : decode cX5_readHead 101 = .ok (.ldc 129, 2) := by decide +kernel
theorem dX5_readHead_103 : decode cX5_readHead 103 = .ok (.invokevirtual 122, 3) := by decide +kernel
theorem dX5_readHead_106 : decode cX5_readHead 106 = .ok (.goto 4, 3) := by decide +kernel
theorem dX5_readHead_109 : decode cX5_readHead 109 = .ok (.iconst 5, 1) := by decide +kernel
theorem dX5_readHead_110 : decode cX5_readHead 110 = .ok (.istore 6, 2) := by decide +kernel
theorem dX5_readHead_112 : decode cX5_readHead 112 = .ok (.iload 6, 2) := by decide +kernel
theorem dX5_readHead_114 : decode cX5_readHead 114 = .ok (.iconst (-1), 1) := by decide +kernel
theorem dX5_readHead_115 : decode cX5_readHead 115 = .ok (.if_icmp .ne 5, 3) := by decide +kernel
theorem dX5_readHead_118 : decode cX5_readHead 118 = .ok (.iconst 0, 1) := by decide +kernel
theorem dX5_readHead_119 : decode cX5_readHead 119 = .ok (.ireturn, 1) := by decide +kernel
theorem dX5_readHead_120 : decode cX5_readHead 120 = .ok (.aload_n 0, 1) := by decide +kernel
theorem dX5_readHead_121 : decode cX5_readHead 121 = .ok (.getfield 15, 3) := by decide +kernel
theorem dX5_readHead_124 : decode cX5_readHead 124 = .ok (.aload_n 0, 1) := by decide +kernel
theorem dX5_readHead_125 : decode cX5_readHead 125 = .ok (.getfield 31, 3) := by decide +kernel
theorem dX5_readHead_128 : decode cX5_readHead 128 = .ok (.iload_n 2, 1) := by decide +kernel
theorem dX5_readHead_129 : decode cX5_readHead 129 = .ok (.ifCond .eq 15, 3) := by decide +kernel
theorem dX5_readHead_132 : decode cX5_readHead 132 = .ok (.iload 4, 2) := by decide +kernel
theorem dX5_readHead_134 : decode cX5_readHead 134 = .ok (.iload 5, 2) := by decide +kernel
theorem dX5_readHead_136 : decode cX5_readHead 136 = .ok (.iload 6, 2) := by decide +kernel
theorem dX5_readHead_138 : decode cX5_readHead 138 = .ok (.invokestatic 131, 3) := by decide +kernel
theorem dX5_readHead_141 : decode cX5_readHead 141 = .ok (.goto 9, 3) := by decide +kernel
theorem dX5_readHead_144 : decode cX5_readHead 144 = .ok (.iload_n 1, 1) := by decide +kernel
theorem dX5_readHead_145 : decode cX5_readHead 145 = .ok (.iload 4, 2) := by decide +kernel
theorem dX5_readHead_147 : decode cX5_readHead 147 = .ok (.invokestatic 135, 3) := by decide +kernel
theorem dX5_readHead_150 : decode cX5_readHead 150 = .ok (.iastore, 1) := by decide +kernel
theorem dX5_readHead_151 : decode cX5_readHead 151 = .ok (.iload_n 1, 1) := by decide +kernel
theorem dX5_readHead_152 : decode cX5_readHead 152 = .ok (.bipush 7, 2) := by decide +kernel
theorem dX5_readHead_154 : decode cX5_readHead 154 = .ok (.if_icmp .ne 12, 3) := by decide +kernel
theorem dX5_readHead_157 : decode cX5_readHead 157 = .ok (.aload_n 0, 1) := by decide +kernel
theorem dX5_readHead_158 : decode cX5_readHead 158 = .ok (.iconst 0, 1) := by decide +kernel
theorem dX5_readHead_159 : decode cX5_readHead 159 = .ok (.iload 4, 2) := by decide +kernel
theorem dX5_readHead_161 : decode cX5_readHead 161 = .ok (.invokevirtual 114, 3) := by decide +kernel
theorem dX5_readHead_164 : decode cX5_readHead 164 = .ok (.iconst 1, 1) := by decide +kernel
theorem dX5_readHead_165 : decode cX5_readHead 165 = .ok (.ireturn, 1) := by decide +kernel
theorem dX5_readHead_166 : decode cX5_readHead 166 = .ok (.aload_n 0, 1) := by decide +kernel
theorem dX5_readHead_167 : decode cX5_readHead 167 = .ok (.iconst 0, 1) := by decide +kernel
theorem dX5_readHead_168 : decode cX5_readHead 168 = .ok (.invokevirtual 138, 3) := by decide +kernel
theorem dX5_readHead_171 : decode cX5_readHead 171 = .ok (.ireturn, 1) := by decide +kernel
theorem dX5_headOf_0 : decode cX5_headOf 0 = .ok (.iload_n 0, 1) := by decide +kernel
theorem dX5_headOf_1 : decode cX5_headOf 1 = .ok (.tableswitch 52 2 6 #[35, 38, 43, 46, 49], 35) := by decide +kernel
theorem dX5_headOf_36 : decode cX5_headOf 36 = .ok (.bipush 54, 2) := by decide +kernel
theorem dX5_headOf_38 : decode cX5_headOf 38 = .ok (.ireturn, 1) := by decide +kernel
theorem dX5_headOf_39 : decode cX5_headOf 39 = .ok (.bipush 55, 2) := by decide +kernel
theorem dX5_headOf_41 : decode cX5_headOf 41 = .ok (.iload_n 1, 1) := by decide +kernel
theorem dX5_headOf_42 : decode cX5_headOf 42 = .ok (.iadd, 1) := by decide +kernel
theorem dX5_headOf_43 : decode cX5_headOf 43 = .ok (.ireturn, 1) := by decide +kernel
theorem dX5_headOf_44 : decode cX5_headOf 44 = .ok (.bipush 58, 2) := by decide +kernel
theorem dX5_headOf_46 : decode cX5_headOf 46 = .ok (.ireturn, 1) := by decide +kernel
theorem dX5_headOf_47 : decode cX5_headOf 47 = .ok (.bipush 59, 2) := by decide +kernel
theorem dX5_headOf_49 : decode cX5_headOf 49 = .ok (.ireturn, 1) := by decide +kernel
theorem dX5_headOf_50 : decode cX5_headOf 50 = .ok (.bipush 60, 2) := by decide +kernel
theorem dX5_headOf_52 : decode cX5_headOf 52 = .ok (.ireturn, 1) := by decide +kernel
theorem dX5_headOf_53 : decode cX5_headOf 53 = .ok (.bipush 61, 2) := by decide +kernel
theorem dX5_headOf_55 : decode cX5_headOf 55 = .ok (.ireturn, 1) := by decide +kernel
theorem dX5_readTest_0 : decode cX5_readTest 0 = .ok (.aload_n 0, 1) := by decide +kernel
theorem dX5_readTest_1 : decode cX5_readTest 1 = .ok (.iload_n 1, 1) := by decide +kernel
theorem dX5_readTest_2 : decode cX5_readTest 2 = .ok (.invokevirtual 141, 3) := by decide +kernel
theorem dX5_readTest_5 : decode cX5_readTest 5 = .ok (.ifCond .ne 5, 3) := by decide +kernel
theorem dX5_readTest_8 : decode cX5_readTest 8 = .ok (.iconst 0, 1) := by decide +kernel
theorem dX5_readTest_9 : decode cX5_readTest 9 = .ok (.ireturn, 1) := by decide +kernel
theorem dX5_readTest_10 : decode cX5_readTest 10 = .ok (.iconst 0, 1) := by decide +kernel
theorem dX5_readTest_11 : decode cX5_readTest 11 = .ok (.istore_n 2, 1) := by decide +kernel
theorem dX5_readTest_12 : decode cX5_readTest 12 = .ok (.iload_n 2, 1) := by decide +kernel
theorem dX5_readTest_13 : decode cX5_readTest 13 = .ok (.sipush 400, 3) := by decide +kernel
theorem dX5_readTest_16 : decode cX5_readTest 16 = .ok (.if_icmp .ge 59, 3) := by decide +kernel
theorem dX5_readTest_19 : decode cX5_readTest 19 = .ok (.aload_n 0, 1) := by decide +kernel
theorem dX5_readTest_20 : decode cX5_readTest 20 = .ok (.ldc 144, 2) := by decide +kernel
theorem dX5_readTest_22 : decode cX5_readTest 22 = .ok (.invokevirtual 99, 3) := by decide +kernel
theorem dX5_readTest_25 : decode cX5_readTest 25 = .ok (.ifCond .eq 50, 3) := by decide +kernel
theorem dX5_readTest_28 : decode cX5_readTest 28 = .ok (.aload_n 0, 1) := by decide +kernel
theorem dX5_readTest_29 : decode cX5_readTest 29 = .ok (.invokevirtual 43, 3) := by decide +kernel
theorem dX5_readTest_32 : decode cX5_readTest 32 = .ok (.aload_n 0, 1) := by decide +kernel
theorem dX5_readTest_33 : decode cX5_readTest 33 = .ok (.getfield 34, 3) := by decide +kernel
theorem dX5_readTest_36 : decode cX5_readTest 36 = .ok (.istore_n 3, 1) := by decide +kernel
theorem dX5_readTest_37 : decode cX5_readTest 37 = .ok (.aload_n 0, 1) := by decide +kernel
theorem dX5_readTest_38 : decode cX5_readTest 38 = .ok (.bipush 13, 2) := by decide +kernel
theorem dX5_readTest_40 : decode cX5_readTest 40 = .ok (.iconst 0, 1) := by decide +kernel
theorem dX5_readTest_41 : decode cX5_readTest 41 = .ok (.invokevirtual 114, 3) := by decide +kernel
theorem dX5_readTest_44 : decode cX5_readTest 44 = .ok (.aload_n 0, 1) := by decide +kernel
theorem dX5_readTest_45 : decode cX5_readTest 45 = .ok (.iload_n 1, 1) := by decide +kernel
theorem dX5_readTest_46 : decode cX5_readTest 46 = .ok (.invokevirtual 141, 3) := by decide +kernel
theorem dX5_readTest_49 : decode cX5_readTest 49 = .ok (.ifCond .ne 5, 3) := by decide +kernel
theorem dX5_readTest_52 : decode cX5_readTest 52 = .ok (.iconst 0, 1) := by decide +kernel
theorem dX5_readTest_53 : decode cX5_readTest 53 = .ok (.ireturn, 1) := by decide +kernel
theorem dX5_readTest_54 : decode cX5_readTest 54 = .ok (.aload_n 0, 1) := by decide +kernel
theorem dX5_readTest_55 : decode cX5_readTest 55 = .ok (.getfield 24, 3) := by decide +kernel
theorem dX5_readTest_58 : decode cX5_readTest 58 = .ok (.iload_n 3, 1) := by decide +kernel
theorem dX5_readTest_59 : decode cX5_readTest 59 = .ok (.bipush 13, 2) := by decide +kernel
theorem dX5_readTest_61 : decode cX5_readTest 61 = .ok (.aload_n 0, 1) := by decide +kernel
theorem dX5_readTest_62 : decode cX5_readTest 62 = .ok (.getfield 34, 3) := by decide +kernel
theorem dX5_readTest_65 : decode cX5_readTest 65 = .ok (.iconst 4, 1) := by decide +kernel
theorem dX5_readTest_66 : decode cX5_readTest 66 = .ok (.ishl, 1) := by decide +kernel
theorem dX5_readTest_67 : decode cX5_readTest 67 = .ok (.ior, 1) := by decide +kernel
theorem dX5_readTest_68 : decode cX5_readTest 68 = .ok (.iastore, 1) := by decide +kernel
theorem dX5_readTest_69 : decode cX5_readTest 69 = .ok (.iinc 2 1, 3) := by decide +kernel
theorem dX5_readTest_72 : decode cX5_readTest 72 = .ok (.goto (-60), 3) := by decide +kernel
theorem dX5_readTest_75 : decode cX5_readTest 75 = .ok (.iconst 1, 1) := by decide +kernel
theorem dX5_readTest_76 : decode cX5_readTest 76 = .ok (.ireturn, 1) := by decide +kernel
theorem dX5_readBoth_0 : decode cX5_readBoth 0 = .ok (.aload_n 0, 1) := by decide +kernel
theorem dX5_readBoth_1 : decode cX5_readBoth 1 = .ok (.iload_n 1, 1) := by decide +kernel
theorem dX5_readBoth_2 : decode cX5_readBoth 2 = .ok (.invokevirtual 146, 3) := by decide +kernel
theorem dX5_readBoth_5 : decode cX5_readBoth 5 = .ok (.ifCond .ne 5, 3) := by decide +kernel
theorem dX5_readBoth_8 : decode cX5_readBoth 8 = .ok (.iconst 0, 1) := by decide +kernel
theorem dX5_readBoth_9 : decode cX5_readBoth 9 = .ok (.ireturn, 1) := by decide +kernel
theorem dX5_readBoth_10 : decode cX5_readBoth 10 = .ok (.iconst 0, 1) := by decide +kernel
theorem dX5_readBoth_11 : decode cX5_readBoth 11 = .ok (.istore_n 2, 1) := by decide +kernel
theorem dX5_readBoth_12 : decode cX5_readBoth 12 = .ok (.iload_n 2, 1) := by decide +kernel
theorem dX5_readBoth_13 : decode cX5_readBoth 13 = .ok (.sipush 400, 3) := by decide +kernel
theorem dX5_readBoth_16 : decode cX5_readBoth 16 = .ok (.if_icmp .ge 59, 3) := by decide +kernel
theorem dX5_readBoth_19 : decode cX5_readBoth 19 = .ok (.aload_n 0, 1) := by decide +kernel
theorem dX5_readBoth_20 : decode cX5_readBoth 20 = .ok (.ldc 149, 2) := by decide +kernel
theorem dX5_readBoth_22 : decode cX5_readBoth 22 = .ok (.invokevirtual 99, 3) := by decide +kernel
theorem dX5_readBoth_25 : decode cX5_readBoth 25 = .ok (.ifCond .eq 50, 3) := by decide +kernel
theorem dX5_readBoth_28 : decode cX5_readBoth 28 = .ok (.aload_n 0, 1) := by decide +kernel
theorem dX5_readBoth_29 : decode cX5_readBoth 29 = .ok (.invokevirtual 43, 3) := by decide +kernel
theorem dX5_readBoth_32 : decode cX5_readBoth 32 = .ok (.aload_n 0, 1) := by decide +kernel
theorem dX5_readBoth_33 : decode cX5_readBoth 33 = .ok (.getfield 34, 3) := by decide +kernel
theorem dX5_readBoth_36 : decode cX5_readBoth 36 = .ok (.istore_n 3, 1) := by decide +kernel
theorem dX5_readBoth_37 : decode cX5_readBoth 37 = .ok (.aload_n 0, 1) := by decide +kernel
theorem dX5_readBoth_38 : decode cX5_readBoth 38 = .ok (.bipush 12, 2) := by decide +kernel
theorem dX5_readBoth_40 : decode cX5_readBoth 40 = .ok (.iconst 0, 1) := by decide +kernel
theorem dX5_readBoth_41 : decode cX5_readBoth 41 = .ok (.invokevirtual 114, 3) := by decide +kernel
theorem dX5_readBoth_44 : decode cX5_readBoth 44 = .ok (.aload_n 0, 1) := by decide +kernel
theorem dX5_readBoth_45 : decode cX5_readBoth 45 = .ok (.iload_n 1, 1) := by decide +kernel
theorem dX5_readBoth_46 : decode cX5_readBoth 46 = .ok (.invokevirtual 146, 3) := by decide +kernel
theorem dX5_readBoth_49 : decode cX5_readBoth 49 = .ok (.ifCond .ne 5, 3) := by decide +kernel
theorem dX5_readBoth_52 : decode cX5_readBoth 52 = .ok (.iconst 0, 1) := by decide +kernel
theorem dX5_readBoth_53 : decode cX5_readBoth 53 = .ok (.ireturn, 1) := by decide +kernel
theorem dX5_readBoth_54 : decode cX5_readBoth 54 = .ok (.aload_n 0, 1) := by decide +kernel
theorem dX5_readBoth_55 : decode cX5_readBoth 55 = .ok (.getfield 24, 3) := by decide +kernel
theorem dX5_readBoth_58 : decode cX5_readBoth 58 = .ok (.iload_n 3, 1) := by decide +kernel
theorem dX5_readBoth_59 : decode cX5_readBoth 59 = .ok (.bipush 12, 2) := by decide +kernel
theorem dX5_readBoth_61 : decode cX5_readBoth 61 = .ok (.aload_n 0, 1) := by decide +kernel
theorem dX5_readBoth_62 : decode cX5_readBoth 62 = .ok (.getfield 34, 3) := by decide +kernel
theorem dX5_readBoth_65 : decode cX5_readBoth 65 = .ok (.iconst 4, 1) := by decide +kernel
theorem dX5_readBoth_66 : decode cX5_readBoth 66 = .ok (.ishl, 1) := by decide +kernel
theorem dX5_readBoth_67 : decode cX5_readBoth 67 = .ok (.ior, 1) := by decide +kernel
theorem dX5_readBoth_68 : decode cX5_readBoth 68 = .ok (.iastore, 1) := by decide +kernel
theorem dX5_readBoth_69 : decode cX5_readBoth 69 = .ok (.iinc 2 1, 3) := by decide +kernel
theorem dX5_readBoth_72 : decode cX5_readBoth 72 = .ok (.goto (-60), 3) := by decide +kernel
theorem dX5_readBoth_75 : decode cX5_readBoth 75 = .ok (.iconst 1, 1) := by decide +kernel
theorem dX5_readBoth_76 : decode cX5_readBoth 76 = .ok (.ireturn, 1) := by decide +kernel
def W_X4_isAlike_0 (X : Sx) (l : Launch) (D : Nat) (x1 : Int32) (x2 : Int32) (σ : AH) (r : Option Value) (σ' : AH) : Prop := E X l m_X4_isAlike D 6 [(0, .ref 113), (1, .int x1), (2, .int x2), (3, .int (0 : Int32)), (4, .int (7 : Int32))] [] σ r σ'
set_option maxRecDepth 100000 in
theorem w_X4_isAlike_0 {X : Sx} {l : Launch} {D : Nat} {x1 : Int32} {x2 : Int32} {σ : AH} {r : Option Value} {σ' : AH} (hs : Sh σ) (h : W_X4_isAlike_0 X l D x1 x2 σ r σ') : E X l m_X4_isAlike D 0 [(0, .ref 113), (1, .int x1), (2, .int x2)] [] σ r σ' := by
  unfold W_X4_isAlike_0 at h
  refine E_iconst (0 : Int32) dX4_isAlike_0 (by decide) ?_
  refine E_istore_n [(3, .int (0 : Int32)), (0, .ref 113), (1, .int x1), (2, .int x2)] dX4_isAlike_1 rfl (by decide) rfl ?_
  refine E_bipush (7 : Int32) dX4_isAlike_2 (by decide) ?_
  refine E_istore [(4, .int (7 : Int32)), (3, .int (0 : Int32)), (0, .ref 113), (1, .int x1), (2, .int x2)] dX4_isAlike_4 (by decide) rfl ?_
  exact E_lv [2, 3, 4, 1, 0] rfl h
def W_X4_isAlike_67 (X : Sx) (l : Launch) (D : Nat) (x1 : Int32) (x2 : Int32) (x3 : Int32) (x4 : Int32) (σ : AH) (r : Option Value) (σ' : AH) : Prop := E X l m_X4_isAlike D 6 [(0, .ref 113), (1, .int x1), (2, .int x2), (3, .int x3), (4, .int (x4 + 1))] [] σ r σ'
set_option maxRecDepth 100000 in
theorem w_X4_isAlike_67 {X : Sx} {l : Launch} {D : Nat} {x1 : Int32} {x2 : Int32} {x3 : Int32} {x4 : Int32} {σ : AH} {r : Option Value} {σ' : AH} (hs : Sh σ) (h : W_X4_isAlike_67 X l D x1 x2 x3 x4 σ r σ') : E X l m_X4_isAlike D 67 [(0, .ref 113), (1, .int x1), (2, .int x2), (3, .int x3), (4, .int x4)] [] σ r σ' := by
  unfold W_X4_isAlike_67 at h
  refine E_iinc 4 (x4 + 1) [(4, .int (x4 + 1)), (0, .ref 113), (1, .int x1), (2, .int x2), (3, .int x3)] dX4_isAlike_67 rfl (congrArg (x4 + ·) (by decide : Int32.ofInt 1 = 1)) (by decide) rfl ?_
  refine E_goto 6 dX4_isAlike_70 (by decide) ?_
  exact E_lv [1, 2, 3, 4, 0] rfl h
def W_X4_isAlike_6 (X : Sx) (l : Launch) (D : Nat) (x1 : Int32) (x2 : Int32) (x3 : Int32) (x4 : Int32) (σ : AH) (r : Option Value) (σ' : AH) : Prop := (if (10 : Int32) ≤ x4 then (if x3 < (2 : Int32) then (r = some (.int (0 : Int32)) ∧ σ' = σ) else (r = some (.int (1 : Int32)) ∧ σ' = σ)) else ∃ d1 : Nat, ∃ v6 : Int32, ∃ σ2 : AH, d1 + 1 ≤ D ∧ Call X l m_X8_at d1 [.ref 13, .int x1, .int x4] σ (some (.int v6)) σ2 ∧ ∃ d7 : Nat, ∃ v12 : Int32, ∃ σ8 : AH, d7 + 1 ≤ D ∧ Call X l m_X8_at d7 [.ref 13, .int x2, .int x4] σ2 (some (.int v12)) σ8 ∧ (if v6 = (-1 : Int32) then W_X4_isAlike_67 X l D x1 x2 x3 x4 σ8 r σ' else (if v12 = (-1 : Int32) then W_X4_isAlike_67 X l D x1 x2 x3 x4 σ8 r σ' else (if v6 = v12 then W_X4_isAlike_67 X l D x1 x2 (x3 + 1) x4 σ8 r σ' else (r = some (.int (0 : Int32)) ∧ σ' = σ8)))))
set_option maxRecDepth 100000 in
theorem w_X4_isAlike_6 {X : Sx} {l : Launch} {D : Nat} {x1 : Int32} {x2 : Int32} {x3 : Int32} {x4 : Int32} {σ : AH} {r : Option Value} {σ' : AH} (hs : Sh σ) (h : W_X4_isAlike_6 X l D x1 x2 x3 x4 σ r σ') : E X l m_X4_isAlike D 6 [(0, .ref 113), (1, .int x1), (2, .int x2), (3, .int x3), (4, .int x4)] [] σ r σ' := by
  unfold W_X4_isAlike_6 at h
  refine E_iload 4 dX4_isAlike_6 rfl ?_
  refine E_bipush (10 : Int32) dX4_isAlike_8 (by decide) ?_
  refine E_icmp_ge 73 dX4_isAlike_10 (by decide) (fun c => ?_) (fun c => ?_)
  · rw [if_pos c] at h
    refine E_iload_n 3 dX4_isAlike_73 rfl rfl ?_
    refine E_iconst (2 : Int32) dX4_isAlike_74 (by decide) ?_
    refine E_icmp_lt 82 dX4_isAlike_75 (by decide) (fun c => ?_) (fun c => ?_)
    · rw [if_pos c] at h
      refine E_iconst (0 : Int32) dX4_isAlike_82 (by decide) ?_
      obtain ⟨rfl, rfl⟩ := h
      exact E_zret dX4_isAlike_83 rfl (Or.inl rfl)
    · rw [if_neg c] at h
      refine E_iconst (1 : Int32) dX4_isAlike_78 (by decide) ?_
      refine E_goto 83 dX4_isAlike_79 (by decide) ?_
      obtain ⟨rfl, rfl⟩ := h
      exact E_zret dX4_isAlike_83 rfl (Or.inr rfl)
  · rw [if_neg c] at h
    refine E_aload_n 0 dX4_isAlike_13 rfl rfl ?_
    refine E_getR 1 dX4_isAlike_14 fl_X4_35 rfl (sk_113 hs) (sn hs (by decide)) (sr_113_0 hs) ?_
    refine E_getR 13 dX4_isAlike_17 fl_X4_43 rfl (sk_1 hs) (sn hs (by decide)) (sr_1_7 hs) ?_
    refine E_iload_n 1 dX4_isAlike_20 rfl rfl ?_
    refine E_iload 4 dX4_isAlike_21 rfl ?_
    obtain ⟨d1, v6, σ2, hD3, hC4, h⟩ := h
    have hs5 := hC4.1.2.2.2.1 hs
    refine E_callV (As := [.int x1, .int x4]) (rest := []) (r1 := (some (.int v6))) (b := 13) dX4_isAlike_23 ok_X8_at in_X8_at se_X8_at ml_X4_55 hD3 rfl rfl (Nat.le_of_ble_eq_true rfl) (sk_13 hs) (sn hs (by decide)) (by decide) rfl (by decide +kernel) hC4 ?_
    refine E_istore [(5, .int v6), (0, .ref 113), (1, .int x1), (2, .int x2), (3, .int x3), (4, .int x4)] dX4_isAlike_26 (by decide) rfl ?_
    refine E_aload_n 1 dX4_isAlike_28 rfl rfl ?_
    refine E_getR 1 dX4_isAlike_29 fl_X4_35 rfl (sk_113 hs5) (sn hs5 (by decide)) (sr_113_0 hs5) ?_
    refine E_getR 13 dX4_isAlike_32 fl_X4_43 rfl (sk_1 hs5) (sn hs5 (by decide)) (sr_1_7 hs5) ?_
    refine E_iload_n 3 dX4_isAlike_35 rfl rfl ?_
    refine E_iload 5 dX4_isAlike_36 rfl ?_
    obtain ⟨d7, v12, σ8, hD9, hC10, h⟩ := h
    have hs11 := hC10.1.2.2.2.1 hs5
    refine E_callV (As := [.int x2, .int x4]) (rest := []) (r1 := (some (.int v12))) (b := 13) dX4_isAlike_38 ok_X8_at in_X8_at se_X8_at ml_X4_55 hD9 rfl rfl (Nat.le_of_ble_eq_true rfl) (sk_13 hs5) (sn hs5 (by decide)) (by decide) rfl (by decide +kernel) hC10 ?_
    refine E_istore [(6, .int v12), (5, .int v6), (0, .ref 113), (1, .int x1), (2, .int x2), (3, .int x3), (4, .int x4)] dX4_isAlike_41 (by decide) rfl ?_
    refine E_iload 1 dX4_isAlike_43 rfl ?_
    refine E_iconst (-1 : Int32) dX4_isAlike_45 (by decide) ?_
    refine E_icmp_eq 67 dX4_isAlike_46 (by decide) (fun c => ?_) (fun c => ?_)
    · rw [if_pos c] at h
      exact E_lv [2, 3, 4, 5, 6] rfl (w_X4_isAlike_67 hs11 h)
    · rw [if_neg c] at h
      refine E_iload 0 dX4_isAlike_49 rfl ?_
      refine E_iconst (-1 : Int32) dX4_isAlike_51 (by decide) ?_
      refine E_icmp_eq 67 dX4_isAlike_52 (by decide) (fun c => ?_) (fun c => ?_)
      · rw [if_pos c] at h
        exact E_lv [2, 3, 4, 5, 6] rfl (w_X4_isAlike_67 hs11 h)
      · rw [if_neg c] at h
        refine E_iload 1 dX4_isAlike_55 rfl ?_
        refine E_iload 0 dX4_isAlike_57 rfl ?_
        refine E_icmp_eq 64 dX4_isAlike_59 (by decide) (fun c => ?_) (fun c => ?_)
        · rw [if_pos c] at h
          refine E_iinc 5 (x3 + 1) [(3, .int (x3 + 1)), (6, .int v12), (5, .int v6), (0, .ref 113), (1, .int x1), (2, .int x2), (4, .int x4)] dX4_isAlike_64 rfl (congrArg (x3 + ·) (by decide : Int32.ofInt 1 = 1)) (by decide) rfl ?_
          exact E_lv [3, 4, 5, 0, 6] rfl (w_X4_isAlike_67 hs11 h)
        · rw [if_neg c] at h
          refine E_iconst (0 : Int32) dX4_isAlike_62 (by decide) ?_
          obtain ⟨rfl, rfl⟩ := h
          exact E_zret dX4_isAlike_63 rfl (Or.inl rfl)
def W_X4_weightOf_0 (X : Sx) (l : Launch) (D : Nat) (x1 : Int32) (x2 : Int32) (σ : AH) (r : Option Value) (σ' : AH) : Prop := ∃ d1 : Nat, ∃ σ2 : AH, d1 + 1 ≤ D ∧ Call X l m_X3_ask d1 [.ref 28, .int (0 : Int32), .int x2] σ none σ2 ∧ ∃ d6 : Nat, ∃ v11 : Int32, ∃ σ7 : AH, d6 + 1 ≤ D ∧ Call X l m_X8_at d6 [.ref 13, .int x1, .int (1 : Int32)] σ2 (some (.int v11)) σ7 ∧ 1 ≤ D ∧ ∃ d13 : Nat, ∃ σ14 : AH, d13 + 1 ≤ D ∧ Call X l m_X3_askOf d13 [.ref 28, .int x1, .int (imax (0 : Int32) (x2 - v11))] σ7 none σ14 ∧ ∃ d18 : Nat, ∃ v23 : Int64, ∃ σ19 : AH, d18 + 1 ≤ D ∧ Call X l m_X3_total d18 [.ref 28, .int (54 : Int32)] σ14 (some (.long v23)) σ19 ∧ (r = some (.long v23) ∧ σ' = σ19)
set_option maxRecDepth 100000 in
theorem w_X4_weightOf_0 {X : Sx} {l : Launch} {D : Nat} {x1 : Int32} {x2 : Int32} {σ : AH} {r : Option Value} {σ' : AH} (hs : Sh σ) (h : W_X4_weightOf_0 X l D x1 x2 σ r σ') : E X l m_X4_weightOf D 0 [(0, .ref 113), (1, .int x1), (2, .int x2)] [] σ r σ' := by
  unfold W_X4_weightOf_0 at h
  refine E_aload_n 0 dX4_weightOf_0 rfl rfl ?_
  refine E_getR 28 dX4_weightOf_1 fl_X4_39 rfl (sk_113 hs) (sn hs (by decide)) (sr_113_1 hs) ?_
  refine E_iconst (0 : Int32) dX4_weightOf_4 (by decide) ?_
  refine E_iload_n 2 dX4_weightOf_5 rfl rfl ?_
  obtain ⟨d1, σ2, hD3, hC4, h⟩ := h
  have hs5 := hC4.1.2.2.2.1 hs
  refine E_callV (As := [.int (0 : Int32), .int x2]) (rest := []) (r1 := none) (b := 28) dX4_weightOf_6 ok_X3_ask in_X3_ask se_X3_ask ml_X4_72 hD3 rfl rfl (Nat.le_of_ble_eq_true rfl) (sk_28 hs) (sn hs (by decide)) (by decide) rfl (by decide +kernel) hC4 ?_
  refine E_aload_n 0 dX4_weightOf_9 rfl rfl ?_
  refine E_getR 28 dX4_weightOf_10 fl_X4_39 rfl (sk_113 hs5) (sn hs5 (by decide)) (sr_113_1 hs5) ?_
  refine E_iload_n 1 dX4_weightOf_13 rfl rfl ?_
  refine E_iconst (0 : Int32) dX4_weightOf_14 (by decide) ?_
  refine E_iload_n 2 dX4_weightOf_15 rfl rfl ?_
  refine E_aload_n 0 dX4_weightOf_16 rfl rfl ?_
  refine E_getR 1 dX4_weightOf_17 fl_X4_35 rfl (sk_113 hs5) (sn hs5 (by decide)) (sr_113_0 hs5) ?_
  refine E_getR 13 dX4_weightOf_20 fl_X4_43 rfl (sk_1 hs5) (sn hs5 (by decide)) (sr_1_7 hs5) ?_
  refine E_iload_n 1 dX4_weightOf_23 rfl rfl ?_
  refine E_iconst (1 : Int32) dX4_weightOf_24 (by decide) ?_
  obtain ⟨d6, v11, σ7, hD8, hC9, h⟩ := h
  have hs10 := hC9.1.2.2.2.1 hs5
  refine E_callV (As := [.int x1, .int (1 : Int32)]) (rest := [.int x2, .int (0 : Int32), .int x1, .ref 28]) (r1 := (some (.int v11))) (b := 13) dX4_weightOf_25 ok_X8_at in_X8_at se_X8_at ml_X4_55 hD8 rfl rfl (Nat.le_of_ble_eq_true rfl) (sk_13 hs5) (sn hs5 (by decide)) (by decide) rfl (by decide +kernel) hC9 ?_
  refine E_isub dX4_weightOf_28 ?_
  obtain ⟨g12, h⟩ := h
  refine E_mmax dX4_weightOf_29 mm_X4_78 g12 (Nat.le_of_ble_eq_true rfl) ?_
  obtain ⟨d13, σ14, hD15, hC16, h⟩ := h
  have hs17 := hC16.1.2.2.2.1 hs10
  refine E_callV (As := [.int x1, .int (imax (0 : Int32) (x2 - v11))]) (rest := []) (r1 := none) (b := 28) dX4_weightOf_32 ok_X3_askOf in_X3_askOf se_X3_askOf ml_X4_81 hD15 rfl rfl (Nat.le_of_ble_eq_true rfl) (sk_28 hs10) (sn hs10 (by decide)) (by decide) rfl (by decide +kernel) hC16 ?_
  refine E_aload_n 0 dX4_weightOf_35 rfl rfl ?_
  refine E_getR 28 dX4_weightOf_36 fl_X4_39 rfl (sk_113 hs17) (sn hs17 (by decide)) (sr_113_1 hs17) ?_
  refine E_bipush (54 : Int32) dX4_weightOf_39 (by decide) ?_
  obtain ⟨d18, v23, σ19, hD20, hC21, h⟩ := h
  have hs22 := hC21.1.2.2.2.1 hs17
  refine E_callV (As := [.int (54 : Int32)]) (rest := []) (r1 := (some (.long v23))) (b := 28) dX4_weightOf_41 ok_X3_total in_X3_total se_X3_total ml_X4_84 hD20 rfl rfl (Nat.le_of_ble_eq_true rfl) (sk_28 hs17) (sn hs17 (by decide)) (by decide) rfl (by decide +kernel) hC21 ?_
  obtain ⟨rfl, rfl⟩ := h
  exact E_lret dX4_weightOf_44 rfl
def W_X4_sortAll_0 (X : Sx) (l : Launch) (D : Nat) (x1 : Int32) (σ : AH) (r : Option Value) (σ' : AH) : Prop := E X l m_X4_sortAll D 2 [(0, .ref 113), (1, .int x1), (2, .int (0 : Int32))] [] σ r σ'
set_option maxRecDepth 100000 in
theorem w_X4_sortAll_0 {X : Sx} {l : Launch} {D : Nat} {x1 : Int32} {σ : AH} {r : Option Value} {σ' : AH} (hs : Sh σ) (h : W_X4_sortAll_0 X l D x1 σ r σ') : E X l m_X4_sortAll D 0 [(0, .ref 113), (1, .int x1)] [] σ r σ' := by
  unfold W_X4_sortAll_0 at h
  refine E_iconst (0 : Int32) dX4_sortAll_0 (by decide) ?_
  refine E_istore_n [(2, .int (0 : Int32)), (0, .ref 113), (1, .int x1)] dX4_sortAll_1 rfl (by decide) rfl ?_
  exact E_lv [1, 2, 0] rfl h
def W_X4_sortAll_2 (X : Sx) (l : Launch) (D : Nat) (x1 : Int32) (x2 : Int32) (σ : AH) (r : Option Value) (σ' : AH) : Prop := (if (6 : Int32) ≤ x2 then (r = none ∧ σ' = σ) else ∃ d1 : Nat, ∃ σ2 : AH, d1 + 1 ≤ D ∧ Call X l m_X4_sort d1 [.ref 113, .int x2, .int x1, .int x1] σ none σ2 ∧ E X l m_X4_sortAll D 2 [(0, .ref 113), (1, .int x1), (2, .int (x2 + 1))] [] σ2 r σ')
set_option maxRecDepth 100000 in
theorem w_X4_sortAll_2 {X : Sx} {l : Launch} {D : Nat} {x1 : Int32} {x2 : Int32} {σ : AH} {r : Option Value} {σ' : AH} (hs : Sh σ) (h : W_X4_sortAll_2 X l D x1 x2 σ r σ') : E X l m_X4_sortAll D 2 [(0, .ref 113), (1, .int x1), (2, .int x2)] [] σ r σ' := by
  unfold W_X4_sortAll_2 at h
  refine E_iload_n 2 dX4_sortAll_2 rfl rfl ?_
  refine E_bipush (6 : Int32) dX4_sortAll_3 (by decide) ?_
  refine E_icmp_ge 21 dX4_sortAll_5 (by decide) (fun c => ?_) (fun c => ?_)
  · rw [if_pos c] at h
    obtain ⟨rfl, rfl⟩ := h
    exact E_vret dX4_sortAll_21 rfl
  · rw [if_neg c] at h
    refine E_aload_n 0 dX4_sortAll_8 rfl rfl ?_
    refine E_iload_n 2 dX4_sortAll_9 rfl rfl ?_
    refine E_iload_n 1 dX4_sortAll_10 rfl rfl ?_
    refine E_iload_n 1 dX4_sortAll_11 rfl rfl ?_
    obtain ⟨d1, σ2, hD3, hC4, h⟩ := h
    have hs5 := hC4.1.2.2.2.1 hs
    refine E_callV (As := [.int x2, .int x1, .int x1]) (rest := []) (r1 := none) (b := 113) dX4_sortAll_12 ok_X4_sort in_X4_sort se_X4_sort ml_X4_88 hD3 rfl rfl (Nat.le_of_ble_eq_true rfl) (sk_113 hs) (sn hs (by decide)) (by decide) rfl (by decide +kernel) hC4 ?_
    refine E_iinc 2 (x2 + 1) [(2, .int (x2 + 1)), (0, .ref 113), (1, .int x1)] dX4_sortAll_15 rfl (congrArg (x2 + ·) (by decide : Int32.ofInt 1 = 1)) (by decide) rfl ?_
    refine E_goto 2 dX4_sortAll_18 (by decide) ?_
    exact E_lv [1, 2, 0] rfl h
def W_X4_sort_0 (X : Sx) (l : Launch) (D : Nat) (x1 : Int32) (x2 : Int32) (x3 : Int32) (σ : AH) (r : Option Value) (σ' : AH) : Prop := ∃ d1 : Nat, ∃ σ2 : AH, d1 + 1 ≤ D ∧ Call X l m_X3_settle d1 [.ref 28, .int x2, .int x3] σ none σ2 ∧ E X l m_X4_sort D 21 [(0, .ref 113), (1, .int x1), (2, .int x2), (3, .int x3), (4, .int (x1 * (60 : Int32))), (5, .int (0 : Int32)), (6, .int (0 : Int32))] [] σ2 r σ'
set_option maxRecDepth 100000 in
theorem w_X4_sort_0 {X : Sx} {l : Launch} {D : Nat} {x1 : Int32} {x2 : Int32} {x3 : Int32} {σ : AH} {r : Option Value} {σ' : AH} (hs : Sh σ) (h : W_X4_sort_0 X l D x1 x2 x3 σ r σ') : E X l m_X4_sort D 0 [(0, .ref 113), (1, .int x1), (2, .int x2), (3, .int x3)] [] σ r σ' := by
  unfold W_X4_sort_0 at h
  refine E_aload_n 0 dX4_sort_0 rfl rfl ?_
  refine E_getR 28 dX4_sort_1 fl_X4_39 rfl (sk_113 hs) (sn hs (by decide)) (sr_113_1 hs) ?_
  refine E_iload_n 2 dX4_sort_4 rfl rfl ?_
  refine E_iload_n 3 dX4_sort_5 rfl rfl ?_
  obtain ⟨d1, σ2, hD3, hC4, h⟩ := h
  have hs5 := hC4.1.2.2.2.1 hs
  refine E_callV (As := [.int x2, .int x3]) (rest := []) (r1 := none) (b := 28) dX4_sort_6 ok_X3_settle in_X3_settle se_X3_settle ml_X4_91 hD3 rfl rfl (Nat.le_of_ble_eq_true rfl) (sk_28 hs) (sn hs (by decide)) (by decide) rfl (by decide +kernel) hC4 ?_
  refine E_iload_n 1 dX4_sort_9 rfl rfl ?_
  refine E_bipush (60 : Int32) dX4_sort_10 (by decide) ?_
  refine E_imul dX4_sort_12 ?_
  refine E_istore [(4, .int (x1 * (60 : Int32))), (0, .ref 113), (1, .int x1), (2, .int x2), (3, .int x3)] dX4_sort_13 (by decide) rfl ?_
  refine E_iconst (0 : Int32) dX4_sort_15 (by decide) ?_
  refine E_istore [(5, .int (0 : Int32)), (4, .int (x1 * (60 : Int32))), (0, .ref 113), (1, .int x1), (2, .int x2), (3, .int x3)] dX4_sort_16 (by decide) rfl ?_
  refine E_iconst (0 : Int32) dX4_sort_18 (by decide) ?_
  refine E_istore [(6, .int (0 : Int32)), (5, .int (0 : Int32)), (4, .int (x1 * (60 : Int32))), (0, .ref 113), (1, .int x1), (2, .int x2), (3, .int x3)] dX4_sort_19 (by decide) rfl ?_
  exact E_lv [3, 4, 5, 6, 2, 1, 0] rfl h
def W_X4_sort_168 (X : Sx) (l : Launch) (D : Nat) (x1 : Int32) (x2 : Int32) (x3 : Int32) (x4 : Int32) (x5 : Int32) (x6 : Int32) (σ : AH) (r : Option Value) (σ' : AH) : Prop := E X l m_X4_sort D 21 [(0, .ref 113), (1, .int x1), (2, .int x2), (3, .int x3), (4, .int x4), (5, .int x5), (6, .int (x6 + 1))] [] σ r σ'
set_option maxRecDepth 100000 in
theorem w_X4_sort_168 {X : Sx} {l : Launch} {D : Nat} {x1 : Int32} {x2 : Int32} {x3 : Int32} {x4 : Int32} {x5 : Int32} {x6 : Int32} {σ : AH} {r : Option Value} {σ' : AH} (hs : Sh σ) (h : W_X4_sort_168 X l D x1 x2 x3 x4 x5 x6 σ r σ') : E X l m_X4_sort D 168 [(0, .ref 113), (1, .int x1), (2, .int x2), (3, .int x3), (4, .int x4), (5, .int x5), (6, .int x6)] [] σ r σ' := by
  unfold W_X4_sort_168 at h
  refine E_iinc 6 (x6 + 1) [(6, .int (x6 + 1)), (0, .ref 113), (1, .int x1), (2, .int x2), (3, .int x3), (4, .int x4), (5, .int x5)] dX4_sort_168 rfl (congrArg (x6 + ·) (by decide : Int32.ofInt 1 = 1)) (by decide) rfl ?_
  refine E_goto 21 dX4_sort_171 (by decide) ?_
  exact E_lv [1, 2, 3, 4, 5, 6, 0] rfl h
def W_X4_sort_21 (X : Sx) (l : Launch) (D : Nat) (x1 : Int32) (x2 : Int32) (x3 : Int32) (x4 : Int32) (x5 : Int32) (x6 : Int32) (σ : AH) (r : Option Value) (σ' : AH) : Prop := ∃ d6 : Nat, ∃ v11 : Int32, ∃ σ7 : AH, d6 + 1 ≤ D ∧ Call X l m_X8_rows d6 [.ref 13] σ (some (.int v11)) σ7 ∧ (if v11 ≤ x6 then vp_in x1 6 ∧ (r = none ∧ σ' = (sI σ7 116 x1.toNatClampNeg x5)) else ∃ d13 : Nat, ∃ v18 : Int32, ∃ σ14 : AH, d13 + 1 ≤ D ∧ Call X l m_X8_at d13 [.ref 13, .int x6, .int (0 : Int32)] σ7 (some (.int v18)) σ14 ∧ (if v18 = x1 then ∃ d19 : Nat, ∃ v24 : Int32, ∃ σ20 : AH, d19 + 1 ≤ D ∧ Call X l m_X8_at d19 [.ref 13, .int x6, .int (1 : Int32)] σ14 (some (.int v24)) σ20 ∧ (if x2 < v24 then W_X4_sort_168 X l D x1 x2 x3 x4 x5 x6 σ20 r σ' else ∃ d25 : Nat, ∃ v30 : Int32, ∃ σ26 : AH, d25 + 1 ≤ D ∧ Call X l m_X8_at d25 [.ref 13, .int x6, .int (6 : Int32)] σ20 (some (.int v30)) σ26 ∧ (if x3 < v30 then W_X4_sort_168 X l D x1 x2 x3 x4 x5 x6 σ26 r σ' else ∃ d31 : Nat, ∃ v36 : Int64, ∃ σ32 : AH, d31 + 1 ≤ D ∧ Call X l m_X4_weightOf d31 [.ref 113, .int x6, .int x2] σ26 (some (.long v36)) σ32 ∧ vp_in x6 60 ∧ E X l m_X4_sort D 109 [(0, .ref 113), (1, .int x1), (2, .int x2), (3, .int x3), (4, .int x4), (5, .int x5), (6, .int x6), (7, .int (x4 + x5))] [] (sL σ32 117 x6.toNatClampNeg v36) r σ')) else W_X4_sort_168 X l D x1 x2 x3 x4 x5 x6 σ14 r σ'))
set_option maxRecDepth 100000 in
theorem w_X4_sort_21 {X : Sx} {l : Launch} {D : Nat} {x1 : Int32} {x2 : Int32} {x3 : Int32} {x4 : Int32} {x5 : Int32} {x6 : Int32} {σ : AH} {r : Option Value} {σ' : AH} (hs : Sh σ) (h : W_X4_sort_21 X l D x1 x2 x3 x4 x5 x6 σ r σ') : E X l m_X4_sort D 21 [(0, .ref 113), (1, .int x1), (2, .int x2), (3, .int x3), (4, .int x4), (5, .int x5), (6, .int x6)] [] σ r σ' := by
  unfold W_X4_sort_21 at h
  refine E_iload 6 dX4_sort_21 rfl ?_
  refine E_aload_n 0 dX4_sort_23 rfl rfl ?_
  refine E_getR 1 dX4_sort_24 fl_X4_35 rfl (sk_113 hs) (sn hs (by decide)) (sr_113_0 hs) ?_
  refine E_getR 13 dX4_sort_27 fl_X4_43 rfl (sk_1 hs) (sn hs (by decide)) (sr_1_7 hs) ?_
  obtain ⟨d6, v11, σ7, hD8, hC9, h⟩ := h
  have hs10 := hC9.1.2.2.2.1 hs
  refine E_callV (As := []) (rest := [.int x6]) (r1 := (some (.int v11))) (b := 13) dX4_sort_30 ok_X8_rows in_X8_rows se_X8_rows ml_X4_49 hD8 rfl rfl (Nat.le_of_ble_eq_true rfl) (sk_13 hs) (sn hs (by decide)) (by decide) rfl (by decide +kernel) hC9 ?_
  refine E_icmp_ge 174 dX4_sort_33 (by decide) (fun c => ?_) (fun c => ?_)
  · rw [if_pos c] at h
    refine E_aload_n 0 dX4_sort_174 rfl rfl ?_
    refine E_getR 116 dX4_sort_175 fl_X4_25 rfl (sk_113 hs10) (sn hs10 (by decide)) (sr_113_6 hs10) ?_
    refine E_iload_n 1 dX4_sort_178 rfl rfl ?_
    refine E_iload 5 dX4_sort_179 rfl ?_
    obtain ⟨g12, h⟩ := h
    refine E_iast2 (x1.toNatClampNeg) dX4_sort_181 (sk_116 hs10) (sn hs10 (by decide)) (Or.inl (by decide)) g12 rfl ?_
    obtain ⟨rfl, rfl⟩ := h
    exact E_vret dX4_sort_182 rfl
  · rw [if_neg c] at h
    refine E_aload_n 0 dX4_sort_36 rfl rfl ?_
    refine E_getR 1 dX4_sort_37 fl_X4_35 rfl (sk_113 hs10) (sn hs10 (by decide)) (sr_113_0 hs10) ?_
    refine E_getR 13 dX4_sort_40 fl_X4_43 rfl (sk_1 hs10) (sn hs10 (by decide)) (sr_1_7 hs10) ?_
    refine E_iload 6 dX4_sort_43 rfl ?_
    refine E_iconst (0 : Int32) dX4_sort_45 (by decide) ?_
    obtain ⟨d13, v18, σ14, hD15, hC16, h⟩ := h
    have hs17 := hC16.1.2.2.2.1 hs10
    refine E_callV (As := [.int x6, .int (0 : Int32)]) (rest := []) (r1 := (some (.int v18))) (b := 13) dX4_sort_46 ok_X8_at in_X8_at se_X8_at ml_X4_55 hD15 rfl rfl (Nat.le_of_ble_eq_true rfl) (sk_13 hs10) (sn hs10 (by decide)) (by decide) rfl (by decide +kernel) hC16 ?_
    refine E_iload_n 1 dX4_sort_49 rfl rfl ?_
    refine E_icmp_ne 168 dX4_sort_50 (by decide) (fun c => ?_) (fun c => ?_)
    · rw [if_neg c] at h
      exact E_lv [0, 1, 2, 3, 4, 5, 6] rfl (w_X4_sort_168 hs17 h)
    · rw [if_pos c] at h
      refine E_aload_n 0 dX4_sort_53 rfl rfl ?_
      refine E_getR 1 dX4_sort_54 fl_X4_35 rfl (sk_113 hs17) (sn hs17 (by decide)) (sr_113_0 hs17) ?_
      refine E_getR 13 dX4_sort_57 fl_X4_43 rfl (sk_1 hs17) (sn hs17 (by decide)) (sr_1_7 hs17) ?_
      refine E_iload 6 dX4_sort_60 rfl ?_
      refine E_iconst (1 : Int32) dX4_sort_62 (by decide) ?_
      obtain ⟨d19, v24, σ20, hD21, hC22, h⟩ := h
      have hs23 := hC22.1.2.2.2.1 hs17
      refine E_callV (As := [.int x6, .int (1 : Int32)]) (rest := []) (r1 := (some (.int v24))) (b := 13) dX4_sort_63 ok_X8_at in_X8_at se_X8_at ml_X4_55 hD21 rfl rfl (Nat.le_of_ble_eq_true rfl) (sk_13 hs17) (sn hs17 (by decide)) (by decide) rfl (by decide +kernel) hC22 ?_
      refine E_iload_n 2 dX4_sort_66 rfl rfl ?_
      refine E_icmp_gt 168 dX4_sort_67 (by decide) (fun c => ?_) (fun c => ?_)
      · rw [if_pos c] at h
        exact E_lv [0, 1, 2, 3, 4, 5, 6] rfl (w_X4_sort_168 hs23 h)
      · rw [if_neg c] at h
        refine E_aload_n 0 dX4_sort_70 rfl rfl ?_
        refine E_getR 1 dX4_sort_71 fl_X4_35 rfl (sk_113 hs23) (sn hs23 (by decide)) (sr_113_0 hs23) ?_
        refine E_getR 13 dX4_sort_74 fl_X4_43 rfl (sk_1 hs23) (sn hs23 (by decide)) (sr_1_7 hs23) ?_
        refine E_iload 6 dX4_sort_77 rfl ?_
        refine E_bipush (6 : Int32) dX4_sort_79 (by decide) ?_
        obtain ⟨d25, v30, σ26, hD27, hC28, h⟩ := h
        have hs29 := hC28.1.2.2.2.1 hs23
        refine E_callV (As := [.int x6, .int (6 : Int32)]) (rest := []) (r1 := (some (.int v30))) (b := 13) dX4_sort_81 ok_X8_at in_X8_at se_X8_at ml_X4_55 hD27 rfl rfl (Nat.le_of_ble_eq_true rfl) (sk_13 hs23) (sn hs23 (by decide)) (by decide) rfl (by decide +kernel) hC28 ?_
        refine E_iload_n 3 dX4_sort_84 rfl rfl ?_
        refine E_icmp_gt 168 dX4_sort_85 (by decide) (fun c => ?_) (fun c => ?_)
        · rw [if_pos c] at h
          exact E_lv [0, 1, 2, 3, 4, 5, 6] rfl (w_X4_sort_168 hs29 h)
        · rw [if_neg c] at h
          refine E_aload_n 0 dX4_sort_88 rfl rfl ?_
          refine E_getR 117 dX4_sort_89 fl_X4_28 rfl (sk_113 hs29) (sn hs29 (by decide)) (sr_113_7 hs29) ?_
          refine E_iload 6 dX4_sort_92 rfl ?_
          refine E_aload_n 0 dX4_sort_94 rfl rfl ?_
          refine E_iload 6 dX4_sort_95 rfl ?_
          refine E_iload_n 2 dX4_sort_97 rfl rfl ?_
          obtain ⟨d31, v36, σ32, hD33, hC34, h⟩ := h
          have hs35 := hC34.1.2.2.2.1 hs29
          refine E_callV (As := [.int x6, .int x2]) (rest := [.int x6, .ref 117]) (r1 := (some (.long v36))) (b := 113) dX4_sort_98 ok_X4_weightOf in_X4_weightOf se_X4_weightOf ml_X4_94 hD33 rfl rfl (Nat.le_of_ble_eq_true rfl) (sk_113 hs29) (sn hs29 (by decide)) (by decide) rfl (by decide +kernel) hC34 ?_
          obtain ⟨g37, h⟩ := h
          refine E_last2 (x6.toNatClampNeg) dX4_sort_101 (sk_117 hs35) (sn hs35 (by decide)) (Or.inl (by decide)) g37 rfl ?_
          refine E_iload 4 dX4_sort_102 rfl ?_
          refine E_iload 5 dX4_sort_104 rfl ?_
          refine E_iadd dX4_sort_106 ?_
          refine E_istore [(7, .int (x4 + x5)), (0, .ref 113), (1, .int x1), (2, .int x2), (3, .int x3), (4, .int x4), (5, .int x5), (6, .int x6)] dX4_sort_107 (by decide) rfl ?_
          exact E_lv [1, 2, 3, 4, 5, 6, 7, 0] rfl h
def W_X4_sort_156 (X : Sx) (l : Launch) (D : Nat) (x1 : Int32) (x2 : Int32) (x3 : Int32) (x4 : Int32) (x5 : Int32) (x6 : Int32) (x7 : Int32) (σ : AH) (r : Option Value) (σ' : AH) : Prop := vp_in x7 360 ∧ W_X4_sort_168 X l D x1 x2 x3 x4 (x5 + 1) x6 (sI σ 115 x7.toNatClampNeg x6) r σ'
set_option maxRecDepth 100000 in
theorem w_X4_sort_156 {X : Sx} {l : Launch} {D : Nat} {x1 : Int32} {x2 : Int32} {x3 : Int32} {x4 : Int32} {x5 : Int32} {x6 : Int32} {x7 : Int32} {σ : AH} {r : Option Value} {σ' : AH} (hs : Sh σ) (h : W_X4_sort_156 X l D x1 x2 x3 x4 x5 x6 x7 σ r σ') : E X l m_X4_sort D 156 [(0, .ref 113), (1, .int x1), (2, .int x2), (3, .int x3), (4, .int x4), (5, .int x5), (6, .int x6), (7, .int x7)] [] σ r σ' := by
  unfold W_X4_sort_156 at h
  refine E_aload_n 0 dX4_sort_156 rfl rfl ?_
  refine E_getR 115 dX4_sort_157 fl_X4_22 rfl (sk_113 hs) (sn hs (by decide)) (sr_113_5 hs) ?_
  refine E_iload 7 dX4_sort_160 rfl ?_
  refine E_iload 6 dX4_sort_162 rfl ?_
  obtain ⟨g47, h⟩ := h
  refine E_iast2 (x7.toNatClampNeg) dX4_sort_164 (sk_115 hs) (sn hs (by decide)) (Or.inl (by decide)) g47 rfl ?_
  refine E_iinc 5 (x5 + 1) [(5, .int (x5 + 1)), (0, .ref 113), (1, .int x1), (2, .int x2), (3, .int x3), (4, .int x4), (6, .int x6), (7, .int x7)] dX4_sort_165 rfl (congrArg (x5 + ·) (by decide : Int32.ofInt 1 = 1)) (by decide) rfl ?_
  exact E_lv [1, 2, 3, 4, 5, 0, 6] rfl (w_X4_sort_168 hs h)
def W_X4_sort_109 (X : Sx) (l : Launch) (D : Nat) (x1 : Int32) (x2 : Int32) (x3 : Int32) (x4 : Int32) (x5 : Int32) (x6 : Int32) (x7 : Int32) (σ : AH) (r : Option Value) (σ' : AH) : Prop := (if x7 ≤ x4 then W_X4_sort_156 X l D x1 x2 x3 x4 x5 x6 x7 σ r σ' else vp_in (x7 - (1 : Int32)) 360 ∧ ∃ d39 : Nat, ∃ v44 : Int32, ∃ σ40 : AH, d39 + 1 ≤ D ∧ Call X l m_X4_isAhead d39 [.ref 113, .int x6, .int (gI σ 115 (x7 - (1 : Int32)).toNatClampNeg)] σ (some (.int v44)) σ40 ∧ (if v44 = 0 then W_X4_sort_156 X l D x1 x2 x3 x4 x5 x6 x7 σ40 r σ' else vp_in (x7 - (1 : Int32)) 360 ∧ vp_in x7 360 ∧ E X l m_X4_sort D 109 [(0, .ref 113), (1, .int x1), (2, .int x2), (3, .int x3), (4, .int x4), (5, .int x5), (6, .int x6), (7, .int (x7 + (-1)))] [] (sI σ40 115 x7.toNatClampNeg (gI σ40 115 (x7 - (1 : Int32)).toNatClampNeg)) r σ'))
set_option maxRecDepth 100000 in
theorem w_X4_sort_109 {X : Sx} {l : Launch} {D : Nat} {x1 : Int32} {x2 : Int32} {x3 : Int32} {x4 : Int32} {x5 : Int32} {x6 : Int32} {x7 : Int32} {σ : AH} {r : Option Value} {σ' : AH} (hs : Sh σ) (h : W_X4_sort_109 X l D x1 x2 x3 x4 x5 x6 x7 σ r σ') : E X l m_X4_sort D 109 [(0, .ref 113), (1, .int x1), (2, .int x2), (3, .int x3), (4, .int x4), (5, .int x5), (6, .int x6), (7, .int x7)] [] σ r σ' := by
  unfold W_X4_sort_109 at h
  refine E_iload 7 dX4_sort_109 rfl ?_
  refine E_iload 4 dX4_sort_111 rfl ?_
  refine E_icmp_le 156 dX4_sort_113 (by decide) (fun c => ?_) (fun c => ?_)
  · rw [if_pos c] at h
    exact E_lv [0, 1, 2, 3, 4, 5, 6, 7] rfl (w_X4_sort_156 hs h)
  · rw [if_neg c] at h
    refine E_aload_n 0 dX4_sort_116 rfl rfl ?_
    refine E_iload 6 dX4_sort_117 rfl ?_
    refine E_aload_n 0 dX4_sort_119 rfl rfl ?_
    refine E_getR 115 dX4_sort_120 fl_X4_22 rfl (sk_113 hs) (sn hs (by decide)) (sr_113_5 hs) ?_
    refine E_iload 7 dX4_sort_123 rfl ?_
    refine E_iconst (1 : Int32) dX4_sort_125 (by decide) ?_
    refine E_isub dX4_sort_126 ?_
    obtain ⟨g38, h⟩ := h
    refine E_iald2 ((x7 - (1 : Int32)).toNatClampNeg) dX4_sort_127 (sk_115 hs) (sn hs (by decide)) g38 rfl ?_
    obtain ⟨d39, v44, σ40, hD41, hC42, h⟩ := h
    have hs43 := hC42.1.2.2.2.1 hs
    refine E_callV (As := [.int x6, .int (gI σ 115 (x7 - (1 : Int32)).toNatClampNeg)]) (rest := []) (r1 := (some (.int v44))) (b := 113) dX4_sort_128 ok_X4_isAhead in_X4_isAhead se_X4_isAhead ml_X4_98 hD41 rfl rfl (Nat.le_of_ble_eq_true rfl) (sk_113 hs) (sn hs (by decide)) (by decide) rfl (by decide +kernel) hC42 ?_
    refine E_if_eq 156 dX4_sort_131 (by decide) (fun c => ?_) (fun c => ?_)
    · rw [if_pos c] at h
      exact E_lv [0, 1, 2, 3, 4, 5, 6, 7] rfl (w_X4_sort_156 hs43 h)
    · rw [if_neg c] at h
      refine E_aload_n 0 dX4_sort_134 rfl rfl ?_
      refine E_getR 115 dX4_sort_135 fl_X4_22 rfl (sk_113 hs43) (sn hs43 (by decide)) (sr_113_5 hs43) ?_
      refine E_iload 7 dX4_sort_138 rfl ?_
      refine E_aload_n 0 dX4_sort_140 rfl rfl ?_
      refine E_getR 115 dX4_sort_141 fl_X4_22 rfl (sk_113 hs43) (sn hs43 (by decide)) (sr_113_5 hs43) ?_
      refine E_iload 7 dX4_sort_144 rfl ?_
      refine E_iconst (1 : Int32) dX4_sort_146 (by decide) ?_
      refine E_isub dX4_sort_147 ?_
      obtain ⟨g45, h⟩ := h
      refine E_iald2 ((x7 - (1 : Int32)).toNatClampNeg) dX4_sort_148 (sk_115 hs43) (sn hs43 (by decide)) g45 rfl ?_
      obtain ⟨g46, h⟩ := h
      refine E_iast2 (x7.toNatClampNeg) dX4_sort_149 (sk_115 hs43) (sn hs43 (by decide)) (Or.inl (by decide)) g46 rfl ?_
      refine E_iinc 7 (x7 + (-1)) [(7, .int (x7 + (-1))), (0, .ref 113), (1, .int x1), (2, .int x2), (3, .int x3), (4, .int x4), (5, .int x5), (6, .int x6)] dX4_sort_150 rfl (congrArg (x7 + ·) (by decide : Int32.ofInt (-1) = -1)) (by decide) rfl ?_
      refine E_goto 109 dX4_sort_153 (by decide) ?_
      exact E_lv [1, 2, 3, 4, 5, 6, 7, 0] rfl h
def W_X4_isAhead_0 (X : Sx) (l : Launch) (D : Nat) (x1 : Int32) (x2 : Int32) (σ : AH) (r : Option Value) (σ' : AH) : Prop := vp_in x1 60 ∧ vp_in x2 60 ∧ (if (gL σ 117 x1.toNatClampNeg) = (gL σ 117 x2.toNatClampNeg) then ∃ d3 : Nat, ∃ v8 : Int32, ∃ σ4 : AH, d3 + 1 ≤ D ∧ Call X l m_X8_at d3 [.ref 13, .int x1, .int (1 : Int32)] σ (some (.int v8)) σ4 ∧ ∃ d9 : Nat, ∃ v14 : Int32, ∃ σ10 : AH, d9 + 1 ≤ D ∧ Call X l m_X8_at d9 [.ref 13, .int x2, .int (1 : Int32)] σ4 (some (.int v14)) σ10 ∧ (if v8 = v14 then (if x2 ≤ x1 then (r = some (.int (0 : Int32)) ∧ σ' = σ10) else (r = some (.int (1 : Int32)) ∧ σ' = σ10)) else (if v14 ≤ v8 then (r = some (.int (0 : Int32)) ∧ σ' = σ10) else (r = some (.int (1 : Int32)) ∧ σ' = σ10))) else vp_in x1 60 ∧ vp_in x2 60 ∧ (if (gL σ 117 x1.toNatClampNeg) ≤ (gL σ 117 x2.toNatClampNeg) then (r = some (.int (0 : Int32)) ∧ σ' = σ) else (r = some (.int (1 : Int32)) ∧ σ' = σ)))
set_option maxRecDepth 100000 in
theorem w_X4_isAhead_0 {X : Sx} {l : Launch} {D : Nat} {x1 : Int32} {x2 : Int32} {σ : AH} {r : Option Value} {σ' : AH} (hs : Sh σ) (h : W_X4_isAhead_0 X l D x1 x2 σ r σ') : E X l m_X4_isAhead D 0 [(0, .ref 113), (1, .int x1), (2, .int x2)] [] σ r σ' := by
  unfold W_X4_isAhead_0 at h
  refine E_aload_n 0 dX4_isAhead_0 rfl rfl ?_
  refine E_getR 117 dX4_isAhead_1 fl_X4_28 rfl (sk_113 hs) (sn hs (by decide)) (sr_113_7 hs) ?_
  refine E_iload_n 1 dX4_isAhead_4 rfl rfl ?_
  obtain ⟨g1, h⟩ := h
  refine E_lald2 (x1.toNatClampNeg) dX4_isAhead_5 (sk_117 hs) (sn hs (by decide)) g1 rfl ?_
  refine E_aload_n 0 dX4_isAhead_6 rfl rfl ?_
  refine E_getR 117 dX4_isAhead_7 fl_X4_28 rfl (sk_113 hs) (sn hs (by decide)) (sr_113_7 hs) ?_
  refine E_iload_n 2 dX4_isAhead_10 rfl rfl ?_
  obtain ⟨g2, h⟩ := h
  refine E_lald2 (x2.toNatClampNeg) dX4_isAhead_11 (sk_117 hs) (sn hs (by decide)) g2 rfl ?_
  refine E_lcmp dX4_isAhead_12 ?_
  refine E_if_eq 38 dX4_isAhead_13 (by decide) (fun c => ?_) (fun c => ?_)
  · rw [if_pos ((lc_eq _ _).mp c)] at h
    refine E_aload_n 0 dX4_isAhead_38 rfl rfl ?_
    refine E_getR 1 dX4_isAhead_39 fl_X4_35 rfl (sk_113 hs) (sn hs (by decide)) (sr_113_0 hs) ?_
    refine E_getR 13 dX4_isAhead_42 fl_X4_43 rfl (sk_1 hs) (sn hs (by decide)) (sr_1_7 hs) ?_
    refine E_iload_n 1 dX4_isAhead_45 rfl rfl ?_
    refine E_iconst (1 : Int32) dX4_isAhead_46 (by decide) ?_
    obtain ⟨d3, v8, σ4, hD5, hC6, h⟩ := h
    have hs7 := hC6.1.2.2.2.1 hs
    refine E_callV (As := [.int x1, .int (1 : Int32)]) (rest := []) (r1 := (some (.int v8))) (b := 13) dX4_isAhead_47 ok_X8_at in_X8_at se_X8_at ml_X4_55 hD5 rfl rfl (Nat.le_of_ble_eq_true rfl) (sk_13 hs) (sn hs (by decide)) (by decide) rfl (by decide +kernel) hC6 ?_
    refine E_istore_n [(3, .int v8), (0, .ref 113), (1, .int x1), (2, .int x2)] dX4_isAhead_50 rfl (by decide) rfl ?_
    refine E_aload_n 1 dX4_isAhead_51 rfl rfl ?_
    refine E_getR 1 dX4_isAhead_52 fl_X4_35 rfl (sk_113 hs7) (sn hs7 (by decide)) (sr_113_0 hs7) ?_
    refine E_getR 13 dX4_isAhead_55 fl_X4_43 rfl (sk_1 hs7) (sn hs7 (by decide)) (sr_1_7 hs7) ?_
    refine E_iload_n 3 dX4_isAhead_58 rfl rfl ?_
    refine E_iconst (1 : Int32) dX4_isAhead_59 (by decide) ?_
    obtain ⟨d9, v14, σ10, hD11, hC12, h⟩ := h
    have hs13 := hC12.1.2.2.2.1 hs7
    refine E_callV (As := [.int x2, .int (1 : Int32)]) (rest := []) (r1 := (some (.int v14))) (b := 13) dX4_isAhead_60 ok_X8_at in_X8_at se_X8_at ml_X4_55 hD11 rfl rfl (Nat.le_of_ble_eq_true rfl) (sk_13 hs7) (sn hs7 (by decide)) (by decide) rfl (by decide +kernel) hC12 ?_
    refine E_istore [(4, .int v14), (3, .int v8), (0, .ref 113), (1, .int x1), (2, .int x2)] dX4_isAhead_63 (by decide) rfl ?_
    refine E_iload_n 1 dX4_isAhead_65 rfl rfl ?_
    refine E_iload 0 dX4_isAhead_66 rfl ?_
    refine E_icmp_eq 85 dX4_isAhead_68 (by decide) (fun c => ?_) (fun c => ?_)
    · rw [if_pos c] at h
      refine E_iload_n 3 dX4_isAhead_85 rfl rfl ?_
      refine E_iload_n 4 dX4_isAhead_86 rfl rfl ?_
      refine E_icmp_ge 94 dX4_isAhead_87 (by decide) (fun c => ?_) (fun c => ?_)
      · rw [if_pos c] at h
        refine E_iconst (0 : Int32) dX4_isAhead_94 (by decide) ?_
        obtain ⟨rfl, rfl⟩ := h
        exact E_zret dX4_isAhead_95 rfl (Or.inl rfl)
      · rw [if_neg c] at h
        refine E_iconst (1 : Int32) dX4_isAhead_90 (by decide) ?_
        refine E_goto 95 dX4_isAhead_91 (by decide) ?_
        obtain ⟨rfl, rfl⟩ := h
        exact E_zret dX4_isAhead_95 rfl (Or.inr rfl)
    · rw [if_neg c] at h
      refine E_iload_n 1 dX4_isAhead_71 rfl rfl ?_
      refine E_iload 0 dX4_isAhead_72 rfl ?_
      refine E_icmp_ge 81 dX4_isAhead_74 (by decide) (fun c => ?_) (fun c => ?_)
      · rw [if_pos c] at h
        refine E_iconst (0 : Int32) dX4_isAhead_81 (by decide) ?_
        refine E_goto 95 dX4_isAhead_82 (by decide) ?_
        obtain ⟨rfl, rfl⟩ := h
        exact E_zret dX4_isAhead_95 rfl (Or.inl rfl)
      · rw [if_neg c] at h
        refine E_iconst (1 : Int32) dX4_isAhead_77 (by decide) ?_
        refine E_goto 95 dX4_isAhead_78 (by decide) ?_
        obtain ⟨rfl, rfl⟩ := h
        exact E_zret dX4_isAhead_95 rfl (Or.inr rfl)
  · rw [if_neg (fun q => c ((lc_eq _ _).mpr q))] at h
    refine E_aload_n 0 dX4_isAhead_16 rfl rfl ?_
    refine E_getR 117 dX4_isAhead_17 fl_X4_28 rfl (sk_113 hs) (sn hs (by decide)) (sr_113_7 hs) ?_
    refine E_iload_n 1 dX4_isAhead_20 rfl rfl ?_
    obtain ⟨g15, h⟩ := h
    refine E_lald2 (x1.toNatClampNeg) dX4_isAhead_21 (sk_117 hs) (sn hs (by decide)) g15 rfl ?_
    refine E_aload_n 0 dX4_isAhead_22 rfl rfl ?_
    refine E_getR 117 dX4_isAhead_23 fl_X4_28 rfl (sk_113 hs) (sn hs (by decide)) (sr_113_7 hs) ?_
    refine E_iload_n 2 dX4_isAhead_26 rfl rfl ?_
    obtain ⟨g16, h⟩ := h
    refine E_lald2 (x2.toNatClampNeg) dX4_isAhead_27 (sk_117 hs) (sn hs (by decide)) g16 rfl ?_
    refine E_lcmp dX4_isAhead_28 ?_
    refine E_if_le 36 dX4_isAhead_29 (by decide) (fun c => ?_) (fun c => ?_)
    · rw [if_pos ((lc_le _ _).mp c)] at h
      refine E_iconst (0 : Int32) dX4_isAhead_36 (by decide) ?_
      obtain ⟨rfl, rfl⟩ := h
      exact E_zret dX4_isAhead_37 rfl (Or.inl rfl)
    · rw [if_neg (fun q => c ((lc_le _ _).mpr q))] at h
      refine E_iconst (1 : Int32) dX4_isAhead_32 (by decide) ?_
      refine E_goto 37 dX4_isAhead_33 (by decide) ?_
      obtain ⟨rfl, rfl⟩ := h
      exact E_zret dX4_isAhead_37 rfl (Or.inr rfl)
def W_X4_turned_0 (X : Sx) (l : Launch) (D : Nat) (x1 : Int32) (x2 : Int32) (x3 : Int32) (x4 : Int32) (σ : AH) (r : Option Value) (σ' : AH) : Prop := ∃ d1 : Nat, ∃ σ2 : AH, d1 + 1 ≤ D ∧ Call X l m_X4_sort d1 [.ref 113, .int x1, .int x2, .int x3] σ none σ2 ∧ 1 ≤ D ∧ (∀ τ7 : AH, τ7 = (sA σ2 118 (filln (gI σ2 118) 60 (-1 : Int32))) → E X l m_X4_turned D 24 [(0, .ref 113), (1, .int x1), (2, .int x2), (4, .int x4), (5, .int (x1 * (60 : Int32))), (6, .int (0 : Int32))] [] τ7 r σ')
set_option maxRecDepth 100000 in
theorem w_X4_turned_0 {X : Sx} {l : Launch} {D : Nat} {x1 : Int32} {x2 : Int32} {x3 : Int32} {x4 : Int32} {σ : AH} {r : Option Value} {σ' : AH} (hs : Sh σ) (h : W_X4_turned_0 X l D x1 x2 x3 x4 σ r σ') : E X l m_X4_turned D 0 [(0, .ref 113), (1, .int x1), (2, .int x2), (3, .int x3), (4, .int x4)] [] σ r σ' := by
  unfold W_X4_turned_0 at h
  refine E_iload_n 1 dX4_turned_0 rfl rfl ?_
  refine E_bipush (60 : Int32) dX4_turned_1 (by decide) ?_
  refine E_imul dX4_turned_3 ?_
  refine E_istore [(5, .int (x1 * (60 : Int32))), (0, .ref 113), (1, .int x1), (2, .int x2), (3, .int x3), (4, .int x4)] dX4_turned_4 (by decide) rfl ?_
  refine E_aload_n 1 dX4_turned_6 rfl rfl ?_
  refine E_iload_n 2 dX4_turned_7 rfl rfl ?_
  refine E_iload_n 3 dX4_turned_8 rfl rfl ?_
  refine E_iload_n 4 dX4_turned_9 rfl rfl ?_
  obtain ⟨d1, σ2, hD3, hC4, h⟩ := h
  have hs5 := hC4.1.2.2.2.1 hs
  refine E_callV (As := [.int x1, .int x2, .int x3]) (rest := []) (r1 := none) (b := 113) dX4_turned_10 ok_X4_sort in_X4_sort se_X4_sort ml_X4_88 hD3 rfl rfl (Nat.le_of_ble_eq_true rfl) (sk_113 hs) (sn hs (by decide)) (by decide) rfl (by decide +kernel) hC4 ?_
  refine E_aload_n 1 dX4_turned_13 rfl rfl ?_
  refine E_getR 118 dX4_turned_14 fl_X4_32 rfl (sk_113 hs5) (sn hs5 (by decide)) (sr_113_8 hs5) ?_
  refine E_iconst (-1 : Int32) dX4_turned_17 (by decide) ?_
  obtain ⟨g6, h⟩ := h
  refine E_fill dX4_turned_18 ml_X4_101 (sk_118 hs5) (sn hs5 (by decide)) (Or.inl (by decide)) g6 (by decide) (Nat.le_of_ble_eq_true rfl) ?_
  obtain ⟨τ7, e8⟩ : ∃ τ : AH, τ = (sA σ2 118 (filln (gI σ2 118) 60 (-1 : Int32))) := ⟨_, rfl⟩
  replace h := h τ7 e8
  rw [← e8]
  have hs9 : Sh τ7 := by rw [e8]; exact hs5
  refine E_iconst (0 : Int32) dX4_turned_21 (by decide) ?_
  refine E_istore [(6, .int (0 : Int32)), (5, .int (x1 * (60 : Int32))), (0, .ref 113), (1, .int x1), (2, .int x2), (3, .int x3), (4, .int x4)] dX4_turned_22 (by decide) rfl ?_
  exact E_lv [2, 3, 4, 6, 1, 0] rfl h
def W_X4_turned_24 (X : Sx) (l : Launch) (D : Nat) (x1 : Int32) (x2 : Int32) (x4 : Int32) (x5 : Int32) (x6 : Int32) (σ : AH) (r : Option Value) (σ' : AH) : Prop := vp_in x1 6 ∧ (if (gI σ 116 x1.toNatClampNeg) ≤ x6 then ∃ d11 : Nat, ∃ σ12 : AH, d11 + 1 ≤ D ∧ Call X l m_X4_sort d11 [.ref 113, .int x1, .int x2, .int x4] σ none σ12 ∧ E X l m_X4_turned D 72 [(0, .ref 113), (1, .int x1), (5, .int x5), (6, .int (0 : Int32)), (7, .int (0 : Int32))] [] σ12 r σ' else vp_in (x5 + x6) 360 ∧ vp_in (gI σ 115 (x5 + x6).toNatClampNeg) 60 ∧ E X l m_X4_turned D 24 [(0, .ref 113), (1, .int x1), (2, .int x2), (4, .int x4), (5, .int x5), (6, .int (x6 + 1))] [] (sI σ 118 ((gI σ 115 (x5 + x6).toNatClampNeg).toNatClampNeg) x6) r σ')
set_option maxRecDepth 100000 in
theorem w_X4_turned_24 {X : Sx} {l : Launch} {D : Nat} {x1 : Int32} {x2 : Int32} {x4 : Int32} {x5 : Int32} {x6 : Int32} {σ : AH} {r : Option Value} {σ' : AH} (hs : Sh σ) (h : W_X4_turned_24 X l D x1 x2 x4 x5 x6 σ r σ') : E X l m_X4_turned D 24 [(0, .ref 113), (1, .int x1), (2, .int x2), (4, .int x4), (5, .int x5), (6, .int x6)] [] σ r σ' := by
  unfold W_X4_turned_24 at h
  refine E_iload 5 dX4_turned_24 rfl ?_
  refine E_aload_n 0 dX4_turned_26 rfl rfl ?_
  refine E_getR 116 dX4_turned_27 fl_X4_25 rfl (sk_113 hs) (sn hs (by decide)) (sr_113_6 hs) ?_
  refine E_iload_n 1 dX4_turned_30 rfl rfl ?_
  obtain ⟨g10, h⟩ := h
  refine E_iald2 (x1.toNatClampNeg) dX4_turned_31 (sk_116 hs) (sn hs (by decide)) g10 rfl ?_
  refine E_icmp_ge 58 dX4_turned_32 (by decide) (fun c => ?_) (fun c => ?_)
  · rw [if_pos c] at h
    refine E_aload_n 0 dX4_turned_58 rfl rfl ?_
    refine E_iload_n 1 dX4_turned_59 rfl rfl ?_
    refine E_iload_n 2 dX4_turned_60 rfl rfl ?_
    refine E_iload 3 dX4_turned_61 rfl ?_
    obtain ⟨d11, σ12, hD13, hC14, h⟩ := h
    have hs15 := hC14.1.2.2.2.1 hs
    refine E_callV (As := [.int x1, .int x2, .int x4]) (rest := []) (r1 := none) (b := 113) dX4_turned_63 ok_X4_sort in_X4_sort se_X4_sort ml_X4_88 hD13 rfl rfl (Nat.le_of_ble_eq_true rfl) (sk_113 hs) (sn hs (by decide)) (by decide) rfl (by decide +kernel) hC14 ?_
    refine E_iconst (0 : Int32) dX4_turned_66 (by decide) ?_
    refine E_istore [(6, .int (0 : Int32)), (0, .ref 113), (1, .int x1), (2, .int x2), (4, .int x4), (5, .int x5)] dX4_turned_67 (by decide) rfl ?_
    refine E_iconst (0 : Int32) dX4_turned_69 (by decide) ?_
    refine E_istore [(7, .int (0 : Int32)), (6, .int (0 : Int32)), (0, .ref 113), (1, .int x1), (2, .int x2), (4, .int x4), (5, .int x5)] dX4_turned_70 (by decide) rfl ?_
    exact E_lv [2, 3, 6, 1, 0] rfl h
  · rw [if_neg c] at h
    refine E_aload_n 0 dX4_turned_35 rfl rfl ?_
    refine E_getR 118 dX4_turned_36 fl_X4_32 rfl (sk_113 hs) (sn hs (by decide)) (sr_113_8 hs) ?_
    refine E_aload_n 0 dX4_turned_39 rfl rfl ?_
    refine E_getR 115 dX4_turned_40 fl_X4_22 rfl (sk_113 hs) (sn hs (by decide)) (sr_113_5 hs) ?_
    refine E_iload 4 dX4_turned_43 rfl ?_
    refine E_iload 5 dX4_turned_45 rfl ?_
    refine E_iadd dX4_turned_47 ?_
    obtain ⟨g16, h⟩ := h
    refine E_iald2 ((x5 + x6).toNatClampNeg) dX4_turned_48 (sk_115 hs) (sn hs (by decide)) g16 rfl ?_
    refine E_iload 5 dX4_turned_49 rfl ?_
    obtain ⟨g17, h⟩ := h
    refine E_iast2 ((gI σ 115 (x5 + x6).toNatClampNeg).toNatClampNeg) dX4_turned_51 (sk_118 hs) (sn hs (by decide)) (Or.inl (by decide)) g17 rfl ?_
    refine E_iinc 5 (x6 + 1) [(6, .int (x6 + 1)), (0, .ref 113), (1, .int x1), (2, .int x2), (4, .int x4), (5, .int x5)] dX4_turned_52 rfl (congrArg (x6 + ·) (by decide : Int32.ofInt 1 = 1)) (by decide) rfl ?_
    refine E_goto 24 dX4_turned_55 (by decide) ?_
    exact E_lv [1, 2, 3, 4, 5, 0] rfl h
def W_X4_turned_72 (X : Sx) (l : Launch) (D : Nat) (x1 : Int32) (x5 : Int32) (x6 : Int32) (x7 : Int32) (σ : AH) (r : Option Value) (σ' : AH) : Prop := vp_in x1 6 ∧ (if (gI σ 116 x1.toNatClampNeg) ≤ x7 then (r = some (.int x6) ∧ σ' = σ) else vp_in (x5 + x7) 360 ∧ vp_in (gI σ 115 (x5 + x7).toNatClampNeg) 60 ∧ E X l m_X4_turned D 103 [(0, .ref 113), (1, .int x1), (5, .int x5), (6, .int x6), (7, .int x7), (8, .int (gI σ 118 (gI σ 115 (x5 + x7).toNatClampNeg).toNatClampNeg)), (9, .int (0 : Int32))] [] σ r σ')
set_option maxRecDepth 100000 in
theorem w_X4_turned_72 {X : Sx} {l : Launch} {D : Nat} {x1 : Int32} {x5 : Int32} {x6 : Int32} {x7 : Int32} {σ : AH} {r : Option Value} {σ' : AH} (hs : Sh σ) (h : W_X4_turned_72 X l D x1 x5 x6 x7 σ r σ') : E X l m_X4_turned D 72 [(0, .ref 113), (1, .int x1), (5, .int x5), (6, .int x6), (7, .int x7)] [] σ r σ' := by
  unfold W_X4_turned_72 at h
  refine E_iload 4 dX4_turned_72 rfl ?_
  refine E_aload_n 0 dX4_turned_74 rfl rfl ?_
  refine E_getR 116 dX4_turned_75 fl_X4_25 rfl (sk_113 hs) (sn hs (by decide)) (sr_113_6 hs) ?_
  refine E_iload_n 1 dX4_turned_78 rfl rfl ?_
  obtain ⟨g18, h⟩ := h
  refine E_iald2 (x1.toNatClampNeg) dX4_turned_79 (sk_116 hs) (sn hs (by decide)) g18 rfl ?_
  refine E_icmp_ge 151 dX4_turned_80 (by decide) (fun c => ?_) (fun c => ?_)
  · rw [if_pos c] at h
    refine E_iload 3 dX4_turned_151 rfl ?_
    obtain ⟨rfl, rfl⟩ := h
    exact E_iret dX4_turned_153 rfl
  · rw [if_neg c] at h
    refine E_aload_n 0 dX4_turned_83 rfl rfl ?_
    refine E_getR 118 dX4_turned_84 fl_X4_32 rfl (sk_113 hs) (sn hs (by decide)) (sr_113_8 hs) ?_
    refine E_aload_n 0 dX4_turned_87 rfl rfl ?_
    refine E_getR 115 dX4_turned_88 fl_X4_22 rfl (sk_113 hs) (sn hs (by decide)) (sr_113_5 hs) ?_
    refine E_iload 2 dX4_turned_91 rfl ?_
    refine E_iload 4 dX4_turned_93 rfl ?_
    refine E_iadd dX4_turned_95 ?_
    obtain ⟨g19, h⟩ := h
    refine E_iald2 ((x5 + x7).toNatClampNeg) dX4_turned_96 (sk_115 hs) (sn hs (by decide)) g19 rfl ?_
    obtain ⟨g20, h⟩ := h
    refine E_iald2 ((gI σ 115 (x5 + x7).toNatClampNeg).toNatClampNeg) dX4_turned_97 (sk_118 hs) (sn hs (by decide)) g20 rfl ?_
    refine E_istore [(8, .int (gI σ 118 (gI σ 115 (x5 + x7).toNatClampNeg).toNatClampNeg)), (0, .ref 113), (1, .int x1), (5, .int x5), (6, .int x6), (7, .int x7)] dX4_turned_98 (by decide) rfl ?_
    refine E_iconst (0 : Int32) dX4_turned_100 (by decide) ?_
    refine E_istore [(9, .int (0 : Int32)), (8, .int (gI σ 118 (gI σ 115 (x5 + x7).toNatClampNeg).toNatClampNeg)), (0, .ref 113), (1, .int x1), (5, .int x5), (6, .int x6), (7, .int x7)] dX4_turned_101 (by decide) rfl ?_
    exact E_lv [2, 3, 4, 5, 6, 1, 0] rfl h
def W_X4_turned_139 (X : Sx) (l : Launch) (D : Nat) (x1 : Int32) (x5 : Int32) (x6 : Int32) (x7 : Int32) (x8 : Int32) (x9 : Int32) (σ : AH) (r : Option Value) (σ' : AH) : Prop := E X l m_X4_turned D 103 [(0, .ref 113), (1, .int x1), (5, .int x5), (6, .int x6), (7, .int x7), (8, .int x8), (9, .int (x9 + 1))] [] σ r σ'
set_option maxRecDepth 100000 in
theorem w_X4_turned_139 {X : Sx} {l : Launch} {D : Nat} {x1 : Int32} {x5 : Int32} {x6 : Int32} {x7 : Int32} {x8 : Int32} {x9 : Int32} {σ : AH} {r : Option Value} {σ' : AH} (hs : Sh σ) (h : W_X4_turned_139 X l D x1 x5 x6 x7 x8 x9 σ r σ') : E X l m_X4_turned D 139 [(0, .ref 113), (1, .int x1), (5, .int x5), (6, .int x6), (7, .int x7), (8, .int x8), (9, .int x9)] [] σ r σ' := by
  unfold W_X4_turned_139 at h
  refine E_iinc 6 (x9 + 1) [(9, .int (x9 + 1)), (0, .ref 113), (1, .int x1), (5, .int x5), (6, .int x6), (7, .int x7), (8, .int x8)] dX4_turned_139 rfl (congrArg (x9 + ·) (by decide : Int32.ofInt 1 = 1)) (by decide) rfl ?_
  refine E_goto 103 dX4_turned_142 (by decide) ?_
  exact E_lv [1, 2, 3, 4, 5, 6, 0] rfl h
def W_X4_turned_145 (X : Sx) (l : Launch) (D : Nat) (x1 : Int32) (x5 : Int32) (x6 : Int32) (x7 : Int32) (σ : AH) (r : Option Value) (σ' : AH) : Prop := E X l m_X4_turned D 72 [(0, .ref 113), (1, .int x1), (5, .int x5), (6, .int x6), (7, .int (x7 + 1))] [] σ r σ'
set_option maxRecDepth 100000 in
theorem w_X4_turned_145 {X : Sx} {l : Launch} {D : Nat} {x1 : Int32} {x5 : Int32} {x6 : Int32} {x7 : Int32} {σ : AH} {r : Option Value} {σ' : AH} (hs : Sh σ) (h : W_X4_turned_145 X l D x1 x5 x6 x7 σ r σ') : E X l m_X4_turned D 145 [(0, .ref 113), (1, .int x1), (5, .int x5), (6, .int x6), (7, .int x7)] [] σ r σ' := by
  unfold W_X4_turned_145 at h
  refine E_iinc 4 (x7 + 1) [(7, .int (x7 + 1)), (0, .ref 113), (1, .int x1), (5, .int x5), (6, .int x6)] dX4_turned_145 rfl (congrArg (x7 + ·) (by decide : Int32.ofInt 1 = 1)) (by decide) rfl ?_
  refine E_goto 72 dX4_turned_148 (by decide) ?_
  exact E_lv [1, 2, 3, 4, 0] rfl h
def W_X4_turned_103 (X : Sx) (l : Launch) (D : Nat) (x1 : Int32) (x5 : Int32) (x6 : Int32) (x7 : Int32) (x8 : Int32) (x9 : Int32) (σ : AH) (r : Option Value) (σ' : AH) : Prop := (if x7 ≤ x9 then W_X4_turned_145 X l D x1 x5 x6 x7 σ r σ' else (if x8 = (-1 : Int32) then W_X4_turned_145 X l D x1 x5 x6 x7 σ r σ' else vp_in (x5 + x9) 360 ∧ vp_in (gI σ 115 (x5 + x9).toNatClampNeg) 60 ∧ (if (gI σ 118 (gI σ 115 (x5 + x9).toNatClampNeg).toNatClampNeg) ≤ x8 then W_X4_turned_139 X l D x1 x5 x6 x7 x8 x9 σ r σ' else W_X4_turned_139 X l D x1 x5 (x6 + 1) x7 x8 x9 σ r σ')))
set_option maxRecDepth 100000 in
theorem w_X4_turned_103 {X : Sx} {l : Launch} {D : Nat} {x1 : Int32} {x5 : Int32} {x6 : Int32} {x7 : Int32} {x8 : Int32} {x9 : Int32} {σ : AH} {r : Option Value} {σ' : AH} (hs : Sh σ) (h : W_X4_turned_103 X l D x1 x5 x6 x7 x8 x9 σ r σ') : E X l m_X4_turned D 103 [(0, .ref 113), (1, .int x1), (5, .int x5), (6, .int x6), (7, .int x7), (8, .int x8), (9, .int x9)] [] σ r σ' := by
  unfold W_X4_turned_103 at h
  refine E_iload 6 dX4_turned_103 rfl ?_
  refine E_iload 4 dX4_turned_105 rfl ?_
  refine E_icmp_ge 145 dX4_turned_107 (by decide) (fun c => ?_) (fun c => ?_)
  · rw [if_pos c] at h
    exact E_lv [0, 1, 2, 3, 4] rfl (w_X4_turned_145 hs h)
  · rw [if_neg c] at h
    refine E_iload 5 dX4_turned_110 rfl ?_
    refine E_iconst (-1 : Int32) dX4_turned_112 (by decide) ?_
    refine E_icmp_eq 145 dX4_turned_113 (by decide) (fun c => ?_) (fun c => ?_)
    · rw [if_pos c] at h
      exact E_lv [0, 1, 2, 3, 4] rfl (w_X4_turned_145 hs h)
    · rw [if_neg c] at h
      refine E_aload_n 0 dX4_turned_116 rfl rfl ?_
      refine E_getR 118 dX4_turned_117 fl_X4_32 rfl (sk_113 hs) (sn hs (by decide)) (sr_113_8 hs) ?_
      refine E_aload_n 0 dX4_turned_120 rfl rfl ?_
      refine E_getR 115 dX4_turned_121 fl_X4_22 rfl (sk_113 hs) (sn hs (by decide)) (sr_113_5 hs) ?_
      refine E_iload 2 dX4_turned_124 rfl ?_
      refine E_iload 6 dX4_turned_126 rfl ?_
      refine E_iadd dX4_turned_128 ?_
      obtain ⟨g21, h⟩ := h
      refine E_iald2 ((x5 + x9).toNatClampNeg) dX4_turned_129 (sk_115 hs) (sn hs (by decide)) g21 rfl ?_
      obtain ⟨g22, h⟩ := h
      refine E_iald2 ((gI σ 115 (x5 + x9).toNatClampNeg).toNatClampNeg) dX4_turned_130 (sk_118 hs) (sn hs (by decide)) g22 rfl ?_
      refine E_iload 5 dX4_turned_131 rfl ?_
      refine E_icmp_le 139 dX4_turned_133 (by decide) (fun c => ?_) (fun c => ?_)
      · rw [if_pos c] at h
        exact E_lv [0, 1, 2, 3, 4, 5, 6] rfl (w_X4_turned_139 hs h)
      · rw [if_neg c] at h
        refine E_iinc 3 (x6 + 1) [(6, .int (x6 + 1)), (0, .ref 113), (1, .int x1), (5, .int x5), (7, .int x7), (8, .int x8), (9, .int x9)] dX4_turned_136 rfl (congrArg (x6 + ·) (by decide : Int32.ofInt 1 = 1)) (by decide) rfl ?_
        exact E_lv [1, 2, 3, 0, 4, 5, 6] rfl (w_X4_turned_139 hs h)
def W_X5_init_0 (X : Sx) (l : Launch) (D : Nat) (x0 : Nat) (σ : AH) (r : Option Value) (σ' : AH) : Prop := kd σ x0 = (5, NO 5) ∧ x0 < nx σ ∧ 1 ≤ D ∧ (∀ τ1 : AH, τ1 = (aw σ 100 400) → al m_X5_init x0 ∧ (Sh τ1 → Sh (sR τ1 x0 0 (some (nx σ)))) ∧ (∀ τ10 : AH, τ10 = (sR τ1 x0 0 (some (nx σ))) → (∀ τ15 : AH, τ15 = (aw τ10 100 16) → al m_X5_init x0 ∧ (Sh τ15 → Sh (sR τ15 x0 3 (some (nx τ10)))) ∧ (∀ τ24 : AH, τ24 = (sR τ15 x0 3 (some (nx τ10))) → (∀ τ29 : AH, τ29 = (aw τ24 100 16) → al m_X5_init x0 ∧ (Sh τ29 → Sh (sR τ29 x0 4 (some (nx τ24)))) ∧ (∀ τ38 : AH, τ38 = (sR τ29 x0 4 (some (nx τ24))) → (∀ τ43 : AH, τ43 = (aw τ38 100 16) → al m_X5_init x0 ∧ (Sh τ43 → Sh (sR τ43 x0 5 (some (nx τ38)))) ∧ (∀ τ52 : AH, τ52 = (sR τ43 x0 5 (some (nx τ38))) → (∀ τ57 : AH, τ57 = (aw τ52 100 400) → al m_X5_init x0 ∧ (Sh τ57 → Sh (sR τ57 x0 6 (some (nx τ52)))) ∧ (∀ τ66 : AH, τ66 = (sR τ57 x0 6 (some (nx τ52))) → (r = none ∧ σ' = τ66)))))))))))
set_option maxRecDepth 100000 in
theorem w_X5_init_0 {X : Sx} {l : Launch} {D : Nat} {x0 : Nat} {σ : AH} {r : Option Value} {σ' : AH} (h : W_X5_init_0 X l D x0 σ r σ') : E X l m_X5_init D 0 [(0, .ref x0)] [] σ r σ' := by
  unfold W_X5_init_0 at h
  obtain ⟨hkx0, hbx0, h⟩ := h
  refine E_aload_n 0 dX5_init_0 rfl rfl ?_
  obtain ⟨g71, h⟩ := h
  refine E_objInit dX5_init_1 mo_X5_3 g71 (Nat.le_of_ble_eq_true rfl) ?_
  refine E_aload_n 0 dX5_init_4 rfl rfl ?_
  refine E_sipush (400 : Int32) dX5_init_5 (by decide) ?_
  refine E_newaI 400 dX5_init_8 ac_int (by decide) (by decide) (by decide) ?_
  obtain ⟨τ1, e2⟩ : ∃ τ : AH, τ = (aw σ 100 400) := ⟨_, rfl⟩
  replace h := h τ1 e2
  rw [← e2]
  have hk4 : kd _ x0 = (5, NO 5) := (congrFun (congrArg kd e2) _).trans ((up_ne _ _ _ (Nat.ne_of_lt hbx0)).trans hkx0)
  have hb5 := Nat.lt_of_lt_of_eq (Nat.lt_succ_of_lt hbx0) (congrArg nx e2).symm
  have hk6 : kd _ (nx σ) = (100, 400) := (congrFun (congrArg kd e2) _).trans (up_same _ _ _)
  have hb7 := Nat.lt_of_lt_of_eq (Nat.lt_succ_self _) (congrArg nx e2).symm
  obtain ⟨ga8, h⟩ := h
  obtain ⟨g9, h⟩ := h
  refine E_putR dX5_init_10 fl_X5_11 rfl (Or.inr ⟨rfl, rfl, rfl⟩) hk4 hb5 ga8 g9 ?_
  obtain ⟨τ10, e11⟩ : ∃ τ : AH, τ = (sR τ1 x0 0 (some (nx σ))) := ⟨_, rfl⟩
  replace h := h τ10 e11
  rw [← e11]
  have hk13 : kd _ x0 = (5, NO 5) := (congrFun (congrArg kd e11) _).trans hk4
  have hb14 := Nat.lt_of_lt_of_eq hb5 (congrArg nx e11).symm
  refine E_aload_n 0 dX5_init_13 rfl rfl ?_
  refine E_bipush (16 : Int32) dX5_init_14 (by decide) ?_
  refine E_newaI 16 dX5_init_16 ac_int (by decide) (by decide) (by decide) ?_
  obtain ⟨τ15, e16⟩ : ∃ τ : AH, τ = (aw τ10 100 16) := ⟨_, rfl⟩
  replace h := h τ15 e16
  rw [← e16]
  have hk18 : kd _ x0 = (5, NO 5) := (congrFun (congrArg kd e16) _).trans ((up_ne _ _ _ (Nat.ne_of_lt hb14)).trans hk13)
  have hb19 := Nat.lt_of_lt_of_eq (Nat.lt_succ_of_lt hb14) (congrArg nx e16).symm
  have hk20 : kd _ (nx τ10) = (100, 16) := (congrFun (congrArg kd e16) _).trans (up_same _ _ _)
  have hb21 := Nat.lt_of_lt_of_eq (Nat.lt_succ_self _) (congrArg nx e16).symm
  obtain ⟨ga22, h⟩ := h
  obtain ⟨g23, h⟩ := h
  refine E_putR dX5_init_18 fl_X5_15 rfl (Or.inr ⟨rfl, rfl, rfl⟩) hk18 hb19 ga22 g23 ?_
  obtain ⟨τ24, e25⟩ : ∃ τ : AH, τ = (sR τ15 x0 3 (some (nx τ10))) := ⟨_, rfl⟩
  replace h := h τ24 e25
  rw [← e25]
  have hk27 : kd _ x0 = (5, NO 5) := (congrFun (congrArg kd e25) _).trans hk18
  have hb28 := Nat.lt_of_lt_of_eq hb19 (congrArg nx e25).symm
  refine E_aload_n 0 dX5_init_21 rfl rfl ?_
  refine E_bipush (16 : Int32) dX5_init_22 (by decide) ?_
  refine E_newaI 16 dX5_init_24 ac_int (by decide) (by decide) (by decide) ?_
  obtain ⟨τ29, e30⟩ : ∃ τ : AH, τ = (aw τ24 100 16) := ⟨_, rfl⟩
  replace h := h τ29 e30
  rw [← e30]
  have hk32 : kd _ x0 = (5, NO 5) := (congrFun (congrArg kd e30) _).trans ((up_ne _ _ _ (Nat.ne_of_lt hb28)).trans hk27)
  have hb33 := Nat.lt_of_lt_of_eq (Nat.lt_succ_of_lt hb28) (congrArg nx e30).symm
  have hk34 : kd _ (nx τ24) = (100, 16) := (congrFun (congrArg kd e30) _).trans (up_same _ _ _)
  have hb35 := Nat.lt_of_lt_of_eq (Nat.lt_succ_self _) (congrArg nx e30).symm
  obtain ⟨ga36, h⟩ := h
  obtain ⟨g37, h⟩ := h
  refine E_putR dX5_init_26 fl_X5_18 rfl (Or.inr ⟨rfl, rfl, rfl⟩) hk32 hb33 ga36 g37 ?_
  obtain ⟨τ38, e39⟩ : ∃ τ : AH, τ = (sR τ29 x0 4 (some (nx τ24))) := ⟨_, rfl⟩
  replace h := h τ38 e39
  rw [← e39]
  have hk41 : kd _ x0 = (5, NO 5) := (congrFun (congrArg kd e39) _).trans hk32
  have hb42 := Nat.lt_of_lt_of_eq hb33 (congrArg nx e39).symm
  refine E_aload_n 0 dX5_init_29 rfl rfl ?_
  refine E_bipush (16 : Int32) dX5_init_30 (by decide) ?_
  refine E_newaI 16 dX5_init_32 ac_int (by decide) (by decide) (by decide) ?_
  obtain ⟨τ43, e44⟩ : ∃ τ : AH, τ = (aw τ38 100 16) := ⟨_, rfl⟩
  replace h := h τ43 e44
  rw [← e44]
  have hk46 : kd _ x0 = (5, NO 5) := (congrFun (congrArg kd e44) _).trans ((up_ne _ _ _ (Nat.ne_of_lt hb42)).trans hk41)
  have hb47 := Nat.lt_of_lt_of_eq (Nat.lt_succ_of_lt hb42) (congrArg nx e44).symm
  have hk48 : kd _ (nx τ38) = (100, 16) := (congrFun (congrArg kd e44) _).trans (up_same _ _ _)
  have hb49 := Nat.lt_of_lt_of_eq (Nat.lt_succ_self _) (congrArg nx e44).symm
  obtain ⟨ga50, h⟩ := h
  obtain ⟨g51, h⟩ := h
  refine E_putR dX5_init_34 fl_X5_21 rfl (Or.inr ⟨rfl, rfl, rfl⟩) hk46 hb47 ga50 g51 ?_
  obtain ⟨τ52, e53⟩ : ∃ τ : AH, τ = (sR τ43 x0 5 (some (nx τ38))) := ⟨_, rfl⟩
  replace h := h τ52 e53
  rw [← e53]
  have hk55 : kd _ x0 = (5, NO 5) := (congrFun (congrArg kd e53) _).trans hk46
  have hb56 := Nat.lt_of_lt_of_eq hb47 (congrArg nx e53).symm
  refine E_aload_n 0 dX5_init_37 rfl rfl ?_
  refine E_sipush (400 : Int32) dX5_init_38 (by decide) ?_
  refine E_newaI 400 dX5_init_41 ac_int (by decide) (by decide) (by decide) ?_
  obtain ⟨τ57, e58⟩ : ∃ τ : AH, τ = (aw τ52 100 400) := ⟨_, rfl⟩
  replace h := h τ57 e58
  rw [← e58]
  have hk60 : kd _ x0 = (5, NO 5) := (congrFun (congrArg kd e58) _).trans ((up_ne _ _ _ (Nat.ne_of_lt hb56)).trans hk55)
  have hb61 := Nat.lt_of_lt_of_eq (Nat.lt_succ_of_lt hb56) (congrArg nx e58).symm
  have hk62 : kd _ (nx τ52) = (100, 400) := (congrFun (congrArg kd e58) _).trans (up_same _ _ _)
  have hb63 := Nat.lt_of_lt_of_eq (Nat.lt_succ_self _) (congrArg nx e58).symm
  obtain ⟨ga64, h⟩ := h
  obtain ⟨g65, h⟩ := h
  refine E_putR dX5_init_43 fl_X5_24 rfl (Or.inr ⟨rfl, rfl, rfl⟩) hk60 hb61 ga64 g65 ?_
  obtain ⟨τ66, e67⟩ : ∃ τ : AH, τ = (sR τ57 x0 6 (some (nx τ52))) := ⟨_, rfl⟩
  replace h := h τ66 e67
  rw [← e67]
  have hk69 : kd _ x0 = (5, NO 5) := (congrFun (congrArg kd e67) _).trans hk60
  have hb70 := Nat.lt_of_lt_of_eq hb61 (congrArg nx e67).symm
  obtain ⟨rfl, rfl⟩ := h
  exact E_vret dX5_init_46 rfl
def W_X5_hasRoom_0 (X : Sx) (l : Launch) (D : Nat) (x1 : Int32) (σ : AH) (r : Option Value) (σ' : AH) : Prop := (if (400 : Int32) < ((gI σ 22 1) + x1) then (r = some (.int (0 : Int32)) ∧ σ' = σ) else (r = some (.int (1 : Int32)) ∧ σ' = σ))
set_option maxRecDepth 100000 in
theorem w_X5_hasRoom_0 {X : Sx} {l : Launch} {D : Nat} {x1 : Int32} {σ : AH} {r : Option Value} {σ' : AH} (hs : Sh σ) (h : W_X5_hasRoom_0 X l D x1 σ r σ') : E X l m_X5_hasRoom D 0 [(0, .ref 22), (1, .int x1)] [] σ r σ' := by
  unfold W_X5_hasRoom_0 at h
  refine E_aload_n 0 dX5_hasRoom_0 rfl rfl ?_
  refine E_getI dX5_hasRoom_1 fl_X5_27 rfl (sk_22 hs) (sn hs (by decide)) ?_
  refine E_iload_n 1 dX5_hasRoom_4 rfl rfl ?_
  refine E_iadd dX5_hasRoom_5 ?_
  refine E_sipush (400 : Int32) dX5_hasRoom_6 (by decide) ?_
  refine E_icmp_gt 16 dX5_hasRoom_9 (by decide) (fun c => ?_) (fun c => ?_)
  · rw [if_pos c] at h
    refine E_iconst (0 : Int32) dX5_hasRoom_16 (by decide) ?_
    obtain ⟨rfl, rfl⟩ := h
    exact E_zret dX5_hasRoom_17 rfl (Or.inl rfl)
  · rw [if_neg c] at h
    refine E_iconst (1 : Int32) dX5_hasRoom_12 (by decide) ?_
    refine E_goto 17 dX5_hasRoom_13 (by decide) ?_
    obtain ⟨rfl, rfl⟩ := h
    exact E_zret dX5_hasRoom_17 rfl (Or.inr rfl)
def W_X5_write_0 (X : Sx) (l : Launch) (D : Nat) (x1 : Int32) (σ : AH) (r : Option Value) (σ' : AH) : Prop := E X l m_X5_write D 3 [(0, .ref 22), (1, .int x1), (2, .int (24 : Int32))] [] σ r σ'
set_option maxRecDepth 100000 in
theorem w_X5_write_0 {X : Sx} {l : Launch} {D : Nat} {x1 : Int32} {σ : AH} {r : Option Value} {σ' : AH} (hs : Sh σ) (h : W_X5_write_0 X l D x1 σ r σ') : E X l m_X5_write D 0 [(0, .ref 22), (1, .int x1)] [] σ r σ' := by
  unfold W_X5_write_0 at h
  refine E_bipush (24 : Int32) dX5_write_0 (by decide) ?_
  refine E_istore_n [(2, .int (24 : Int32)), (0, .ref 22), (1, .int x1)] dX5_write_2 rfl (by decide) rfl ?_
  exact E_lv [1, 2, 0] rfl h
def W_X5_write_3 (X : Sx) (l : Launch) (D : Nat) (x1 : Int32) (x2 : Int32) (σ : AH) (r : Option Value) (σ' : AH) : Prop := (if x2 < 0 then (r = none ∧ σ' = σ) else (if (400 : Int32) ≤ (gI σ 22 1) then (r = none ∧ σ' = σ) else vp_in (gI σ 22 1) 400 ∧ (∀ τ2 : AH, τ2 = (sI (sI σ 23 ((gI σ 22 1).toNatClampNeg) ((x1 >>> (x2 &&& 31)) &&& (255 : Int32))) 22 1 ((gI (sI σ 23 ((gI σ 22 1).toNatClampNeg) ((x1 >>> (x2 &&& 31)) &&& (255 : Int32))) 22 1) + (1 : Int32))) → E X l m_X5_write D 3 [(0, .ref 22), (1, .int x1), (2, .int (x2 + (-8)))] [] τ2 r σ')))
set_option maxRecDepth 100000 in
theorem w_X5_write_3 {X : Sx} {l : Launch} {D : Nat} {x1 : Int32} {x2 : Int32} {σ : AH} {r : Option Value} {σ' : AH} (hs : Sh σ) (h : W_X5_write_3 X l D x1 x2 σ r σ') : E X l m_X5_write D 3 [(0, .ref 22), (1, .int x1), (2, .int x2)] [] σ r σ' := by
  unfold W_X5_write_3 at h
  refine E_iload_n 2 dX5_write_3 rfl rfl ?_
  refine E_if_lt 49 dX5_write_4 (by decide) (fun c => ?_) (fun c => ?_)
  · rw [if_pos c] at h
    obtain ⟨rfl, rfl⟩ := h
    exact E_vret dX5_write_49 rfl
  · rw [if_neg c] at h
    refine E_aload_n 0 dX5_write_7 rfl rfl ?_
    refine E_getI dX5_write_8 fl_X5_27 rfl (sk_22 hs) (sn hs (by decide)) ?_
    refine E_sipush (400 : Int32) dX5_write_11 (by decide) ?_
    refine E_icmp_ge 49 dX5_write_14 (by decide) (fun c => ?_) (fun c => ?_)
    · rw [if_pos c] at h
      obtain ⟨rfl, rfl⟩ := h
      exact E_vret dX5_write_49 rfl
    · rw [if_neg c] at h
      refine E_aload_n 0 dX5_write_17 rfl rfl ?_
      refine E_getR 23 dX5_write_18 fl_X5_11 rfl (sk_22 hs) (sn hs (by decide)) (sr_22_0 hs) ?_
      refine E_aload_n 0 dX5_write_21 rfl rfl ?_
      refine E_getI dX5_write_22 fl_X5_27 rfl (sk_22 hs) (sn hs (by decide)) ?_
      refine E_iload_n 1 dX5_write_25 rfl rfl ?_
      refine E_iload_n 2 dX5_write_26 rfl rfl ?_
      refine E_ishr dX5_write_27 ?_
      refine E_sipush (255 : Int32) dX5_write_28 (by decide) ?_
      refine E_iand dX5_write_31 ?_
      obtain ⟨g1, h⟩ := h
      refine E_iast2 ((gI σ 22 1).toNatClampNeg) dX5_write_32 (sk_23 hs) (sn hs (by decide)) (Or.inl (by decide)) g1 rfl ?_
      refine E_aload_n 0 dX5_write_33 rfl rfl ?_
      refine E_dup dX5_write_34 rfl ?_
      refine E_getI dX5_write_35 fl_X5_27 rfl (sk_22 hs) (sn hs (by decide)) ?_
      refine E_iconst (1 : Int32) dX5_write_38 (by decide) ?_
      refine E_iadd dX5_write_39 ?_
      refine E_putI dX5_write_40 fl_X5_27 rfl (Or.inl rfl) (sk_22 hs) (sn hs (by decide)) (Or.inl (by decide)) rfl rfl ?_
      obtain ⟨τ2, e3⟩ : ∃ τ : AH, τ = (sI (sI σ 23 ((gI σ 22 1).toNatClampNeg) ((x1 >>> (x2 &&& 31)) &&& (255 : Int32))) 22 1 ((gI (sI σ 23 ((gI σ 22 1).toNatClampNeg) ((x1 >>> (x2 &&& 31)) &&& (255 : Int32))) 22 1) + (1 : Int32))) := ⟨_, rfl⟩
      replace h := h τ2 e3
      rw [← e3]
      have hs4 : Sh τ2 := by rw [e3]; exact hs
      refine E_iinc 2 (x2 + (-8)) [(2, .int (x2 + (-8))), (0, .ref 22), (1, .int x1)] dX5_write_43 rfl (congrArg (x2 + ·) (by decide : Int32.ofInt (-8) = -8)) (by decide) rfl ?_
      refine E_goto 3 dX5_write_46 (by decide) ?_
      exact E_lv [1, 2, 0] rfl h
def W_X5_read_0 (X : Sx) (l : Launch) (D : Nat) (σ : AH) (r : Option Value) (σ' : AH) : Prop := ∃ d1 : Nat, ∃ σ2 : AH, d1 + 1 ≤ D ∧ Call X l m_X5_step d1 [.ref 22] (sI (sI (sI (sI σ 22 2 (0 : Int32)) 22 7 (0 : Int32)) 22 8 (0 : Int32)) 22 10 (0 : Int32)) none σ2 ∧ E X l m_X5_read D 24 [(0, .ref 22)] [] σ2 r σ'
set_option maxRecDepth 100000 in
theorem w_X5_read_0 {X : Sx} {l : Launch} {D : Nat} {σ : AH} {r : Option Value} {σ' : AH} (hs : Sh σ) (h : W_X5_read_0 X l D σ r σ') : E X l m_X5_read D 0 [(0, .ref 22)] [] σ r σ' := by
  unfold W_X5_read_0 at h
  refine E_aload_n 0 dX5_read_0 rfl rfl ?_
  refine E_iconst (0 : Int32) dX5_read_1 (by decide) ?_
  refine E_putI dX5_read_2 fl_X5_31 rfl (Or.inl rfl) (sk_22 hs) (sn hs (by decide)) (Or.inl (by decide)) rfl rfl ?_
  refine E_aload_n 0 dX5_read_5 rfl rfl ?_
  refine E_iconst (0 : Int32) dX5_read_6 (by decide) ?_
  refine E_putI dX5_read_7 fl_X5_34 rfl (Or.inl rfl) (sk_22 hs) (sn hs (by decide)) (Or.inl (by decide)) rfl rfl ?_
  refine E_aload_n 0 dX5_read_10 rfl rfl ?_
  refine E_iconst (0 : Int32) dX5_read_11 (by decide) ?_
  refine E_putI dX5_read_12 fl_X5_37 rfl (Or.inl rfl) (sk_22 hs) (sn hs (by decide)) (Or.inl (by decide)) rfl rfl ?_
  refine E_aload_n 0 dX5_read_15 rfl rfl ?_
  refine E_iconst (0 : Int32) dX5_read_16 (by decide) ?_
  refine E_putI dX5_read_17 fl_X5_40 rfl (Or.inl rfl) (sk_22 hs) (sn hs (by decide)) (Or.inl (by decide)) rfl rfl ?_
  refine E_aload_n 0 dX5_read_20 rfl rfl ?_
  obtain ⟨d1, σ2, hD3, hC4, h⟩ := h
  have hs5 := hC4.1.2.2.2.1 hs
  refine E_callV (As := []) (rest := []) (r1 := none) (b := 22) dX5_read_21 ok_X5_step in_X5_step se_X5_step ml_X5_43 hD3 rfl rfl (Nat.le_of_ble_eq_true rfl) (sk_22 hs) (sn hs (by decide)) (by decide) rfl (by decide +kernel) hC4 ?_
  exact E_lv [0] rfl h
def W_X5_read_73 (X : Sx) (l : Launch) (D : Nat) (σ : AH) (r : Option Value) (σ' : AH) : Prop := (r = some (.int (gI σ 22 9)) ∧ σ' = σ)
set_option maxRecDepth 100000 in
theorem w_X5_read_73 {X : Sx} {l : Launch} {D : Nat} {σ : AH} {r : Option Value} {σ' : AH} (hs : Sh σ) (h : W_X5_read_73 X l D σ r σ') : E X l m_X5_read D 73 [(0, .ref 22)] [] σ r σ' := by
  unfold W_X5_read_73 at h
  refine E_aload_n 0 dX5_read_73 rfl rfl ?_
  refine E_getI dX5_read_74 fl_X5_57 rfl (sk_22 hs) (sn hs (by decide)) ?_
  obtain ⟨rfl, rfl⟩ := h
  exact E_iret dX5_read_77 rfl
def W_X5_read_24 (X : Sx) (l : Launch) (D : Nat) (σ : AH) (r : Option Value) (σ' : AH) : Prop := (if (16 : Int32) ≤ (gI σ 22 2) then W_X5_read_73 X l D σ r σ' else ∃ d6 : Nat, ∃ v11 : Int32, ∃ σ7 : AH, d6 + 1 ≤ D ∧ Call X l m_X5_readClause d6 [.ref 22] σ (some (.int v11)) σ7 ∧ (if v11 = 0 then W_X5_read_73 X l D σ7 r σ' else (if (gI (sI σ7 22 2 ((gI σ7 22 2) + (1 : Int32))) 22 11) = 0 then (r = some (.int (-1 : Int32)) ∧ σ' = (sI σ7 22 2 ((gI σ7 22 2) + (1 : Int32)))) else ∃ d12 : Nat, ∃ v17 : Int32, ∃ σ13 : AH, d12 + 1 ≤ D ∧ Call X l m_X5_takeSign d12 [.ref 22, .int (59 : Int32)] (sI σ7 22 2 ((gI σ7 22 2) + (1 : Int32))) (some (.int v17)) σ13 ∧ (if v17 = 0 then (r = some (.int (gI σ13 22 9)) ∧ σ' = σ13) else E X l m_X5_read D 24 [(0, .ref 22)] [] σ13 r σ'))))
set_option maxRecDepth 100000 in
theorem w_X5_read_24 {X : Sx} {l : Launch} {D : Nat} {σ : AH} {r : Option Value} {σ' : AH} (hs : Sh σ) (h : W_X5_read_24 X l D σ r σ') : E X l m_X5_read D 24 [(0, .ref 22)] [] σ r σ' := by
  unfold W_X5_read_24 at h
  refine E_aload_n 0 dX5_read_24 rfl rfl ?_
  refine E_getI dX5_read_25 fl_X5_31 rfl (sk_22 hs) (sn hs (by decide)) ?_
  refine E_bipush (16 : Int32) dX5_read_28 (by decide) ?_
  refine E_icmp_ge 73 dX5_read_30 (by decide) (fun c => ?_) (fun c => ?_)
  · rw [if_pos c] at h
    exact E_lv [0] rfl (w_X5_read_73 hs h)
  · rw [if_neg c] at h
    refine E_aload_n 0 dX5_read_33 rfl rfl ?_
    obtain ⟨d6, v11, σ7, hD8, hC9, h⟩ := h
    have hs10 := hC9.1.2.2.2.1 hs
    refine E_callV (As := []) (rest := []) (r1 := (some (.int v11))) (b := 22) dX5_read_34 ok_X5_readClause in_X5_readClause se_X5_readClause ml_X5_46 hD8 rfl rfl (Nat.le_of_ble_eq_true rfl) (sk_22 hs) (sn hs (by decide)) (by decide) rfl (by decide +kernel) hC9 ?_
    refine E_if_eq 73 dX5_read_37 (by decide) (fun c => ?_) (fun c => ?_)
    · rw [if_pos c] at h
      exact E_lv [0] rfl (w_X5_read_73 hs10 h)
    · rw [if_neg c] at h
      refine E_aload_n 0 dX5_read_40 rfl rfl ?_
      refine E_dup dX5_read_41 rfl ?_
      refine E_getI dX5_read_42 fl_X5_31 rfl (sk_22 hs10) (sn hs10 (by decide)) ?_
      refine E_iconst (1 : Int32) dX5_read_45 (by decide) ?_
      refine E_iadd dX5_read_46 ?_
      refine E_putI dX5_read_47 fl_X5_31 rfl (Or.inl rfl) (sk_22 hs10) (sn hs10 (by decide)) (Or.inl (by decide)) rfl rfl ?_
      refine E_aload_n 0 dX5_read_50 rfl rfl ?_
      refine E_getI dX5_read_51 fl_X5_50 rfl (sk_22 hs10) (sn hs10 (by decide)) ?_
      refine E_if_ne 59 dX5_read_54 (by decide) (fun c => ?_) (fun c => ?_)
      · rw [if_neg c] at h
        refine E_aload_n 0 dX5_read_59 rfl rfl ?_
        refine E_bipush (59 : Int32) dX5_read_60 (by decide) ?_
        obtain ⟨d12, v17, σ13, hD14, hC15, h⟩ := h
        have hs16 := hC15.1.2.2.2.1 hs10
        refine E_callV (As := [.int (59 : Int32)]) (rest := []) (r1 := (some (.int v17))) (b := 22) dX5_read_62 ok_X5_takeSign in_X5_takeSign se_X5_takeSign ml_X5_53 hD14 rfl rfl (Nat.le_of_ble_eq_true rfl) (sk_22 hs10) (sn hs10 (by decide)) (by decide) rfl (by decide +kernel) hC15 ?_
        refine E_if_ne 24 dX5_read_65 (by decide) (fun c => ?_) (fun c => ?_)
        · rw [if_neg c] at h
          exact E_lv [0] rfl h
        · rw [if_pos c] at h
          refine E_aload_n 0 dX5_read_68 rfl rfl ?_
          refine E_getI dX5_read_69 fl_X5_57 rfl (sk_22 hs16) (sn hs16 (by decide)) ?_
          obtain ⟨rfl, rfl⟩ := h
          exact E_iret dX5_read_72 rfl
      · rw [if_pos c] at h
        refine E_iconst (-1 : Int32) dX5_read_57 (by decide) ?_
        obtain ⟨rfl, rfl⟩ := h
        exact E_iret dX5_read_58 rfl
def W_X5_step_0 (X : Sx) (l : Launch) (D : Nat) (σ : AH) (r : Option Value) (σ' : AH) : Prop := E X l m_X5_step D 5 [(0, .ref 22), (1, .int (gI σ 22 10))] [] σ r σ'
set_option maxRecDepth 100000 in
theorem w_X5_step_0 {X : Sx} {l : Launch} {D : Nat} {σ : AH} {r : Option Value} {σ' : AH} (hs : Sh σ) (h : W_X5_step_0 X l D σ r σ') : E X l m_X5_step D 0 [(0, .ref 22)] [] σ r σ' := by
  unfold W_X5_step_0 at h
  refine E_aload_n 0 dX5_step_0 rfl rfl ?_
  refine E_getI dX5_step_1 fl_X5_40 rfl (sk_22 hs) (sn hs (by decide)) ?_
  refine E_istore_n [(1, .int (gI σ 22 10)), (0, .ref 22)] dX5_step_4 rfl (by decide) rfl ?_
  exact E_lv [1, 0] rfl h
def W_X5_step_176 (X : Sx) (l : Launch) (D : Nat) (x1 : Int32) (σ : AH) (r : Option Value) (σ' : AH) : Prop := (r = none ∧ σ' = (sI σ 22 10 x1))
set_option maxRecDepth 100000 in
theorem w_X5_step_176 {X : Sx} {l : Launch} {D : Nat} {x1 : Int32} {σ : AH} {r : Option Value} {σ' : AH} (hs : Sh σ) (h : W_X5_step_176 X l D x1 σ r σ') : E X l m_X5_step D 176 [(0, .ref 22), (1, .int x1)] [] σ r σ' := by
  unfold W_X5_step_176 at h
  refine E_aload_n 0 dX5_step_176 rfl rfl ?_
  refine E_iload_n 1 dX5_step_177 rfl rfl ?_
  refine E_putI dX5_step_178 fl_X5_40 rfl (Or.inl rfl) (sk_22 hs) (sn hs (by decide)) (Or.inl (by decide)) rfl rfl ?_
  obtain ⟨rfl, rfl⟩ := h
  exact E_vret dX5_step_181 rfl
def W_X5_step_30 (X : Sx) (l : Launch) (D : Nat) (x1 : Int32) (σ : AH) (r : Option Value) (σ' : AH) : Prop := (if x1 < (gI (sI (sI σ 22 9 x1) 22 12 (0 : Int32)) 22 1) then vp_in x1 400 ∧ ∃ d3 : Nat, ∃ v8 : Int32, ∃ σ4 : AH, d3 + 1 ≤ D ∧ Call X l m_X5_isLetter d3 [.int (gI (sI (sI σ 22 9 x1) 22 12 (0 : Int32)) 23 x1.toNatClampNeg)] (sI (sI σ 22 9 x1) 22 12 (0 : Int32)) (some (.int v8)) σ4 ∧ (if v8 = 0 then vp_in x1 400 ∧ ∃ d10 : Nat, ∃ v15 : Int32, ∃ σ11 : AH, d10 + 1 ≤ D ∧ Call X l m_X5_isDigit d10 [.int (gI σ4 23 x1.toNatClampNeg)] σ4 (some (.int v15)) σ11 ∧ (if v15 = 0 then W_X5_step_176 X l D (x1 + 1) (sI σ11 22 11 (3 : Int32)) r σ' else E X l m_X5_step D 116 [(0, .ref 22), (1, .int x1)] [] (sI σ11 22 11 (2 : Int32)) r σ') else E X l m_X5_step D 73 [(0, .ref 22), (1, .int x1)] [] (sI σ4 22 11 (1 : Int32)) r σ') else W_X5_step_176 X l D x1 (sI (sI (sI σ 22 9 x1) 22 12 (0 : Int32)) 22 11 (0 : Int32)) r σ')
set_option maxRecDepth 100000 in
theorem w_X5_step_30 {X : Sx} {l : Launch} {D : Nat} {x1 : Int32} {σ : AH} {r : Option Value} {σ' : AH} (hs : Sh σ) (h : W_X5_step_30 X l D x1 σ r σ') : E X l m_X5_step D 30 [(0, .ref 22), (1, .int x1)] [] σ r σ' := by
  unfold W_X5_step_30 at h
  refine E_aload_n 0 dX5_step_30 rfl rfl ?_
  refine E_iload_n 1 dX5_step_31 rfl rfl ?_
  refine E_putI dX5_step_32 fl_X5_57 rfl (Or.inl rfl) (sk_22 hs) (sn hs (by decide)) (Or.inl (by decide)) rfl rfl ?_
  refine E_aload_n 0 dX5_step_35 rfl rfl ?_
  refine E_iconst (0 : Int32) dX5_step_36 (by decide) ?_
  refine E_putI dX5_step_37 fl_X5_60 rfl (Or.inl rfl) (sk_22 hs) (sn hs (by decide)) (Or.inl (by decide)) rfl rfl ?_
  refine E_iload_n 1 dX5_step_40 rfl rfl ?_
  refine E_aload_n 0 dX5_step_41 rfl rfl ?_
  refine E_getI dX5_step_42 fl_X5_27 rfl (sk_22 hs) (sn hs (by decide)) ?_
  refine E_icmp_lt 56 dX5_step_45 (by decide) (fun c => ?_) (fun c => ?_)
  · rw [if_pos c] at h
    refine E_aload_n 0 dX5_step_56 rfl rfl ?_
    refine E_getR 23 dX5_step_57 fl_X5_11 rfl (sk_22 hs) (sn hs (by decide)) (sr_22_0 hs) ?_
    refine E_iload_n 1 dX5_step_60 rfl rfl ?_
    obtain ⟨g2, h⟩ := h
    refine E_iald2 (x1.toNatClampNeg) dX5_step_61 (sk_23 hs) (sn hs (by decide)) g2 rfl ?_
    obtain ⟨d3, v8, σ4, hD5, hC6, h⟩ := h
    have hs7 := hC6.1.2.2.2.1 hs
    refine E_callS (As := [.int (gI (sI (sI σ 22 9 x1) 22 12 (0 : Int32)) 23 x1.toNatClampNeg)]) (rest := []) (r1 := (some (.int v8))) dX5_step_62 ok_X5_isLetter is_X5_isLetter ml_X5_63 hD5 rfl rfl (Nat.le_of_ble_eq_true rfl) (by decide +kernel) hC6 ?_
    refine E_if_eq 99 dX5_step_65 (by decide) (fun c => ?_) (fun c => ?_)
    · rw [if_pos c] at h
      refine E_aload_n 0 dX5_step_99 rfl rfl ?_
      refine E_getR 23 dX5_step_100 fl_X5_11 rfl (sk_22 hs7) (sn hs7 (by decide)) (sr_22_0 hs7) ?_
      refine E_iload_n 1 dX5_step_103 rfl rfl ?_
      obtain ⟨g9, h⟩ := h
      refine E_iald2 (x1.toNatClampNeg) dX5_step_104 (sk_23 hs7) (sn hs7 (by decide)) g9 rfl ?_
      obtain ⟨d10, v15, σ11, hD12, hC13, h⟩ := h
      have hs14 := hC13.1.2.2.2.1 hs7
      refine E_callS (As := [.int (gI σ4 23 x1.toNatClampNeg)]) (rest := []) (r1 := (some (.int v15))) dX5_step_105 ok_X5_isDigit is_X5_isDigit ml_X5_67 hD12 rfl rfl (Nat.le_of_ble_eq_true rfl) (by decide +kernel) hC13 ?_
      refine E_if_eq 168 dX5_step_108 (by decide) (fun c => ?_) (fun c => ?_)
      · rw [if_pos c] at h
        refine E_aload_n 0 dX5_step_168 rfl rfl ?_
        refine E_iconst (3 : Int32) dX5_step_169 (by decide) ?_
        refine E_putI dX5_step_170 fl_X5_50 rfl (Or.inl rfl) (sk_22 hs14) (sn hs14 (by decide)) (Or.inl (by decide)) rfl rfl ?_
        refine E_iinc 1 (x1 + 1) [(1, .int (x1 + 1)), (0, .ref 22)] dX5_step_173 rfl (congrArg (x1 + ·) (by decide : Int32.ofInt 1 = 1)) (by decide) rfl ?_
        exact E_lv [1, 0] rfl (w_X5_step_176 hs14 h)
      · rw [if_neg c] at h
        refine E_aload_n 0 dX5_step_111 rfl rfl ?_
        refine E_iconst (2 : Int32) dX5_step_112 (by decide) ?_
        refine E_putI dX5_step_113 fl_X5_50 rfl (Or.inl rfl) (sk_22 hs14) (sn hs14 (by decide)) (Or.inl (by decide)) rfl rfl ?_
        exact E_lv [0, 1] rfl h
    · rw [if_neg c] at h
      refine E_aload_n 0 dX5_step_68 rfl rfl ?_
      refine E_iconst (1 : Int32) dX5_step_69 (by decide) ?_
      refine E_putI dX5_step_70 fl_X5_50 rfl (Or.inl rfl) (sk_22 hs7) (sn hs7 (by decide)) (Or.inl (by decide)) rfl rfl ?_
      exact E_lv [0, 1] rfl h
  · rw [if_neg c] at h
    refine E_aload_n 0 dX5_step_48 rfl rfl ?_
    refine E_iconst (0 : Int32) dX5_step_49 (by decide) ?_
    refine E_putI dX5_step_50 fl_X5_50 rfl (Or.inl rfl) (sk_22 hs) (sn hs (by decide)) (Or.inl (by decide)) rfl rfl ?_
    refine E_goto 176 dX5_step_53 (by decide) ?_
    exact E_lv [0, 1] rfl (w_X5_step_176 hs h)
def W_X5_step_5 (X : Sx) (l : Launch) (D : Nat) (x1 : Int32) (σ : AH) (r : Option Value) (σ' : AH) : Prop := (if (gI σ 22 1) ≤ x1 then W_X5_step_30 X l D x1 σ r σ' else vp_in x1 400 ∧ (if (gI σ 23 x1.toNatClampNeg) = (32 : Int32) then E X l m_X5_step D 5 [(0, .ref 22), (1, .int (x1 + 1))] [] σ r σ' else W_X5_step_30 X l D x1 σ r σ'))
set_option maxRecDepth 100000 in
theorem w_X5_step_5 {X : Sx} {l : Launch} {D : Nat} {x1 : Int32} {σ : AH} {r : Option Value} {σ' : AH} (hs : Sh σ) (h : W_X5_step_5 X l D x1 σ r σ') : E X l m_X5_step D 5 [(0, .ref 22), (1, .int x1)] [] σ r σ' := by
  unfold W_X5_step_5 at h
  refine E_iload_n 1 dX5_step_5 rfl rfl ?_
  refine E_aload_n 0 dX5_step_6 rfl rfl ?_
  refine E_getI dX5_step_7 fl_X5_27 rfl (sk_22 hs) (sn hs (by decide)) ?_
  refine E_icmp_ge 30 dX5_step_10 (by decide) (fun c => ?_) (fun c => ?_)
  · rw [if_pos c] at h
    exact E_lv [0, 1] rfl (w_X5_step_30 hs h)
  · rw [if_neg c] at h
    refine E_aload_n 0 dX5_step_13 rfl rfl ?_
    refine E_getR 23 dX5_step_14 fl_X5_11 rfl (sk_22 hs) (sn hs (by decide)) (sr_22_0 hs) ?_
    refine E_iload_n 1 dX5_step_17 rfl rfl ?_
    obtain ⟨g1, h⟩ := h
    refine E_iald2 (x1.toNatClampNeg) dX5_step_18 (sk_23 hs) (sn hs (by decide)) g1 rfl ?_
    refine E_bipush (32 : Int32) dX5_step_19 (by decide) ?_
    refine E_icmp_ne 30 dX5_step_21 (by decide) (fun c => ?_) (fun c => ?_)
    · rw [if_neg c] at h
      exact E_lv [0, 1] rfl (w_X5_step_30 hs h)
    · rw [if_pos c] at h
      refine E_iinc 1 (x1 + 1) [(1, .int (x1 + 1)), (0, .ref 22)] dX5_step_24 rfl (congrArg (x1 + ·) (by decide : Int32.ofInt 1 = 1)) (by decide) rfl ?_
      refine E_goto 5 dX5_step_27 (by decide) ?_
      exact E_lv [1, 0] rfl h
def W_X5_step_116 (X : Sx) (l : Launch) (D : Nat) (x1 : Int32) (σ : AH) (r : Option Value) (σ' : AH) : Prop := (if (gI σ 22 1) ≤ x1 then W_X5_step_176 X l D x1 σ r σ' else vp_in x1 400 ∧ ∃ d17 : Nat, ∃ v22 : Int32, ∃ σ18 : AH, d17 + 1 ≤ D ∧ Call X l m_X5_isDigit d17 [.int (gI σ 23 x1.toNatClampNeg)] σ (some (.int v22)) σ18 ∧ (if v22 = 0 then W_X5_step_176 X l D x1 σ18 r σ' else vp_in x1 400 ∧ 1 ≤ D ∧ E X l m_X5_step D 116 [(0, .ref 22), (1, .int (x1 + 1))] [] (sI σ18 22 12 (imin (1000000 : Int32) ((((gI σ18 22 12) * (10 : Int32)) + (gI σ18 23 x1.toNatClampNeg)) - (48 : Int32)))) r σ'))
set_option maxRecDepth 100000 in
theorem w_X5_step_116 {X : Sx} {l : Launch} {D : Nat} {x1 : Int32} {σ : AH} {r : Option Value} {σ' : AH} (hs : Sh σ) (h : W_X5_step_116 X l D x1 σ r σ') : E X l m_X5_step D 116 [(0, .ref 22), (1, .int x1)] [] σ r σ' := by
  unfold W_X5_step_116 at h
  refine E_iload_n 1 dX5_step_116 rfl rfl ?_
  refine E_aload_n 0 dX5_step_117 rfl rfl ?_
  refine E_getI dX5_step_118 fl_X5_27 rfl (sk_22 hs) (sn hs (by decide)) ?_
  refine E_icmp_ge 176 dX5_step_121 (by decide) (fun c => ?_) (fun c => ?_)
  · rw [if_pos c] at h
    exact E_lv [0, 1] rfl (w_X5_step_176 hs h)
  · rw [if_neg c] at h
    refine E_aload_n 0 dX5_step_124 rfl rfl ?_
    refine E_getR 23 dX5_step_125 fl_X5_11 rfl (sk_22 hs) (sn hs (by decide)) (sr_22_0 hs) ?_
    refine E_iload_n 1 dX5_step_128 rfl rfl ?_
    obtain ⟨g16, h⟩ := h
    refine E_iald2 (x1.toNatClampNeg) dX5_step_129 (sk_23 hs) (sn hs (by decide)) g16 rfl ?_
    obtain ⟨d17, v22, σ18, hD19, hC20, h⟩ := h
    have hs21 := hC20.1.2.2.2.1 hs
    refine E_callS (As := [.int (gI σ 23 x1.toNatClampNeg)]) (rest := []) (r1 := (some (.int v22))) dX5_step_130 ok_X5_isDigit is_X5_isDigit ml_X5_67 hD19 rfl rfl (Nat.le_of_ble_eq_true rfl) (by decide +kernel) hC20 ?_
    refine E_if_eq 176 dX5_step_133 (by decide) (fun c => ?_) (fun c => ?_)
    · rw [if_pos c] at h
      exact E_lv [0, 1] rfl (w_X5_step_176 hs21 h)
    · rw [if_neg c] at h
      refine E_aload_n 0 dX5_step_136 rfl rfl ?_
      refine E_ldc (1000000 : Int32) dX5_step_137 ct_X5_70 ?_
      refine E_aload_n 0 dX5_step_139 rfl rfl ?_
      refine E_getI dX5_step_140 fl_X5_60 rfl (sk_22 hs21) (sn hs21 (by decide)) ?_
      refine E_bipush (10 : Int32) dX5_step_143 (by decide) ?_
      refine E_imul dX5_step_145 ?_
      refine E_aload_n 0 dX5_step_146 rfl rfl ?_
      refine E_getR 23 dX5_step_147 fl_X5_11 rfl (sk_22 hs21) (sn hs21 (by decide)) (sr_22_0 hs21) ?_
      refine E_iload_n 1 dX5_step_150 rfl rfl ?_
      obtain ⟨g23, h⟩ := h
      refine E_iald2 (x1.toNatClampNeg) dX5_step_151 (sk_23 hs21) (sn hs21 (by decide)) g23 rfl ?_
      refine E_iadd dX5_step_152 ?_
      refine E_bipush (48 : Int32) dX5_step_153 (by decide) ?_
      refine E_isub dX5_step_155 ?_
      obtain ⟨g24, h⟩ := h
      refine E_mmin dX5_step_156 mm_X5_71 g24 (Nat.le_of_ble_eq_true rfl) ?_
      refine E_putI dX5_step_159 fl_X5_60 rfl (Or.inl rfl) (sk_22 hs21) (sn hs21 (by decide)) (Or.inl (by decide)) rfl rfl ?_
      refine E_iinc 1 (x1 + 1) [(1, .int (x1 + 1)), (0, .ref 22)] dX5_step_162 rfl (congrArg (x1 + ·) (by decide : Int32.ofInt 1 = 1)) (by decide) rfl ?_
      refine E_goto 116 dX5_step_165 (by decide) ?_
      exact E_lv [1, 0] rfl h
def W_X5_step_73 (X : Sx) (l : Launch) (D : Nat) (x1 : Int32) (σ : AH) (r : Option Value) (σ' : AH) : Prop := (if (gI σ 22 1) ≤ x1 then W_X5_step_176 X l D x1 σ r σ' else vp_in x1 400 ∧ ∃ d26 : Nat, ∃ v31 : Int32, ∃ σ27 : AH, d26 + 1 ≤ D ∧ Call X l m_X5_isLetter d26 [.int (gI σ 23 x1.toNatClampNeg)] σ (some (.int v31)) σ27 ∧ (if v31 = 0 then W_X5_step_176 X l D x1 σ27 r σ' else E X l m_X5_step D 73 [(0, .ref 22), (1, .int (x1 + 1))] [] σ27 r σ'))
set_option maxRecDepth 100000 in
theorem w_X5_step_73 {X : Sx} {l : Launch} {D : Nat} {x1 : Int32} {σ : AH} {r : Option Value} {σ' : AH} (hs : Sh σ) (h : W_X5_step_73 X l D x1 σ r σ') : E X l m_X5_step D 73 [(0, .ref 22), (1, .int x1)] [] σ r σ' := by
  unfold W_X5_step_73 at h
  refine E_iload_n 1 dX5_step_73 rfl rfl ?_
  refine E_aload_n 0 dX5_step_74 rfl rfl ?_
  refine E_getI dX5_step_75 fl_X5_27 rfl (sk_22 hs) (sn hs (by decide)) ?_
  refine E_icmp_ge 176 dX5_step_78 (by decide) (fun c => ?_) (fun c => ?_)
  · rw [if_pos c] at h
    exact E_lv [0, 1] rfl (w_X5_step_176 hs h)
  · rw [if_neg c] at h
    refine E_aload_n 0 dX5_step_81 rfl rfl ?_
    refine E_getR 23 dX5_step_82 fl_X5_11 rfl (sk_22 hs) (sn hs (by decide)) (sr_22_0 hs) ?_
    refine E_iload_n 1 dX5_step_85 rfl rfl ?_
    obtain ⟨g25, h⟩ := h
    refine E_iald2 (x1.toNatClampNeg) dX5_step_86 (sk_23 hs) (sn hs (by decide)) g25 rfl ?_
    obtain ⟨d26, v31, σ27, hD28, hC29, h⟩ := h
    have hs30 := hC29.1.2.2.2.1 hs
    refine E_callS (As := [.int (gI σ 23 x1.toNatClampNeg)]) (rest := []) (r1 := (some (.int v31))) dX5_step_87 ok_X5_isLetter is_X5_isLetter ml_X5_63 hD28 rfl rfl (Nat.le_of_ble_eq_true rfl) (by decide +kernel) hC29 ?_
    refine E_if_eq 176 dX5_step_90 (by decide) (fun c => ?_) (fun c => ?_)
    · rw [if_pos c] at h
      exact E_lv [0, 1] rfl (w_X5_step_176 hs30 h)
    · rw [if_neg c] at h
      refine E_iinc 1 (x1 + 1) [(1, .int (x1 + 1)), (0, .ref 22)] dX5_step_93 rfl (congrArg (x1 + ·) (by decide : Int32.ofInt 1 = 1)) (by decide) rfl ?_
      refine E_goto 73 dX5_step_96 (by decide) ?_
      exact E_lv [1, 0] rfl h
def W_X5_isLetter_0 (X : Sx) (l : Launch) (D : Nat) (x0 : Int32) (σ : AH) (r : Option Value) (σ' : AH) : Prop := (if x0 < (97 : Int32) then (r = some (.int (0 : Int32)) ∧ σ' = σ) else (if (122 : Int32) < x0 then (r = some (.int (0 : Int32)) ∧ σ' = σ) else (r = some (.int (1 : Int32)) ∧ σ' = σ)))
set_option maxRecDepth 100000 in
theorem w_X5_isLetter_0 {X : Sx} {l : Launch} {D : Nat} {x0 : Int32} {σ : AH} {r : Option Value} {σ' : AH} (hs : Sh σ) (h : W_X5_isLetter_0 X l D x0 σ r σ') : E X l m_X5_isLetter D 0 [(0, .int x0)] [] σ r σ' := by
  unfold W_X5_isLetter_0 at h
  refine E_iload_n 0 dX5_isLetter_0 rfl rfl ?_
  refine E_bipush (97 : Int32) dX5_isLetter_1 (by decide) ?_
  refine E_icmp_lt 16 dX5_isLetter_3 (by decide) (fun c => ?_) (fun c => ?_)
  · rw [if_pos c] at h
    refine E_iconst (0 : Int32) dX5_isLetter_16 (by decide) ?_
    obtain ⟨rfl, rfl⟩ := h
    exact E_zret dX5_isLetter_17 rfl (Or.inl rfl)
  · rw [if_neg c] at h
    refine E_iload_n 0 dX5_isLetter_6 rfl rfl ?_
    refine E_bipush (122 : Int32) dX5_isLetter_7 (by decide) ?_
    refine E_icmp_gt 16 dX5_isLetter_9 (by decide) (fun c => ?_) (fun c => ?_)
    · rw [if_pos c] at h
      refine E_iconst (0 : Int32) dX5_isLetter_16 (by decide) ?_
      obtain ⟨rfl, rfl⟩ := h
      exact E_zret dX5_isLetter_17 rfl (Or.inl rfl)
    · rw [if_neg c] at h
      refine E_iconst (1 : Int32) dX5_isLetter_12 (by decide) ?_
      refine E_goto 17 dX5_isLetter_13 (by decide) ?_
      obtain ⟨rfl, rfl⟩ := h
      exact E_zret dX5_isLetter_17 rfl (Or.inr rfl)
def W_X5_isDigit_0 (X : Sx) (l : Launch) (D : Nat) (x0 : Int32) (σ : AH) (r : Option Value) (σ' : AH) : Prop := (if x0 < (48 : Int32) then (r = some (.int (0 : Int32)) ∧ σ' = σ) else (if (57 : Int32) < x0 then (r = some (.int (0 : Int32)) ∧ σ' = σ) else (r = some (.int (1 : Int32)) ∧ σ' = σ)))
set_option maxRecDepth 100000 in
theorem w_X5_isDigit_0 {X : Sx} {l : Launch} {D : Nat} {x0 : Int32} {σ : AH} {r : Option Value} {σ' : AH} (hs : Sh σ) (h : W_X5_isDigit_0 X l D x0 σ r σ') : E X l m_X5_isDigit D 0 [(0, .int x0)] [] σ r σ' := by
  unfold W_X5_isDigit_0 at h
  refine E_iload_n 0 dX5_isDigit_0 rfl rfl ?_
  refine E_bipush (48 : Int32) dX5_isDigit_1 (by decide) ?_
  refine E_icmp_lt 16 dX5_isDigit_3 (by decide) (fun c => ?_) (fun c => ?_)
  · rw [if_pos c] at h
    refine E_iconst (0 : Int32) dX5_isDigit_16 (by decide) ?_
    obtain ⟨rfl, rfl⟩ := h
    exact E_zret dX5_isDigit_17 rfl (Or.inl rfl)
  · rw [if_neg c] at h
    refine E_iload_n 0 dX5_isDigit_6 rfl rfl ?_
    refine E_bipush (57 : Int32) dX5_isDigit_7 (by decide) ?_
    refine E_icmp_gt 16 dX5_isDigit_9 (by decide) (fun c => ?_) (fun c => ?_)
    · rw [if_pos c] at h
      refine E_iconst (0 : Int32) dX5_isDigit_16 (by decide) ?_
      obtain ⟨rfl, rfl⟩ := h
      exact E_zret dX5_isDigit_17 rfl (Or.inl rfl)
    · rw [if_neg c] at h
      refine E_iconst (1 : Int32) dX5_isDigit_12 (by decide) ?_
      refine E_goto 17 dX5_isDigit_13 (by decide) ?_
      obtain ⟨rfl, rfl⟩ := h
      exact E_zret dX5_isDigit_17 rfl (Or.inr rfl)
def W_X5_isSign_0 (X : Sx) (l : Launch) (D : Nat) (x1 : Int32) (σ : AH) (r : Option Value) (σ' : AH) : Prop := (if (gI σ 22 11) = (3 : Int32) then vp_in (gI σ 22 9) 400 ∧ (if (gI σ 23 (gI σ 22 9).toNatClampNeg) = x1 then (r = some (.int (1 : Int32)) ∧ σ' = σ) else (r = some (.int (0 : Int32)) ∧ σ' = σ)) else (r = some (.int (0 : Int32)) ∧ σ' = σ))
set_option maxRecDepth 100000 in
theorem w_X5_isSign_0 {X : Sx} {l : Launch} {D : Nat} {x1 : Int32} {σ : AH} {r : Option Value} {σ' : AH} (hs : Sh σ) (h : W_X5_isSign_0 X l D x1 σ r σ') : E X l m_X5_isSign D 0 [(0, .ref 22), (1, .int x1)] [] σ r σ' := by
  unfold W_X5_isSign_0 at h
  refine E_aload_n 0 dX5_isSign_0 rfl rfl ?_
  refine E_getI dX5_isSign_1 fl_X5_50 rfl (sk_22 hs) (sn hs (by decide)) ?_
  refine E_iconst (3 : Int32) dX5_isSign_4 (by decide) ?_
  refine E_icmp_ne 25 dX5_isSign_5 (by decide) (fun c => ?_) (fun c => ?_)
  · rw [if_neg c] at h
    refine E_iconst (0 : Int32) dX5_isSign_25 (by decide) ?_
    obtain ⟨rfl, rfl⟩ := h
    exact E_zret dX5_isSign_26 rfl (Or.inl rfl)
  · rw [if_pos c] at h
    refine E_aload_n 0 dX5_isSign_8 rfl rfl ?_
    refine E_getR 23 dX5_isSign_9 fl_X5_11 rfl (sk_22 hs) (sn hs (by decide)) (sr_22_0 hs) ?_
    refine E_aload_n 0 dX5_isSign_12 rfl rfl ?_
    refine E_getI dX5_isSign_13 fl_X5_57 rfl (sk_22 hs) (sn hs (by decide)) ?_
    obtain ⟨g1, h⟩ := h
    refine E_iald2 ((gI σ 22 9).toNatClampNeg) dX5_isSign_16 (sk_23 hs) (sn hs (by decide)) g1 rfl ?_
    refine E_iload_n 1 dX5_isSign_17 rfl rfl ?_
    refine E_icmp_ne 25 dX5_isSign_18 (by decide) (fun c => ?_) (fun c => ?_)
    · rw [if_neg c] at h
      refine E_iconst (0 : Int32) dX5_isSign_25 (by decide) ?_
      obtain ⟨rfl, rfl⟩ := h
      exact E_zret dX5_isSign_26 rfl (Or.inl rfl)
    · rw [if_pos c] at h
      refine E_iconst (1 : Int32) dX5_isSign_21 (by decide) ?_
      refine E_goto 26 dX5_isSign_22 (by decide) ?_
      obtain ⟨rfl, rfl⟩ := h
      exact E_zret dX5_isSign_26 rfl (Or.inr rfl)
def W_X5_takeSign_0 (X : Sx) (l : Launch) (D : Nat) (x1 : Int32) (σ : AH) (r : Option Value) (σ' : AH) : Prop := ∃ d1 : Nat, ∃ v6 : Int32, ∃ σ2 : AH, d1 + 1 ≤ D ∧ Call X l m_X5_isSign d1 [.ref 22, .int x1] σ (some (.int v6)) σ2 ∧ (if v6 = 0 then (r = some (.int (0 : Int32)) ∧ σ' = σ2) else ∃ d7 : Nat, ∃ σ8 : AH, d7 + 1 ≤ D ∧ Call X l m_X5_step d7 [.ref 22] σ2 none σ8 ∧ (r = some (.int (1 : Int32)) ∧ σ' = σ8))
set_option maxRecDepth 100000 in
theorem w_X5_takeSign_0 {X : Sx} {l : Launch} {D : Nat} {x1 : Int32} {σ : AH} {r : Option Value} {σ' : AH} (hs : Sh σ) (h : W_X5_takeSign_0 X l D x1 σ r σ') : E X l m_X5_takeSign D 0 [(0, .ref 22), (1, .int x1)] [] σ r σ' := by
  unfold W_X5_takeSign_0 at h
  refine E_aload_n 0 dX5_takeSign_0 rfl rfl ?_
  refine E_iload_n 1 dX5_takeSign_1 rfl rfl ?_
  obtain ⟨d1, v6, σ2, hD3, hC4, h⟩ := h
  have hs5 := hC4.1.2.2.2.1 hs
  refine E_callV (As := [.int x1]) (rest := []) (r1 := (some (.int v6))) (b := 22) dX5_takeSign_2 ok_X5_isSign in_X5_isSign se_X5_isSign ml_X5_77 hD3 rfl rfl (Nat.le_of_ble_eq_true rfl) (sk_22 hs) (sn hs (by decide)) (by decide) rfl (by decide +kernel) hC4 ?_
  refine E_if_ne 10 dX5_takeSign_5 (by decide) (fun c => ?_) (fun c => ?_)
  · rw [if_neg c] at h
    refine E_aload_n 0 dX5_takeSign_10 rfl rfl ?_
    obtain ⟨d7, σ8, hD9, hC10, h⟩ := h
    have hs11 := hC10.1.2.2.2.1 hs5
    refine E_callV (As := []) (rest := []) (r1 := none) (b := 22) dX5_takeSign_11 ok_X5_step in_X5_step se_X5_step ml_X5_43 hD9 rfl rfl (Nat.le_of_ble_eq_true rfl) (sk_22 hs5) (sn hs5 (by decide)) (by decide) rfl (by decide +kernel) hC10 ?_
    refine E_iconst (1 : Int32) dX5_takeSign_14 (by decide) ?_
    obtain ⟨rfl, rfl⟩ := h
    exact E_zret dX5_takeSign_15 rfl (Or.inr rfl)
  · rw [if_pos c] at h
    refine E_iconst (0 : Int32) dX5_takeSign_8 (by decide) ?_
    obtain ⟨rfl, rfl⟩ := h
    exact E_zret dX5_takeSign_9 rfl (Or.inl rfl)
def W_X5_isWord_0 (X : Sx) (l : Launch) (D : Nat) (x1 : Nat) (σ : AH) (r : Option Value) (σ' : AH) : Prop := ∃ d1 : Nat, ∃ v6 : Int32, ∃ σ2 : AH, d1 + 1 ≤ D ∧ Call X l m_X5_wordIn d1 [.ref 22, .ref (1000001 + x1)] σ (some (.int v6)) σ2 ∧ (if v6 = 0 then (r = some (.int (1 : Int32)) ∧ σ' = σ2) else (r = some (.int (0 : Int32)) ∧ σ' = σ2))
set_option maxRecDepth 100000 in
theorem w_X5_isWord_0 {X : Sx} {l : Launch} {D : Nat} {x1 : Nat} {σ : AH} {r : Option Value} {σ' : AH} (hs : Sh σ) (hmx1 : x1 < 12) (h : W_X5_isWord_0 X l D x1 σ r σ') : E X l m_X5_isWord D 0 [(0, .ref 22), (1, .ref (1000001 + x1))] [] σ r σ' := by
  unfold W_X5_isWord_0 at h
  refine E_aload_n 0 dX5_isWord_0 rfl rfl ?_
  refine E_aload_n 1 dX5_isWord_1 rfl rfl ?_
  obtain ⟨d1, v6, σ2, hD3, hC4, h⟩ := h
  have hs5 := hC4.1.2.2.2.1 hs
  refine E_callV (As := [.ref (1000001 + x1)]) (rest := []) (r1 := (some (.int v6))) (b := 22) dX5_isWord_2 ok_X5_wordIn in_X5_wordIn se_X5_wordIn ml_X5_80 hD3 rfl rfl (Nat.le_of_ble_eq_true rfl) (sk_22 hs) (sn hs (by decide)) (by decide) rfl (by decide +kernel) hC4 ?_
  refine E_if_ne 12 dX5_isWord_5 (by decide) (fun c => ?_) (fun c => ?_)
  · rw [if_neg c] at h
    refine E_iconst (0 : Int32) dX5_isWord_12 (by decide) ?_
    obtain ⟨rfl, rfl⟩ := h
    exact E_zret dX5_isWord_13 rfl (Or.inl rfl)
  · rw [if_pos c] at h
    refine E_iconst (1 : Int32) dX5_isWord_8 (by decide) ?_
    refine E_goto 13 dX5_isWord_9 (by decide) ?_
    obtain ⟨rfl, rfl⟩ := h
    exact E_zret dX5_isWord_13 rfl (Or.inr rfl)
def W_X5_wordIn_0 (X : Sx) (l : Launch) (D : Nat) (x1 : Nat) (σ : AH) (r : Option Value) (σ' : AH) : Prop := E X l m_X5_wordIn D 7 [(0, .ref 22), (1, .ref (1000001 + x1)), (2, .int (0 : Int32)), (3, .int (0 : Int32)), (4, .int (0 : Int32))] [] σ r σ'
set_option maxRecDepth 100000 in
theorem w_X5_wordIn_0 {X : Sx} {l : Launch} {D : Nat} {x1 : Nat} {σ : AH} {r : Option Value} {σ' : AH} (hs : Sh σ) (hmx1 : x1 < 12) (h : W_X5_wordIn_0 X l D x1 σ r σ') : E X l m_X5_wordIn D 0 [(0, .ref 22), (1, .ref (1000001 + x1))] [] σ r σ' := by
  unfold W_X5_wordIn_0 at h
  refine E_iconst (0 : Int32) dX5_wordIn_0 (by decide) ?_
  refine E_istore_n [(2, .int (0 : Int32)), (0, .ref 22), (1, .ref (1000001 + x1))] dX5_wordIn_1 rfl (by decide) rfl ?_
  refine E_iconst (0 : Int32) dX5_wordIn_2 (by decide) ?_
  refine E_istore_n [(3, .int (0 : Int32)), (2, .int (0 : Int32)), (0, .ref 22), (1, .ref (1000001 + x1))] dX5_wordIn_3 rfl (by decide) rfl ?_
  refine E_iconst (0 : Int32) dX5_wordIn_4 (by decide) ?_
  refine E_istore [(4, .int (0 : Int32)), (3, .int (0 : Int32)), (2, .int (0 : Int32)), (0, .ref 22), (1, .ref (1000001 + x1))] dX5_wordIn_5 (by decide) rfl ?_
  exact E_lv [3, 4, 2, 1, 0] rfl h
def W_X5_wordIn_57 (X : Sx) (l : Launch) (D : Nat) (x1 : Nat) (x2 : Int32) (x3 : Int32) (x4 : Int32) (σ : AH) (r : Option Value) (σ' : AH) : Prop := E X l m_X5_wordIn D 7 [(0, .ref 22), (1, .ref (1000001 + x1)), (2, .int x2), (3, .int x3), (4, .int (x4 + 1))] [] σ r σ'
set_option maxRecDepth 100000 in
theorem w_X5_wordIn_57 {X : Sx} {l : Launch} {D : Nat} {x1 : Nat} {x2 : Int32} {x3 : Int32} {x4 : Int32} {σ : AH} {r : Option Value} {σ' : AH} (hs : Sh σ) (hmx1 : x1 < 12) (h : W_X5_wordIn_57 X l D x1 x2 x3 x4 σ r σ') : E X l m_X5_wordIn D 57 [(0, .ref 22), (1, .ref (1000001 + x1)), (2, .int x2), (3, .int x3), (4, .int x4)] [] σ r σ' := by
  unfold W_X5_wordIn_57 at h
  refine E_iinc 4 (x4 + 1) [(4, .int (x4 + 1)), (0, .ref 22), (1, .ref (1000001 + x1)), (2, .int x2), (3, .int x3)] dX5_wordIn_57 rfl (congrArg (x4 + ·) (by decide : Int32.ofInt 1 = 1)) (by decide) rfl ?_
  refine E_goto 7 dX5_wordIn_60 (by decide) ?_
  exact E_lv [1, 2, 3, 4, 0] rfl h
def W_X5_wordIn_36 (X : Sx) (l : Launch) (D : Nat) (x1 : Nat) (x2 : Int32) (x3 : Int32) (x4 : Int32) (σ : AH) (r : Option Value) (σ' : AH) : Prop := ∃ d19 : Nat, ∃ v24 : Int32, ∃ σ20 : AH, d19 + 1 ≤ D ∧ Call X l m_X5_isSpelled d19 [.ref 22, .ref (1000001 + x1), .int x3, .int x4] σ (some (.int v24)) σ20 ∧ (if v24 = 0 then W_X5_wordIn_57 X l D x1 (x2 + 1) (x4 + (1 : Int32)) x4 σ20 r σ' else (r = some (.int x2) ∧ σ' = σ20))
set_option maxRecDepth 100000 in
theorem w_X5_wordIn_36 {X : Sx} {l : Launch} {D : Nat} {x1 : Nat} {x2 : Int32} {x3 : Int32} {x4 : Int32} {σ : AH} {r : Option Value} {σ' : AH} (hs : Sh σ) (hmx1 : x1 < 12) (h : W_X5_wordIn_36 X l D x1 x2 x3 x4 σ r σ') : E X l m_X5_wordIn D 36 [(0, .ref 22), (1, .ref (1000001 + x1)), (2, .int x2), (3, .int x3), (4, .int x4)] [] σ r σ' := by
  unfold W_X5_wordIn_36 at h
  refine E_aload_n 0 dX5_wordIn_36 rfl rfl ?_
  refine E_aload_n 1 dX5_wordIn_37 rfl rfl ?_
  refine E_iload_n 3 dX5_wordIn_38 rfl rfl ?_
  refine E_iload 4 dX5_wordIn_39 rfl ?_
  obtain ⟨d19, v24, σ20, hD21, hC22, h⟩ := h
  have hs23 := hC22.1.2.2.2.1 hs
  refine E_callV (As := [.ref (1000001 + x1), .int x3, .int x4]) (rest := []) (r1 := (some (.int v24))) (b := 22) dX5_wordIn_41 ok_X5_isSpelled in_X5_isSpelled se_X5_isSpelled ml_X5_93 hD21 rfl rfl (Nat.le_of_ble_eq_true rfl) (sk_22 hs) (sn hs (by decide)) (by decide) rfl (by decide +kernel) hC22 ?_
  refine E_if_eq 49 dX5_wordIn_44 (by decide) (fun c => ?_) (fun c => ?_)
  · rw [if_pos c] at h
    refine E_iinc 2 (x2 + 1) [(2, .int (x2 + 1)), (0, .ref 22), (1, .ref (1000001 + x1)), (3, .int x3), (4, .int x4)] dX5_wordIn_49 rfl (congrArg (x2 + ·) (by decide : Int32.ofInt 1 = 1)) (by decide) rfl ?_
    refine E_iload 4 dX5_wordIn_52 rfl ?_
    refine E_iconst (1 : Int32) dX5_wordIn_54 (by decide) ?_
    refine E_iadd dX5_wordIn_55 ?_
    refine E_istore_n [(3, .int (x4 + (1 : Int32))), (2, .int (x2 + 1)), (0, .ref 22), (1, .ref (1000001 + x1)), (4, .int x4)] dX5_wordIn_56 rfl (by decide) rfl ?_
    exact E_lv [2, 3, 1, 0, 4] rfl (w_X5_wordIn_57 hs23 hmx1 h)
  · rw [if_neg c] at h
    refine E_iload_n 2 dX5_wordIn_47 rfl rfl ?_
    obtain ⟨rfl, rfl⟩ := h
    exact E_iret dX5_wordIn_48 rfl
def W_X5_wordIn_7 (X : Sx) (l : Launch) (D : Nat) (x1 : Nat) (x2 : Int32) (x3 : Int32) (x4 : Int32) (σ : AH) (r : Option Value) (σ' : AH) : Prop := ∃ d1 : Nat, ∃ v6 : Int32, ∃ σ2 : AH, d1 + 1 ≤ D ∧ Call X l m_J0_length_8abf5 d1 [.ref (1000001 + x1)] σ (some (.int v6)) σ2 ∧ (if v6 < x4 then (r = some (.int (-1 : Int32)) ∧ σ' = σ2) else ∃ d7 : Nat, ∃ v12 : Int32, ∃ σ8 : AH, d7 + 1 ≤ D ∧ Call X l m_J0_length_8abf5 d7 [.ref (1000001 + x1)] σ2 (some (.int v12)) σ8 ∧ (if x4 = v12 then W_X5_wordIn_36 X l D x1 x2 x3 x4 σ8 r σ' else ∃ d13 : Nat, ∃ v18 : Int32, ∃ σ14 : AH, d13 + 1 ≤ D ∧ Call X l m_J0_charAt_5068e d13 [.ref (1000001 + x1), .int x4] σ8 (some (.int v18)) σ14 ∧ (if v18 = (32 : Int32) then W_X5_wordIn_36 X l D x1 x2 x3 x4 σ14 r σ' else W_X5_wordIn_57 X l D x1 x2 x3 x4 σ14 r σ')))
set_option maxRecDepth 100000 in
theorem w_X5_wordIn_7 {X : Sx} {l : Launch} {D : Nat} {x1 : Nat} {x2 : Int32} {x3 : Int32} {x4 : Int32} {σ : AH} {r : Option Value} {σ' : AH} (hs : Sh σ) (hmx1 : x1 < 12) (h : W_X5_wordIn_7 X l D x1 x2 x3 x4 σ r σ') : E X l m_X5_wordIn D 7 [(0, .ref 22), (1, .ref (1000001 + x1)), (2, .int x2), (3, .int x3), (4, .int x4)] [] σ r σ' := by
  unfold W_X5_wordIn_7 at h
  refine E_iload 4 dX5_wordIn_7 rfl ?_
  refine E_aload_n 1 dX5_wordIn_9 rfl rfl ?_
  obtain ⟨d1, v6, σ2, hD3, hC4, h⟩ := h
  have hs5 := hC4.1.2.2.2.1 hs
  refine E_callVS (As := []) (rest := [.int x4]) (r1 := (some (.int v6))) dX5_wordIn_10 ok_J0_length_8abf5 in_J0_length_8abf5 se_J0_length_8abf5 ml_X5_84 hD3 rfl rfl (Nat.le_of_ble_eq_true rfl) hmx1 rfl (by decide +kernel) hC4 ?_
  refine E_icmp_gt 63 dX5_wordIn_13 (by decide) (fun c => ?_) (fun c => ?_)
  · rw [if_pos c] at h
    refine E_iconst (-1 : Int32) dX5_wordIn_63 (by decide) ?_
    obtain ⟨rfl, rfl⟩ := h
    exact E_iret dX5_wordIn_64 rfl
  · rw [if_neg c] at h
    refine E_iload 4 dX5_wordIn_16 rfl ?_
    refine E_aload_n 1 dX5_wordIn_18 rfl rfl ?_
    obtain ⟨d7, v12, σ8, hD9, hC10, h⟩ := h
    have hs11 := hC10.1.2.2.2.1 hs5
    refine E_callVS (As := []) (rest := [.int x4]) (r1 := (some (.int v12))) dX5_wordIn_19 ok_J0_length_8abf5 in_J0_length_8abf5 se_J0_length_8abf5 ml_X5_84 hD9 rfl rfl (Nat.le_of_ble_eq_true rfl) hmx1 rfl (by decide +kernel) hC10 ?_
    refine E_icmp_eq 36 dX5_wordIn_22 (by decide) (fun c => ?_) (fun c => ?_)
    · rw [if_pos c] at h
      exact E_lv [0, 1, 2, 3, 4] rfl (w_X5_wordIn_36 hs11 hmx1 h)
    · rw [if_neg c] at h
      refine E_aload_n 1 dX5_wordIn_25 rfl rfl ?_
      refine E_iload 4 dX5_wordIn_26 rfl ?_
      obtain ⟨d13, v18, σ14, hD15, hC16, h⟩ := h
      have hs17 := hC16.1.2.2.2.1 hs11
      refine E_callVS (As := [.int x4]) (rest := []) (r1 := (some (.int v18))) dX5_wordIn_28 ok_J0_charAt_5068e in_J0_charAt_5068e se_J0_charAt_5068e ml_X5_89 hD15 rfl rfl (Nat.le_of_ble_eq_true rfl) hmx1 rfl (by decide +kernel) hC16 ?_
      refine E_bipush (32 : Int32) dX5_wordIn_31 (by decide) ?_
      refine E_icmp_ne 57 dX5_wordIn_33 (by decide) (fun c => ?_) (fun c => ?_)
      · rw [if_neg c] at h
        exact E_lv [0, 1, 2, 3, 4] rfl (w_X5_wordIn_57 hs17 hmx1 h)
      · rw [if_pos c] at h
        exact E_lv [0, 1, 2, 3, 4] rfl (w_X5_wordIn_36 hs17 hmx1 h)
def W_X5_isSpelled_0 (X : Sx) (l : Launch) (D : Nat) (x1 : Nat) (x2 : Int32) (x3 : Int32) (σ : AH) (r : Option Value) (σ' : AH) : Prop := (if (gI σ 22 11) = (1 : Int32) then (if ((gI σ 22 10) - (gI σ 22 9)) = (x3 - x2) then E X l m_X5_isSpelled D 28 [(0, .ref 22), (1, .ref (1000001 + x1)), (2, .int x2), (3, .int x3), (4, .int x2)] [] σ r σ' else (r = some (.int (0 : Int32)) ∧ σ' = σ)) else (r = some (.int (0 : Int32)) ∧ σ' = σ))
set_option maxRecDepth 100000 in
theorem w_X5_isSpelled_0 {X : Sx} {l : Launch} {D : Nat} {x1 : Nat} {x2 : Int32} {x3 : Int32} {σ : AH} {r : Option Value} {σ' : AH} (hs : Sh σ) (hmx1 : x1 < 12) (h : W_X5_isSpelled_0 X l D x1 x2 x3 σ r σ') : E X l m_X5_isSpelled D 0 [(0, .ref 22), (1, .ref (1000001 + x1)), (2, .int x2), (3, .int x3)] [] σ r σ' := by
  unfold W_X5_isSpelled_0 at h
  refine E_aload_n 0 dX5_isSpelled_0 rfl rfl ?_
  refine E_getI dX5_isSpelled_1 fl_X5_50 rfl (sk_22 hs) (sn hs (by decide)) ?_
  refine E_iconst (1 : Int32) dX5_isSpelled_4 (by decide) ?_
  refine E_icmp_ne 23 dX5_isSpelled_5 (by decide) (fun c => ?_) (fun c => ?_)
  · rw [if_neg c] at h
    refine E_iconst (0 : Int32) dX5_isSpelled_23 (by decide) ?_
    obtain ⟨rfl, rfl⟩ := h
    exact E_zret dX5_isSpelled_24 rfl (Or.inl rfl)
  · rw [if_pos c] at h
    refine E_aload_n 0 dX5_isSpelled_8 rfl rfl ?_
    refine E_getI dX5_isSpelled_9 fl_X5_40 rfl (sk_22 hs) (sn hs (by decide)) ?_
    refine E_aload_n 0 dX5_isSpelled_12 rfl rfl ?_
    refine E_getI dX5_isSpelled_13 fl_X5_57 rfl (sk_22 hs) (sn hs (by decide)) ?_
    refine E_isub dX5_isSpelled_16 ?_
    refine E_iload_n 3 dX5_isSpelled_17 rfl rfl ?_
    refine E_iload_n 2 dX5_isSpelled_18 rfl rfl ?_
    refine E_isub dX5_isSpelled_19 ?_
    refine E_icmp_eq 25 dX5_isSpelled_20 (by decide) (fun c => ?_) (fun c => ?_)
    · rw [if_pos c] at h
      refine E_iload_n 2 dX5_isSpelled_25 rfl rfl ?_
      refine E_istore [(4, .int x2), (0, .ref 22), (1, .ref (1000001 + x1)), (2, .int x2), (3, .int x3)] dX5_isSpelled_26 (by decide) rfl ?_
      exact E_lv [1, 2, 3, 4, 0] rfl h
    · rw [if_neg c] at h
      refine E_iconst (0 : Int32) dX5_isSpelled_23 (by decide) ?_
      obtain ⟨rfl, rfl⟩ := h
      exact E_zret dX5_isSpelled_24 rfl (Or.inl rfl)
def W_X5_isSpelled_28 (X : Sx) (l : Launch) (D : Nat) (x1 : Nat) (x2 : Int32) (x3 : Int32) (x4 : Int32) (σ : AH) (r : Option Value) (σ' : AH) : Prop := (if x3 ≤ x4 then (r = some (.int (1 : Int32)) ∧ σ' = σ) else vp_in (((gI σ 22 9) + x4) - x2) 400 ∧ ∃ d2 : Nat, ∃ v7 : Int32, ∃ σ3 : AH, d2 + 1 ≤ D ∧ Call X l m_J0_charAt_5068e d2 [.ref (1000001 + x1), .int x4] σ (some (.int v7)) σ3 ∧ (if (gI σ 23 (((gI σ 22 9) + x4) - x2).toNatClampNeg) = v7 then E X l m_X5_isSpelled D 28 [(0, .ref 22), (1, .ref (1000001 + x1)), (2, .int x2), (3, .int x3), (4, .int (x4 + 1))] [] σ3 r σ' else (r = some (.int (0 : Int32)) ∧ σ' = σ3)))
set_option maxRecDepth 100000 in
theorem w_X5_isSpelled_28 {X : Sx} {l : Launch} {D : Nat} {x1 : Nat} {x2 : Int32} {x3 : Int32} {x4 : Int32} {σ : AH} {r : Option Value} {σ' : AH} (hs : Sh σ) (hmx1 : x1 < 12) (h : W_X5_isSpelled_28 X l D x1 x2 x3 x4 σ r σ') : E X l m_X5_isSpelled D 28 [(0, .ref 22), (1, .ref (1000001 + x1)), (2, .int x2), (3, .int x3), (4, .int x4)] [] σ r σ' := by
  unfold W_X5_isSpelled_28 at h
  refine E_iload 4 dX5_isSpelled_28 rfl ?_
  refine E_iload_n 3 dX5_isSpelled_30 rfl rfl ?_
  refine E_icmp_ge 65 dX5_isSpelled_31 (by decide) (fun c => ?_) (fun c => ?_)
  · rw [if_pos c] at h
    refine E_iconst (1 : Int32) dX5_isSpelled_65 (by decide) ?_
    obtain ⟨rfl, rfl⟩ := h
    exact E_zret dX5_isSpelled_66 rfl (Or.inr rfl)
  · rw [if_neg c] at h
    refine E_aload_n 0 dX5_isSpelled_34 rfl rfl ?_
    refine E_getR 23 dX5_isSpelled_35 fl_X5_11 rfl (sk_22 hs) (sn hs (by decide)) (sr_22_0 hs) ?_
    refine E_aload_n 0 dX5_isSpelled_38 rfl rfl ?_
    refine E_getI dX5_isSpelled_39 fl_X5_57 rfl (sk_22 hs) (sn hs (by decide)) ?_
    refine E_iload 4 dX5_isSpelled_42 rfl ?_
    refine E_iadd dX5_isSpelled_44 ?_
    refine E_iload_n 2 dX5_isSpelled_45 rfl rfl ?_
    refine E_isub dX5_isSpelled_46 ?_
    obtain ⟨g1, h⟩ := h
    refine E_iald2 ((((gI σ 22 9) + x4) - x2).toNatClampNeg) dX5_isSpelled_47 (sk_23 hs) (sn hs (by decide)) g1 rfl ?_
    refine E_aload_n 1 dX5_isSpelled_48 rfl rfl ?_
    refine E_iload 4 dX5_isSpelled_49 rfl ?_
    obtain ⟨d2, v7, σ3, hD4, hC5, h⟩ := h
    have hs6 := hC5.1.2.2.2.1 hs
    refine E_callVS (As := [.int x4]) (rest := [.int (gI σ 23 (((gI σ 22 9) + x4) - x2).toNatClampNeg)]) (r1 := (some (.int v7))) dX5_isSpelled_51 ok_J0_charAt_5068e in_J0_charAt_5068e se_J0_charAt_5068e ml_X5_89 hD4 rfl rfl (Nat.le_of_ble_eq_true rfl) hmx1 rfl (by decide +kernel) hC5 ?_
    refine E_icmp_eq 59 dX5_isSpelled_54 (by decide) (fun c => ?_) (fun c => ?_)
    · rw [if_pos c] at h
      refine E_iinc 4 (x4 + 1) [(4, .int (x4 + 1)), (0, .ref 22), (1, .ref (1000001 + x1)), (2, .int x2), (3, .int x3)] dX5_isSpelled_59 rfl (congrArg (x4 + ·) (by decide : Int32.ofInt 1 = 1)) (by decide) rfl ?_
      refine E_goto 28 dX5_isSpelled_62 (by decide) ?_
      exact E_lv [1, 2, 3, 4, 0] rfl h
    · rw [if_neg c] at h
      refine E_iconst (0 : Int32) dX5_isSpelled_57 (by decide) ?_
      obtain ⟨rfl, rfl⟩ := h
      exact E_zret dX5_isSpelled_58 rfl (Or.inl rfl)
def W_X5_takeWord_0 (X : Sx) (l : Launch) (D : Nat) (x1 : Nat) (σ : AH) (r : Option Value) (σ' : AH) : Prop := ∃ d1 : Nat, ∃ v6 : Int32, ∃ σ2 : AH, d1 + 1 ≤ D ∧ Call X l m_X5_wordIn d1 [.ref 22, .ref (1000001 + x1)] σ (some (.int v6)) σ2 ∧ (if v6 = (-1 : Int32) then (r = some (.int v6) ∧ σ' = σ2) else ∃ d7 : Nat, ∃ σ8 : AH, d7 + 1 ≤ D ∧ Call X l m_X5_step d7 [.ref 22] σ2 none σ8 ∧ (r = some (.int v6) ∧ σ' = σ8))
set_option maxRecDepth 100000 in
theorem w_X5_takeWord_0 {X : Sx} {l : Launch} {D : Nat} {x1 : Nat} {σ : AH} {r : Option Value} {σ' : AH} (hs : Sh σ) (hmx1 : x1 < 12) (h : W_X5_takeWord_0 X l D x1 σ r σ') : E X l m_X5_takeWord D 0 [(0, .ref 22), (1, .ref (1000001 + x1))] [] σ r σ' := by
  unfold W_X5_takeWord_0 at h
  refine E_aload_n 0 dX5_takeWord_0 rfl rfl ?_
  refine E_aload_n 1 dX5_takeWord_1 rfl rfl ?_
  obtain ⟨d1, v6, σ2, hD3, hC4, h⟩ := h
  have hs5 := hC4.1.2.2.2.1 hs
  refine E_callV (As := [.ref (1000001 + x1)]) (rest := []) (r1 := (some (.int v6))) (b := 22) dX5_takeWord_2 ok_X5_wordIn in_X5_wordIn se_X5_wordIn ml_X5_80 hD3 rfl rfl (Nat.le_of_ble_eq_true rfl) (sk_22 hs) (sn hs (by decide)) (by decide) rfl (by decide +kernel) hC4 ?_
  refine E_istore_n [(2, .int v6), (0, .ref 22), (1, .ref (1000001 + x1))] dX5_takeWord_5 rfl (by decide) rfl ?_
  refine E_iload_n 0 dX5_takeWord_6 rfl rfl ?_
  refine E_iconst (-1 : Int32) dX5_takeWord_7 (by decide) ?_
  refine E_icmp_eq 15 dX5_takeWord_8 (by decide) (fun c => ?_) (fun c => ?_)
  · rw [if_pos c] at h
    refine E_iload_n 0 dX5_takeWord_15 rfl rfl ?_
    obtain ⟨rfl, rfl⟩ := h
    exact E_iret dX5_takeWord_16 rfl
  · rw [if_neg c] at h
    refine E_aload_n 1 dX5_takeWord_11 rfl rfl ?_
    obtain ⟨d7, σ8, hD9, hC10, h⟩ := h
    have hs11 := hC10.1.2.2.2.1 hs5
    refine E_callV (As := []) (rest := []) (r1 := none) (b := 22) dX5_takeWord_12 ok_X5_step in_X5_step se_X5_step ml_X5_43 hD9 rfl rfl (Nat.le_of_ble_eq_true rfl) (sk_22 hs5) (sn hs5 (by decide)) (by decide) rfl (by decide +kernel) hC10 ?_
    refine E_iload_n 0 dX5_takeWord_15 rfl rfl ?_
    obtain ⟨rfl, rfl⟩ := h
    exact E_iret dX5_takeWord_16 rfl
def W_X5_emit_0 (X : Sx) (l : Launch) (D : Nat) (x1 : Int32) (x2 : Int32) (σ : AH) (r : Option Value) (σ' : AH) : Prop := (if (400 : Int32) ≤ (gI σ 22 7) then (r = none ∧ σ' = σ) else vp_in (gI σ 22 7) 400 ∧ (∀ τ2 : AH, τ2 = (sI (sI σ 27 ((gI σ 22 7).toNatClampNeg) (x1 ||| (x2 <<< ((4 : Int32) &&& 31)))) 22 7 ((gI (sI σ 27 ((gI σ 22 7).toNatClampNeg) (x1 ||| (x2 <<< ((4 : Int32) &&& 31)))) 22 7) + (1 : Int32))) → (r = none ∧ σ' = τ2)))
set_option maxRecDepth 100000 in
theorem w_X5_emit_0 {X : Sx} {l : Launch} {D : Nat} {x1 : Int32} {x2 : Int32} {σ : AH} {r : Option Value} {σ' : AH} (hs : Sh σ) (h : W_X5_emit_0 X l D x1 x2 σ r σ') : E X l m_X5_emit D 0 [(0, .ref 22), (1, .int x1), (2, .int x2)] [] σ r σ' := by
  unfold W_X5_emit_0 at h
  refine E_aload_n 0 dX5_emit_0 rfl rfl ?_
  refine E_getI dX5_emit_1 fl_X5_34 rfl (sk_22 hs) (sn hs (by decide)) ?_
  refine E_sipush (400 : Int32) dX5_emit_4 (by decide) ?_
  refine E_icmp_ge 34 dX5_emit_7 (by decide) (fun c => ?_) (fun c => ?_)
  · rw [if_pos c] at h
    obtain ⟨rfl, rfl⟩ := h
    exact E_vret dX5_emit_34 rfl
  · rw [if_neg c] at h
    refine E_aload_n 0 dX5_emit_10 rfl rfl ?_
    refine E_getR 27 dX5_emit_11 fl_X5_24 rfl (sk_22 hs) (sn hs (by decide)) (sr_22_6 hs) ?_
    refine E_aload_n 0 dX5_emit_14 rfl rfl ?_
    refine E_getI dX5_emit_15 fl_X5_34 rfl (sk_22 hs) (sn hs (by decide)) ?_
    refine E_iload_n 1 dX5_emit_18 rfl rfl ?_
    refine E_iload_n 2 dX5_emit_19 rfl rfl ?_
    refine E_iconst (4 : Int32) dX5_emit_20 (by decide) ?_
    refine E_ishl dX5_emit_21 ?_
    refine E_ior dX5_emit_22 ?_
    obtain ⟨g1, h⟩ := h
    refine E_iast2 ((gI σ 22 7).toNatClampNeg) dX5_emit_23 (sk_27 hs) (sn hs (by decide)) (Or.inl (by decide)) g1 rfl ?_
    refine E_aload_n 0 dX5_emit_24 rfl rfl ?_
    refine E_dup dX5_emit_25 rfl ?_
    refine E_getI dX5_emit_26 fl_X5_34 rfl (sk_22 hs) (sn hs (by decide)) ?_
    refine E_iconst (1 : Int32) dX5_emit_29 (by decide) ?_
    refine E_iadd dX5_emit_30 ?_
    refine E_putI dX5_emit_31 fl_X5_34 rfl (Or.inl rfl) (sk_22 hs) (sn hs (by decide)) (Or.inl (by decide)) rfl rfl ?_
    obtain ⟨τ2, e3⟩ : ∃ τ : AH, τ = (sI (sI σ 27 ((gI σ 22 7).toNatClampNeg) (x1 ||| (x2 <<< ((4 : Int32) &&& 31)))) 22 7 ((gI (sI σ 27 ((gI σ 22 7).toNatClampNeg) (x1 ||| (x2 <<< ((4 : Int32) &&& 31)))) 22 7) + (1 : Int32))) := ⟨_, rfl⟩
    replace h := h τ2 e3
    rw [← e3]
    have hs4 : Sh τ2 := by rw [e3]; exact hs
    obtain ⟨rfl, rfl⟩ := h
    exact E_vret dX5_emit_34 rfl
def W_X5_readClause_80 (X : Sx) (l : Launch) (D : Nat) (σ : AH) (r : Option Value) (σ' : AH) : Prop := ∃ d48 : Nat, ∃ σ49 : AH, d48 + 1 ≤ D ∧ Call X l m_X5_emit d48 [.ref 22, .int (15 : Int32), .int (0 : Int32)] σ none σ49 ∧ (r = some (.int (1 : Int32)) ∧ σ' = σ49)
set_option maxRecDepth 100000 in
theorem w_X5_readClause_80 {X : Sx} {l : Launch} {D : Nat} {σ : AH} {r : Option Value} {σ' : AH} (hs : Sh σ) (h : W_X5_readClause_80 X l D σ r σ') : E X l m_X5_readClause D 80 [(0, .ref 22)] [] σ r σ' := by
  unfold W_X5_readClause_80 at h
  refine E_aload_n 0 dX5_readClause_80 rfl rfl ?_
  refine E_bipush (15 : Int32) dX5_readClause_81 (by decide) ?_
  refine E_iconst (0 : Int32) dX5_readClause_83 (by decide) ?_
  obtain ⟨d48, σ49, hD50, hC51, h⟩ := h
  have hs52 := hC51.1.2.2.2.1 hs
  refine E_callV (As := [.int (15 : Int32), .int (0 : Int32)]) (rest := []) (r1 := none) (b := 22) dX5_readClause_84 ok_X5_emit in_X5_emit se_X5_emit ml_X5_114 hD50 rfl rfl (Nat.le_of_ble_eq_true rfl) (sk_22 hs) (sn hs (by decide)) (by decide) rfl (by decide +kernel) hC51 ?_
  refine E_iconst (1 : Int32) dX5_readClause_87 (by decide) ?_
  obtain ⟨rfl, rfl⟩ := h
  exact E_zret dX5_readClause_88 rfl (Or.inr rfl)
def W_X5_readClause_0 (X : Sx) (l : Launch) (D : Nat) (σ : AH) (r : Option Value) (σ' : AH) : Prop := vp_in (gI σ 22 2) 16 ∧ vp_in (gI (sI σ 26 ((gI σ 22 2).toNatClampNeg) (gI σ 22 7)) 22 2) 16 ∧ ∃ d3 : Nat, ∃ v8 : Int32, ∃ σ4 : AH, d3 + 1 ≤ D ∧ Call X l m_X5_isWord d3 [.ref 22, .ref (1000001 + 0)] (sI (sI σ 26 ((gI σ 22 2).toNatClampNeg) (gI σ 22 7)) 25 ((gI (sI σ 26 ((gI σ 22 2).toNatClampNeg) (gI σ 22 7)) 22 2).toNatClampNeg) (0 : Int32)) (some (.int v8)) σ4 ∧ (if v8 = 0 then ∃ d9 : Nat, ∃ v14 : Int32, ∃ σ10 : AH, d9 + 1 ≤ D ∧ Call X l m_X5_readHead d9 [.ref 22] σ4 (some (.int v14)) σ10 ∧ (if v14 = 0 then (r = some (.int (0 : Int32)) ∧ σ' = σ10) else ∃ d15 : Nat, ∃ v20 : Int32, ∃ σ16 : AH, d15 + 1 ≤ D ∧ Call X l m_X5_isWord d15 [.ref 22, .ref (1000001 + 8)] σ10 (some (.int v20)) σ16 ∧ (if v20 = 0 then W_X5_readClause_80 X l D σ16 r σ' else ∃ d21 : Nat, ∃ σ22 : AH, d21 + 1 ≤ D ∧ Call X l m_X5_step d21 [.ref 22] σ16 none σ22 ∧ ∃ d26 : Nat, ∃ v31 : Int32, ∃ σ27 : AH, d26 + 1 ≤ D ∧ Call X l m_X5_readTest d26 [.ref 22, .int (0 : Int32)] σ22 (some (.int v31)) σ27 ∧ (if v31 = 0 then (r = some (.int (0 : Int32)) ∧ σ' = σ27) else ∃ d32 : Nat, ∃ σ33 : AH, d32 + 1 ≤ D ∧ Call X l m_X5_emit d32 [.ref 22, .int (14 : Int32), .int (0 : Int32)] σ27 none σ33 ∧ W_X5_readClause_80 X l D σ33 r σ'))) else ∃ d37 : Nat, ∃ σ38 : AH, d37 + 1 ≤ D ∧ Call X l m_X5_step d37 [.ref 22] σ4 none σ38 ∧ ∃ d42 : Nat, ∃ v47 : Int32, ∃ σ43 : AH, d42 + 1 ≤ D ∧ Call X l m_X5_readStrike d42 [.ref 22] σ38 (some (.int v47)) σ43 ∧ ((v47 = 0 ∨ v47 = 1) ∧ r = some (.int v47) ∧ σ' = σ43))
set_option maxRecDepth 100000 in
theorem w_X5_readClause_0 {X : Sx} {l : Launch} {D : Nat} {σ : AH} {r : Option Value} {σ' : AH} (hs : Sh σ) (h : W_X5_readClause_0 X l D σ r σ') : E X l m_X5_readClause D 0 [(0, .ref 22)] [] σ r σ' := by
  unfold W_X5_readClause_0 at h
  refine E_aload_n 0 dX5_readClause_0 rfl rfl ?_
  refine E_getR 26 dX5_readClause_1 fl_X5_21 rfl (sk_22 hs) (sn hs (by decide)) (sr_22_5 hs) ?_
  refine E_aload_n 0 dX5_readClause_4 rfl rfl ?_
  refine E_getI dX5_readClause_5 fl_X5_31 rfl (sk_22 hs) (sn hs (by decide)) ?_
  refine E_aload_n 0 dX5_readClause_8 rfl rfl ?_
  refine E_getI dX5_readClause_9 fl_X5_34 rfl (sk_22 hs) (sn hs (by decide)) ?_
  obtain ⟨g1, h⟩ := h
  refine E_iast2 ((gI σ 22 2).toNatClampNeg) dX5_readClause_12 (sk_26 hs) (sn hs (by decide)) (Or.inl (by decide)) g1 rfl ?_
  refine E_aload_n 0 dX5_readClause_13 rfl rfl ?_
  refine E_getR 25 dX5_readClause_14 fl_X5_18 rfl (sk_22 hs) (sn hs (by decide)) (sr_22_4 hs) ?_
  refine E_aload_n 0 dX5_readClause_17 rfl rfl ?_
  refine E_getI dX5_readClause_18 fl_X5_31 rfl (sk_22 hs) (sn hs (by decide)) ?_
  refine E_iconst (0 : Int32) dX5_readClause_21 (by decide) ?_
  obtain ⟨g2, h⟩ := h
  refine E_iast2 ((gI (sI σ 26 ((gI σ 22 2).toNatClampNeg) (gI σ 22 7)) 22 2).toNatClampNeg) dX5_readClause_22 (sk_25 hs) (sn hs (by decide)) (Or.inl (by decide)) g2 rfl ?_
  refine E_aload_n 0 dX5_readClause_23 rfl rfl ?_
  refine E_ldcS 0 (by decide) dX5_readClause_24 rfl rfl ?_
  obtain ⟨d3, v8, σ4, hD5, hC6, h⟩ := h
  have hs7 := hC6.1.2.2.2.1 hs
  refine E_callV (As := [.ref (1000001 + 0)]) (rest := []) (r1 := (some (.int v8))) (b := 22) dX5_readClause_26 ok_X5_isWord in_X5_isWord se_X5_isWord ml_X5_99 hD5 rfl rfl (Nat.le_of_ble_eq_true rfl) (sk_22 hs) (sn hs (by decide)) (by decide) rfl (by decide +kernel) hC6 ?_
  refine E_if_eq 41 dX5_readClause_29 (by decide) (fun c => ?_) (fun c => ?_)
  · rw [if_pos c] at h
    refine E_aload_n 0 dX5_readClause_41 rfl rfl ?_
    obtain ⟨d9, v14, σ10, hD11, hC12, h⟩ := h
    have hs13 := hC12.1.2.2.2.1 hs7
    refine E_callV (As := []) (rest := []) (r1 := (some (.int v14))) (b := 22) dX5_readClause_42 ok_X5_readHead in_X5_readHead se_X5_readHead ml_X5_106 hD11 rfl rfl (Nat.le_of_ble_eq_true rfl) (sk_22 hs7) (sn hs7 (by decide)) (by decide) rfl (by decide +kernel) hC12 ?_
    refine E_if_ne 50 dX5_readClause_45 (by decide) (fun c => ?_) (fun c => ?_)
    · rw [if_neg c] at h
      refine E_aload_n 0 dX5_readClause_50 rfl rfl ?_
      refine E_ldcS 8 (by decide) dX5_readClause_51 rfl rfl ?_
      obtain ⟨d15, v20, σ16, hD17, hC18, h⟩ := h
      have hs19 := hC18.1.2.2.2.1 hs13
      refine E_callV (As := [.ref (1000001 + 8)]) (rest := []) (r1 := (some (.int v20))) (b := 22) dX5_readClause_53 ok_X5_isWord in_X5_isWord se_X5_isWord ml_X5_99 hD17 rfl rfl (Nat.le_of_ble_eq_true rfl) (sk_22 hs13) (sn hs13 (by decide)) (by decide) rfl (by decide +kernel) hC18 ?_
      refine E_if_eq 80 dX5_readClause_56 (by decide) (fun c => ?_) (fun c => ?_)
      · rw [if_pos c] at h
        exact E_lv [0] rfl (w_X5_readClause_80 hs19 h)
      · rw [if_neg c] at h
        refine E_aload_n 0 dX5_readClause_59 rfl rfl ?_
        obtain ⟨d21, σ22, hD23, hC24, h⟩ := h
        have hs25 := hC24.1.2.2.2.1 hs19
        refine E_callV (As := []) (rest := []) (r1 := none) (b := 22) dX5_readClause_60 ok_X5_step in_X5_step se_X5_step ml_X5_43 hD23 rfl rfl (Nat.le_of_ble_eq_true rfl) (sk_22 hs19) (sn hs19 (by decide)) (by decide) rfl (by decide +kernel) hC24 ?_
        refine E_aload_n 0 dX5_readClause_63 rfl rfl ?_
        refine E_iconst (0 : Int32) dX5_readClause_64 (by decide) ?_
        obtain ⟨d26, v31, σ27, hD28, hC29, h⟩ := h
        have hs30 := hC29.1.2.2.2.1 hs25
        refine E_callV (As := [.int (0 : Int32)]) (rest := []) (r1 := (some (.int v31))) (b := 22) dX5_readClause_65 ok_X5_readTest in_X5_readTest se_X5_readTest ml_X5_111 hD28 rfl rfl (Nat.le_of_ble_eq_true rfl) (sk_22 hs25) (sn hs25 (by decide)) (by decide) rfl (by decide +kernel) hC29 ?_
        refine E_if_ne 73 dX5_readClause_68 (by decide) (fun c => ?_) (fun c => ?_)
        · rw [if_neg c] at h
          refine E_aload_n 0 dX5_readClause_73 rfl rfl ?_
          refine E_bipush (14 : Int32) dX5_readClause_74 (by decide) ?_
          refine E_iconst (0 : Int32) dX5_readClause_76 (by decide) ?_
          obtain ⟨d32, σ33, hD34, hC35, h⟩ := h
          have hs36 := hC35.1.2.2.2.1 hs30
          refine E_callV (As := [.int (14 : Int32), .int (0 : Int32)]) (rest := []) (r1 := none) (b := 22) dX5_readClause_77 ok_X5_emit in_X5_emit se_X5_emit ml_X5_114 hD34 rfl rfl (Nat.le_of_ble_eq_true rfl) (sk_22 hs30) (sn hs30 (by decide)) (by decide) rfl (by decide +kernel) hC35 ?_
          exact E_lv [0] rfl (w_X5_readClause_80 hs36 h)
        · rw [if_pos c] at h
          refine E_iconst (0 : Int32) dX5_readClause_71 (by decide) ?_
          obtain ⟨rfl, rfl⟩ := h
          exact E_zret dX5_readClause_72 rfl (Or.inl rfl)
    · rw [if_pos c] at h
      refine E_iconst (0 : Int32) dX5_readClause_48 (by decide) ?_
      obtain ⟨rfl, rfl⟩ := h
      exact E_zret dX5_readClause_49 rfl (Or.inl rfl)
  · rw [if_neg c] at h
    refine E_aload_n 0 dX5_readClause_32 rfl rfl ?_
    obtain ⟨d37, σ38, hD39, hC40, h⟩ := h
    have hs41 := hC40.1.2.2.2.1 hs7
    refine E_callV (As := []) (rest := []) (r1 := none) (b := 22) dX5_readClause_33 ok_X5_step in_X5_step se_X5_step ml_X5_43 hD39 rfl rfl (Nat.le_of_ble_eq_true rfl) (sk_22 hs7) (sn hs7 (by decide)) (by decide) rfl (by decide +kernel) hC40 ?_
    refine E_aload_n 0 dX5_readClause_36 rfl rfl ?_
    obtain ⟨d42, v47, σ43, hD44, hC45, h⟩ := h
    have hs46 := hC45.1.2.2.2.1 hs41
    refine E_callV (As := []) (rest := []) (r1 := (some (.int v47))) (b := 22) dX5_readClause_37 ok_X5_readStrike in_X5_readStrike se_X5_readStrike ml_X5_103 hD44 rfl rfl (Nat.le_of_ble_eq_true rfl) (sk_22 hs41) (sn hs41 (by decide)) (by decide) rfl (by decide +kernel) hC45 ?_
    obtain ⟨hz, rfl, rfl⟩ := h
    exact E_zret dX5_readClause_40 rfl hz
def W_X5_readStrike_0 (X : Sx) (l : Launch) (D : Nat) (σ : AH) (r : Option Value) (σ' : AH) : Prop := (if (gI σ 22 11) = (2 : Int32) then (if (gI σ 22 12) < (24 : Int32) then ∃ d1 : Nat, ∃ σ2 : AH, d1 + 1 ≤ D ∧ Call X l m_X5_step d1 [.ref 22] σ none σ2 ∧ ∃ d6 : Nat, ∃ v11 : Int32, ∃ σ7 : AH, d6 + 1 ≤ D ∧ Call X l m_X5_isWord d6 [.ref 22, .ref (1000001 + 1)] σ2 (some (.int v11)) σ7 ∧ (if v11 = 0 then (r = some (.int (0 : Int32)) ∧ σ' = σ7) else ∃ d12 : Nat, ∃ σ13 : AH, d12 + 1 ≤ D ∧ Call X l m_X5_step d12 [.ref 22] σ7 none σ13 ∧ (if (gI σ13 22 11) = (2 : Int32) then (if (gI σ13 22 12) < (16 : Int32) then vp_in (gI σ13 22 2) 16 ∧ vp_in (gI (sI σ13 24 ((gI σ13 22 2).toNatClampNeg) (62 : Int32)) 22 2) 16 ∧ (∀ τ19 : AH, τ19 = (sI (sI σ13 24 ((gI σ13 22 2).toNatClampNeg) (62 : Int32)) 25 ((gI (sI σ13 24 ((gI σ13 22 2).toNatClampNeg) (62 : Int32)) 22 2).toNatClampNeg) (((gI σ 22 12) * (16 : Int32)) + (gI (sI σ13 24 ((gI σ13 22 2).toNatClampNeg) (62 : Int32)) 22 12))) → ∃ d22 : Nat, ∃ σ23 : AH, d22 + 1 ≤ D ∧ Call X l m_X5_step d22 [.ref 22] τ19 none σ23 ∧ (r = some (.int (1 : Int32)) ∧ σ' = σ23)) else (r = some (.int (0 : Int32)) ∧ σ' = σ13)) else (r = some (.int (0 : Int32)) ∧ σ' = σ13))) else (r = some (.int (0 : Int32)) ∧ σ' = σ)) else (r = some (.int (0 : Int32)) ∧ σ' = σ))
set_option maxRecDepth 100000 in
theorem w_X5_readStrike_0 {X : Sx} {l : Launch} {D : Nat} {σ : AH} {r : Option Value} {σ' : AH} (hs : Sh σ) (h : W_X5_readStrike_0 X l D σ r σ') : E X l m_X5_readStrike D 0 [(0, .ref 22)] [] σ r σ' := by
  unfold W_X5_readStrike_0 at h
  refine E_aload_n 0 dX5_readStrike_0 rfl rfl ?_
  refine E_getI dX5_readStrike_1 fl_X5_50 rfl (sk_22 hs) (sn hs (by decide)) ?_
  refine E_iconst (2 : Int32) dX5_readStrike_4 (by decide) ?_
  refine E_icmp_ne 17 dX5_readStrike_5 (by decide) (fun c => ?_) (fun c => ?_)
  · rw [if_neg c] at h
    refine E_iconst (0 : Int32) dX5_readStrike_17 (by decide) ?_
    obtain ⟨rfl, rfl⟩ := h
    exact E_zret dX5_readStrike_18 rfl (Or.inl rfl)
  · rw [if_pos c] at h
    refine E_aload_n 0 dX5_readStrike_8 rfl rfl ?_
    refine E_getI dX5_readStrike_9 fl_X5_60 rfl (sk_22 hs) (sn hs (by decide)) ?_
    refine E_bipush (24 : Int32) dX5_readStrike_12 (by decide) ?_
    refine E_icmp_lt 19 dX5_readStrike_14 (by decide) (fun c => ?_) (fun c => ?_)
    · rw [if_pos c] at h
      refine E_aload_n 0 dX5_readStrike_19 rfl rfl ?_
      refine E_getI dX5_readStrike_20 fl_X5_60 rfl (sk_22 hs) (sn hs (by decide)) ?_
      refine E_istore_n [(1, .int (gI σ 22 12)), (0, .ref 22)] dX5_readStrike_23 rfl (by decide) rfl ?_
      refine E_aload_n 1 dX5_readStrike_24 rfl rfl ?_
      obtain ⟨d1, σ2, hD3, hC4, h⟩ := h
      have hs5 := hC4.1.2.2.2.1 hs
      refine E_callV (As := []) (rest := []) (r1 := none) (b := 22) dX5_readStrike_25 ok_X5_step in_X5_step se_X5_step ml_X5_43 hD3 rfl rfl (Nat.le_of_ble_eq_true rfl) (sk_22 hs) (sn hs (by decide)) (by decide) rfl (by decide +kernel) hC4 ?_
      refine E_aload_n 1 dX5_readStrike_28 rfl rfl ?_
      refine E_ldcS 1 (by decide) dX5_readStrike_29 rfl rfl ?_
      obtain ⟨d6, v11, σ7, hD8, hC9, h⟩ := h
      have hs10 := hC9.1.2.2.2.1 hs5
      refine E_callV (As := [.ref (1000001 + 1)]) (rest := []) (r1 := (some (.int v11))) (b := 22) dX5_readStrike_31 ok_X5_isWord in_X5_isWord se_X5_isWord ml_X5_99 hD8 rfl rfl (Nat.le_of_ble_eq_true rfl) (sk_22 hs5) (sn hs5 (by decide)) (by decide) rfl (by decide +kernel) hC9 ?_
      refine E_if_ne 39 dX5_readStrike_34 (by decide) (fun c => ?_) (fun c => ?_)
      · rw [if_neg c] at h
        refine E_aload_n 1 dX5_readStrike_39 rfl rfl ?_
        obtain ⟨d12, σ13, hD14, hC15, h⟩ := h
        have hs16 := hC15.1.2.2.2.1 hs10
        refine E_callV (As := []) (rest := []) (r1 := none) (b := 22) dX5_readStrike_40 ok_X5_step in_X5_step se_X5_step ml_X5_43 hD14 rfl rfl (Nat.le_of_ble_eq_true rfl) (sk_22 hs10) (sn hs10 (by decide)) (by decide) rfl (by decide +kernel) hC15 ?_
        refine E_aload_n 1 dX5_readStrike_43 rfl rfl ?_
        refine E_getI dX5_readStrike_44 fl_X5_50 rfl (sk_22 hs16) (sn hs16 (by decide)) ?_
        refine E_iconst (2 : Int32) dX5_readStrike_47 (by decide) ?_
        refine E_icmp_ne 60 dX5_readStrike_48 (by decide) (fun c => ?_) (fun c => ?_)
        · rw [if_neg c] at h
          refine E_iconst (0 : Int32) dX5_readStrike_60 (by decide) ?_
          obtain ⟨rfl, rfl⟩ := h
          exact E_zret dX5_readStrike_61 rfl (Or.inl rfl)
        · rw [if_pos c] at h
          refine E_aload_n 1 dX5_readStrike_51 rfl rfl ?_
          refine E_getI dX5_readStrike_52 fl_X5_60 rfl (sk_22 hs16) (sn hs16 (by decide)) ?_
          refine E_bipush (16 : Int32) dX5_readStrike_55 (by decide) ?_
          refine E_icmp_lt 62 dX5_readStrike_57 (by decide) (fun c => ?_) (fun c => ?_)
          · rw [if_pos c] at h
            refine E_aload_n 1 dX5_readStrike_62 rfl rfl ?_
            refine E_getR 24 dX5_readStrike_63 fl_X5_15 rfl (sk_22 hs16) (sn hs16 (by decide)) (sr_22_3 hs16) ?_
            refine E_aload_n 1 dX5_readStrike_66 rfl rfl ?_
            refine E_getI dX5_readStrike_67 fl_X5_31 rfl (sk_22 hs16) (sn hs16 (by decide)) ?_
            refine E_bipush (62 : Int32) dX5_readStrike_70 (by decide) ?_
            obtain ⟨g17, h⟩ := h
            refine E_iast2 ((gI σ13 22 2).toNatClampNeg) dX5_readStrike_72 (sk_24 hs16) (sn hs16 (by decide)) (Or.inl (by decide)) g17 rfl ?_
            refine E_aload_n 1 dX5_readStrike_73 rfl rfl ?_
            refine E_getR 25 dX5_readStrike_74 fl_X5_18 rfl (sk_22 hs16) (sn hs16 (by decide)) (sr_22_4 hs16) ?_
            refine E_aload_n 1 dX5_readStrike_77 rfl rfl ?_
            refine E_getI dX5_readStrike_78 fl_X5_31 rfl (sk_22 hs16) (sn hs16 (by decide)) ?_
            refine E_iload_n 0 dX5_readStrike_81 rfl rfl ?_
            refine E_bipush (16 : Int32) dX5_readStrike_82 (by decide) ?_
            refine E_imul dX5_readStrike_84 ?_
            refine E_aload_n 1 dX5_readStrike_85 rfl rfl ?_
            refine E_getI dX5_readStrike_86 fl_X5_60 rfl (sk_22 hs16) (sn hs16 (by decide)) ?_
            refine E_iadd dX5_readStrike_89 ?_
            obtain ⟨g18, h⟩ := h
            refine E_iast2 ((gI (sI σ13 24 ((gI σ13 22 2).toNatClampNeg) (62 : Int32)) 22 2).toNatClampNeg) dX5_readStrike_90 (sk_25 hs16) (sn hs16 (by decide)) (Or.inl (by decide)) g18 rfl ?_
            obtain ⟨τ19, e20⟩ : ∃ τ : AH, τ = (sI (sI σ13 24 ((gI σ13 22 2).toNatClampNeg) (62 : Int32)) 25 ((gI (sI σ13 24 ((gI σ13 22 2).toNatClampNeg) (62 : Int32)) 22 2).toNatClampNeg) (((gI σ 22 12) * (16 : Int32)) + (gI (sI σ13 24 ((gI σ13 22 2).toNatClampNeg) (62 : Int32)) 22 12))) := ⟨_, rfl⟩
            replace h := h τ19 e20
            rw [← e20]
            have hs21 : Sh τ19 := by rw [e20]; exact hs16
            refine E_aload_n 1 dX5_readStrike_91 rfl rfl ?_
            obtain ⟨d22, σ23, hD24, hC25, h⟩ := h
            have hs26 := hC25.1.2.2.2.1 hs21
            refine E_callV (As := []) (rest := []) (r1 := none) (b := 22) dX5_readStrike_92 ok_X5_step in_X5_step se_X5_step ml_X5_43 hD24 rfl rfl (Nat.le_of_ble_eq_true rfl) (sk_22 hs21) (sn hs21 (by decide)) (by decide) rfl (by decide +kernel) hC25 ?_
            refine E_iconst (1 : Int32) dX5_readStrike_95 (by decide) ?_
            obtain ⟨rfl, rfl⟩ := h
            exact E_zret dX5_readStrike_96 rfl (Or.inr rfl)
          · rw [if_neg c] at h
            refine E_iconst (0 : Int32) dX5_readStrike_60 (by decide) ?_
            obtain ⟨rfl, rfl⟩ := h
            exact E_zret dX5_readStrike_61 rfl (Or.inl rfl)
      · rw [if_pos c] at h
        refine E_iconst (0 : Int32) dX5_readStrike_37 (by decide) ?_
        obtain ⟨rfl, rfl⟩ := h
        exact E_zret dX5_readStrike_38 rfl (Or.inl rfl)
    · rw [if_neg c] at h
      refine E_iconst (0 : Int32) dX5_readStrike_17 (by decide) ?_
      obtain ⟨rfl, rfl⟩ := h
      exact E_zret dX5_readStrike_18 rfl (Or.inl rfl)
def W_X5_readHead_150 (X : Sx) (l : Launch) (D : Nat) (x1 : Int32) (x4 : Int32) (y0 : Int32) (y1 : Int32) (σ : AH) (r : Option Value) (σ' : AH) : Prop := vp_in y1 16 ∧ (if x1 = (7 : Int32) then ∃ d44 : Nat, ∃ σ45 : AH, d44 + 1 ≤ D ∧ Call X l m_X5_emit d44 [.ref 22, .int (0 : Int32), .int x4] (sI σ 24 y1.toNatClampNeg y0) none σ45 ∧ (r = some (.int (1 : Int32)) ∧ σ' = σ45) else ∃ d38 : Nat, ∃ v43 : Int32, ∃ σ39 : AH, d38 + 1 ≤ D ∧ Call X l m_X5_readSum d38 [.ref 22, .int (0 : Int32)] (sI σ 24 y1.toNatClampNeg y0) (some (.int v43)) σ39 ∧ ((v43 = 0 ∨ v43 = 1) ∧ r = some (.int v43) ∧ σ' = σ39))
set_option maxRecDepth 100000 in
theorem w_X5_readHead_150 {X : Sx} {l : Launch} {D : Nat} {x1 : Int32} {x4 : Int32} {y0 : Int32} {y1 : Int32} {σ : AH} {r : Option Value} {σ' : AH} (hs : Sh σ) (h : W_X5_readHead_150 X l D x1 x4 y0 y1 σ r σ') : E X l m_X5_readHead D 150 [(0, .ref 22), (1, .int x1), (4, .int x4)] [.int y0, .int y1, .ref 24] σ r σ' := by
  unfold W_X5_readHead_150 at h
  obtain ⟨g37, h⟩ := h
  refine E_iast2 (y1.toNatClampNeg) dX5_readHead_150 (sk_24 hs) (sn hs (by decide)) (Or.inl (by decide)) g37 rfl ?_
  refine E_iload_n 1 dX5_readHead_151 rfl rfl ?_
  refine E_bipush (7 : Int32) dX5_readHead_152 (by decide) ?_
  refine E_icmp_ne 166 dX5_readHead_154 (by decide) (fun c => ?_) (fun c => ?_)
  · rw [if_neg c] at h
    refine E_aload_n 0 dX5_readHead_166 rfl rfl ?_
    refine E_iconst (0 : Int32) dX5_readHead_167 (by decide) ?_
    obtain ⟨d38, v43, σ39, hD40, hC41, h⟩ := h
    have hs42 := hC41.1.2.2.2.1 hs
    refine E_callV (As := [.int (0 : Int32)]) (rest := []) (r1 := (some (.int v43))) (b := 22) dX5_readHead_168 ok_X5_readSum in_X5_readSum se_X5_readSum ml_X5_138 hD40 rfl rfl (Nat.le_of_ble_eq_true rfl) (sk_22 hs) (sn hs (by decide)) (by decide) rfl (by decide +kernel) hC41 ?_
    obtain ⟨hz, rfl, rfl⟩ := h
    exact E_zret dX5_readHead_171 rfl hz
  · rw [if_pos c] at h
    refine E_aload_n 0 dX5_readHead_157 rfl rfl ?_
    refine E_iconst (0 : Int32) dX5_readHead_158 (by decide) ?_
    refine E_iload 2 dX5_readHead_159 rfl ?_
    obtain ⟨d44, σ45, hD46, hC47, h⟩ := h
    have hs48 := hC47.1.2.2.2.1 hs
    refine E_callV (As := [.int (0 : Int32), .int x4]) (rest := []) (r1 := none) (b := 22) dX5_readHead_161 ok_X5_emit in_X5_emit se_X5_emit ml_X5_114 hD46 rfl rfl (Nat.le_of_ble_eq_true rfl) (sk_22 hs) (sn hs (by decide)) (by decide) rfl (by decide +kernel) hC47 ?_
    refine E_iconst (1 : Int32) dX5_readHead_164 (by decide) ?_
    obtain ⟨rfl, rfl⟩ := h
    exact E_zret dX5_readHead_165 rfl (Or.inr rfl)
def W_X5_readHead_110 (X : Sx) (l : Launch) (D : Nat) (x1 : Int32) (x2 : Int32) (x4 : Int32) (x5 : Int32) (y0 : Int32) (σ : AH) (r : Option Value) (σ' : AH) : Prop := (if y0 = (-1 : Int32) then (r = some (.int (0 : Int32)) ∧ σ' = σ) else (if x2 = 0 then ∃ d25 : Nat, ∃ v30 : Int32, ∃ σ26 : AH, d25 + 1 ≤ D ∧ Call X l m_X5_headOf d25 [.int x1, .int x4] σ (some (.int v30)) σ26 ∧ W_X5_readHead_150 X l D x1 x4 v30 (gI σ 22 2) σ26 r σ' else ∃ d31 : Nat, ∃ v36 : Int32, ∃ σ32 : AH, d31 + 1 ≤ D ∧ Call X l m_X11_needHead d31 [.int x4, .int x5, .int y0] σ (some (.int v36)) σ32 ∧ W_X5_readHead_150 X l D x1 x4 v36 (gI σ 22 2) σ32 r σ'))
set_option maxRecDepth 100000 in
theorem w_X5_readHead_110 {X : Sx} {l : Launch} {D : Nat} {x1 : Int32} {x2 : Int32} {x4 : Int32} {x5 : Int32} {y0 : Int32} {σ : AH} {r : Option Value} {σ' : AH} (hs : Sh σ) (h : W_X5_readHead_110 X l D x1 x2 x4 x5 y0 σ r σ') : E X l m_X5_readHead D 110 [(0, .ref 22), (1, .int x1), (2, .int x2), (4, .int x4), (5, .int x5)] [.int y0] σ r σ' := by
  unfold W_X5_readHead_110 at h
  refine E_istore [(6, .int y0), (0, .ref 22), (1, .int x1), (2, .int x2), (4, .int x4), (5, .int x5)] dX5_readHead_110 (by decide) rfl ?_
  refine E_iload 0 dX5_readHead_112 rfl ?_
  refine E_iconst (-1 : Int32) dX5_readHead_114 (by decide) ?_
  refine E_icmp_ne 120 dX5_readHead_115 (by decide) (fun c => ?_) (fun c => ?_)
  · rw [if_neg c] at h
    refine E_aload_n 1 dX5_readHead_120 rfl rfl ?_
    refine E_getR 24 dX5_readHead_121 fl_X5_15 rfl (sk_22 hs) (sn hs (by decide)) (sr_22_3 hs) ?_
    refine E_aload_n 1 dX5_readHead_124 rfl rfl ?_
    refine E_getI dX5_readHead_125 fl_X5_31 rfl (sk_22 hs) (sn hs (by decide)) ?_
    refine E_iload_n 3 dX5_readHead_128 rfl rfl ?_
    refine E_if_eq 144 dX5_readHead_129 (by decide) (fun c => ?_) (fun c => ?_)
    · rw [if_pos c] at h
      refine E_iload_n 2 dX5_readHead_144 rfl rfl ?_
      refine E_iload 4 dX5_readHead_145 rfl ?_
      obtain ⟨d25, v30, σ26, hD27, hC28, h⟩ := h
      have hs29 := hC28.1.2.2.2.1 hs
      refine E_callS (As := [.int x1, .int x4]) (rest := [.int (gI σ 22 2), .ref 24]) (r1 := (some (.int v30))) dX5_readHead_147 ok_X5_headOf is_X5_headOf ml_X5_135 hD27 rfl rfl (Nat.le_of_ble_eq_true rfl) (by decide +kernel) hC28 ?_
      exact E_lv [1, 2, 4] rfl (w_X5_readHead_150 hs29 h)
    · rw [if_neg c] at h
      refine E_iload 4 dX5_readHead_132 rfl ?_
      refine E_iload 5 dX5_readHead_134 rfl ?_
      refine E_iload 0 dX5_readHead_136 rfl ?_
      obtain ⟨d31, v36, σ32, hD33, hC34, h⟩ := h
      have hs35 := hC34.1.2.2.2.1 hs
      refine E_callSN (As := [.int x4, .int x5, .int y0]) (rest := [.int (gI σ 22 2), .ref 24]) (r1 := (some (.int v36))) dX5_readHead_138 ok_X11_needHead is_X11_needHead (by decide) hD33 rfl rfl (Nat.le_of_ble_eq_true rfl) (by decide +kernel) hC34 ?_
      refine E_goto 150 dX5_readHead_141 (by decide) ?_
      exact E_lv [1, 2, 4] rfl (w_X5_readHead_150 hs35 h)
  · rw [if_pos c] at h
    refine E_iconst (0 : Int32) dX5_readHead_118 (by decide) ?_
    obtain ⟨rfl, rfl⟩ := h
    exact E_zret dX5_readHead_119 rfl (Or.inl rfl)
def W_X5_readHead_86 (X : Sx) (l : Launch) (D : Nat) (x1 : Int32) (x2 : Int32) (x4 : Int32) (y0 : Int32) (σ : AH) (r : Option Value) (σ' : AH) : Prop := (if y0 = (-1 : Int32) then (r = some (.int (0 : Int32)) ∧ σ' = σ) else (if x1 = 0 then ∃ d19 : Nat, ∃ v24 : Int32, ∃ σ20 : AH, d19 + 1 ≤ D ∧ Call X l m_X5_takeWord d19 [.ref 22, .ref (1000001 + 5)] σ (some (.int v24)) σ20 ∧ W_X5_readHead_110 X l D x1 x2 x4 y0 v24 σ20 r σ' else W_X5_readHead_110 X l D x1 x2 x4 y0 (5 : Int32) σ r σ'))
set_option maxRecDepth 100000 in
theorem w_X5_readHead_86 {X : Sx} {l : Launch} {D : Nat} {x1 : Int32} {x2 : Int32} {x4 : Int32} {y0 : Int32} {σ : AH} {r : Option Value} {σ' : AH} (hs : Sh σ) (h : W_X5_readHead_86 X l D x1 x2 x4 y0 σ r σ') : E X l m_X5_readHead D 86 [(0, .ref 22), (1, .int x1), (2, .int x2), (4, .int x4)] [.int y0] σ r σ' := by
  unfold W_X5_readHead_86 at h
  refine E_istore [(5, .int y0), (0, .ref 22), (1, .int x1), (2, .int x2), (4, .int x4)] dX5_readHead_86 (by decide) rfl ?_
  refine E_iload 0 dX5_readHead_88 rfl ?_
  refine E_iconst (-1 : Int32) dX5_readHead_90 (by decide) ?_
  refine E_icmp_ne 96 dX5_readHead_91 (by decide) (fun c => ?_) (fun c => ?_)
  · rw [if_neg c] at h
    refine E_iload_n 2 dX5_readHead_96 rfl rfl ?_
    refine E_if_ne 109 dX5_readHead_97 (by decide) (fun c => ?_) (fun c => ?_)
    · rw [if_neg c] at h
      refine E_iconst (5 : Int32) dX5_readHead_109 (by decide) ?_
      exact E_lv [1, 2, 3, 4, 0] rfl (w_X5_readHead_110 hs h)
    · rw [if_pos c] at h
      refine E_aload_n 1 dX5_readHead_100 rfl rfl ?_
      refine E_ldcS 5 (by decide) dX5_readHead_101 rfl rfl ?_
      obtain ⟨d19, v24, σ20, hD21, hC22, h⟩ := h
      have hs23 := hC22.1.2.2.2.1 hs
      refine E_callV (As := [.ref (1000001 + 5)]) (rest := []) (r1 := (some (.int v24))) (b := 22) dX5_readHead_103 ok_X5_takeWord in_X5_takeWord se_X5_takeWord ml_X5_122 hD21 rfl rfl (Nat.le_of_ble_eq_true rfl) (sk_22 hs) (sn hs (by decide)) (by decide) rfl (by decide +kernel) hC22 ?_
      refine E_goto 110 dX5_readHead_106 (by decide) ?_
      exact E_lv [1, 2, 3, 4, 0] rfl (w_X5_readHead_110 hs23 h)
  · rw [if_pos c] at h
    refine E_iconst (0 : Int32) dX5_readHead_94 (by decide) ?_
    obtain ⟨rfl, rfl⟩ := h
    exact E_zret dX5_readHead_95 rfl (Or.inl rfl)
def W_X5_readHead_57 (X : Sx) (l : Launch) (D : Nat) (x1 : Int32) (x2 : Int32) (y0 : Int32) (σ : AH) (r : Option Value) (σ' : AH) : Prop := (if x1 = (-1 : Int32) then (r = some (.int (0 : Int32)) ∧ σ' = σ) else (if y0 = (-1 : Int32) then (r = some (.int (0 : Int32)) ∧ σ' = σ) else (if x2 = 0 then W_X5_readHead_86 X l D x1 x2 y0 (0 : Int32) σ r σ' else ∃ d13 : Nat, ∃ v18 : Int32, ∃ σ14 : AH, d13 + 1 ≤ D ∧ Call X l m_X5_takeWord d13 [.ref 22, .ref (1000001 + 4)] σ (some (.int v18)) σ14 ∧ W_X5_readHead_86 X l D x1 x2 y0 v18 σ14 r σ')))
set_option maxRecDepth 100000 in
theorem w_X5_readHead_57 {X : Sx} {l : Launch} {D : Nat} {x1 : Int32} {x2 : Int32} {y0 : Int32} {σ : AH} {r : Option Value} {σ' : AH} (hs : Sh σ) (h : W_X5_readHead_57 X l D x1 x2 y0 σ r σ') : E X l m_X5_readHead D 57 [(0, .ref 22), (1, .int x1), (2, .int x2)] [.int y0] σ r σ' := by
  unfold W_X5_readHead_57 at h
  refine E_istore [(4, .int y0), (0, .ref 22), (1, .int x1), (2, .int x2)] dX5_readHead_57 (by decide) rfl ?_
  refine E_iload_n 2 dX5_readHead_59 rfl rfl ?_
  refine E_iconst (-1 : Int32) dX5_readHead_60 (by decide) ?_
  refine E_icmp_eq 70 dX5_readHead_61 (by decide) (fun c => ?_) (fun c => ?_)
  · rw [if_pos c] at h
    refine E_iconst (0 : Int32) dX5_readHead_70 (by decide) ?_
    obtain ⟨rfl, rfl⟩ := h
    exact E_zret dX5_readHead_71 rfl (Or.inl rfl)
  · rw [if_neg c] at h
    refine E_iload 0 dX5_readHead_64 rfl ?_
    refine E_iconst (-1 : Int32) dX5_readHead_66 (by decide) ?_
    refine E_icmp_ne 72 dX5_readHead_67 (by decide) (fun c => ?_) (fun c => ?_)
    · rw [if_neg c] at h
      refine E_iload_n 3 dX5_readHead_72 rfl rfl ?_
      refine E_if_eq 85 dX5_readHead_73 (by decide) (fun c => ?_) (fun c => ?_)
      · rw [if_pos c] at h
        refine E_iconst (0 : Int32) dX5_readHead_85 (by decide) ?_
        exact E_lv [1, 2, 3, 0] rfl (w_X5_readHead_86 hs h)
      · rw [if_neg c] at h
        refine E_aload_n 1 dX5_readHead_76 rfl rfl ?_
        refine E_ldcS 4 (by decide) dX5_readHead_77 rfl rfl ?_
        obtain ⟨d13, v18, σ14, hD15, hC16, h⟩ := h
        have hs17 := hC16.1.2.2.2.1 hs
        refine E_callV (As := [.ref (1000001 + 4)]) (rest := []) (r1 := (some (.int v18))) (b := 22) dX5_readHead_79 ok_X5_takeWord in_X5_takeWord se_X5_takeWord ml_X5_122 hD15 rfl rfl (Nat.le_of_ble_eq_true rfl) (sk_22 hs) (sn hs (by decide)) (by decide) rfl (by decide +kernel) hC16 ?_
        refine E_goto 86 dX5_readHead_82 (by decide) ?_
        exact E_lv [1, 2, 3, 0] rfl (w_X5_readHead_86 hs17 h)
    · rw [if_pos c] at h
      refine E_iconst (0 : Int32) dX5_readHead_70 (by decide) ?_
      obtain ⟨rfl, rfl⟩ := h
      exact E_zret dX5_readHead_71 rfl (Or.inl rfl)
def W_X5_readHead_42 (X : Sx) (l : Launch) (D : Nat) (x1 : Int32) (x2 : Int32) (y0 : Int32) (σ : AH) (r : Option Value) (σ' : AH) : Prop := (if y0 = 0 then W_X5_readHead_57 X l D x1 x2 (0 : Int32) σ r σ' else ∃ d7 : Nat, ∃ v12 : Int32, ∃ σ8 : AH, d7 + 1 ≤ D ∧ Call X l m_X5_takeWord d7 [.ref 22, .ref (1000001 + 3)] σ (some (.int v12)) σ8 ∧ W_X5_readHead_57 X l D x1 x2 v12 σ8 r σ')
set_option maxRecDepth 100000 in
theorem w_X5_readHead_42 {X : Sx} {l : Launch} {D : Nat} {x1 : Int32} {x2 : Int32} {y0 : Int32} {σ : AH} {r : Option Value} {σ' : AH} (hs : Sh σ) (h : W_X5_readHead_42 X l D x1 x2 y0 σ r σ') : E X l m_X5_readHead D 42 [(0, .ref 22), (1, .int x1), (2, .int x2)] [.int y0] σ r σ' := by
  unfold W_X5_readHead_42 at h
  refine E_istore_n [(3, .int y0), (0, .ref 22), (1, .int x1), (2, .int x2)] dX5_readHead_42 rfl (by decide) rfl ?_
  refine E_iload_n 0 dX5_readHead_43 rfl rfl ?_
  refine E_if_eq 56 dX5_readHead_44 (by decide) (fun c => ?_) (fun c => ?_)
  · rw [if_pos c] at h
    refine E_iconst (0 : Int32) dX5_readHead_56 (by decide) ?_
    exact E_lv [1, 2, 3] rfl (w_X5_readHead_57 hs h)
  · rw [if_neg c] at h
    refine E_aload_n 1 dX5_readHead_47 rfl rfl ?_
    refine E_ldcS 3 (by decide) dX5_readHead_48 rfl rfl ?_
    obtain ⟨d7, v12, σ8, hD9, hC10, h⟩ := h
    have hs11 := hC10.1.2.2.2.1 hs
    refine E_callV (As := [.ref (1000001 + 3)]) (rest := []) (r1 := (some (.int v12))) (b := 22) dX5_readHead_50 ok_X5_takeWord in_X5_takeWord se_X5_takeWord ml_X5_122 hD9 rfl rfl (Nat.le_of_ble_eq_true rfl) (sk_22 hs) (sn hs (by decide)) (by decide) rfl (by decide +kernel) hC10 ?_
    refine E_goto 57 dX5_readHead_53 (by decide) ?_
    exact E_lv [1, 2, 3] rfl (w_X5_readHead_57 hs11 h)
def W_X5_readHead_37 (X : Sx) (l : Launch) (D : Nat) (x1 : Int32) (x2 : Int32) (σ : AH) (r : Option Value) (σ' : AH) : Prop := W_X5_readHead_42 X l D x1 x2 (1 : Int32) σ r σ'
set_option maxRecDepth 100000 in
theorem w_X5_readHead_37 {X : Sx} {l : Launch} {D : Nat} {x1 : Int32} {x2 : Int32} {σ : AH} {r : Option Value} {σ' : AH} (hs : Sh σ) (h : W_X5_readHead_37 X l D x1 x2 σ r σ') : E X l m_X5_readHead D 37 [(0, .ref 22), (1, .int x1), (2, .int x2)] [] σ r σ' := by
  unfold W_X5_readHead_37 at h
  refine E_iconst (1 : Int32) dX5_readHead_37 (by decide) ?_
  refine E_goto 42 dX5_readHead_38 (by decide) ?_
  exact E_lv [0, 1, 2] rfl (w_X5_readHead_42 hs h)
def W_X5_readHead_21 (X : Sx) (l : Launch) (D : Nat) (x1 : Int32) (y0 : Int32) (σ : AH) (r : Option Value) (σ' : AH) : Prop := (if y0 = 0 then (if x1 = (3 : Int32) then W_X5_readHead_37 X l D x1 y0 σ r σ' else (if x1 = (7 : Int32) then W_X5_readHead_37 X l D x1 y0 σ r σ' else W_X5_readHead_42 X l D x1 y0 (0 : Int32) σ r σ')) else W_X5_readHead_37 X l D x1 y0 σ r σ')
set_option maxRecDepth 100000 in
theorem w_X5_readHead_21 {X : Sx} {l : Launch} {D : Nat} {x1 : Int32} {y0 : Int32} {σ : AH} {r : Option Value} {σ' : AH} (hs : Sh σ) (h : W_X5_readHead_21 X l D x1 y0 σ r σ') : E X l m_X5_readHead D 21 [(0, .ref 22), (1, .int x1)] [.int y0] σ r σ' := by
  unfold W_X5_readHead_21 at h
  refine E_istore_n [(2, .int y0), (0, .ref 22), (1, .int x1)] dX5_readHead_21 rfl (by decide) rfl ?_
  refine E_iload_n 0 dX5_readHead_22 rfl rfl ?_
  refine E_if_ne 37 dX5_readHead_23 (by decide) (fun c => ?_) (fun c => ?_)
  · rw [if_neg c] at h
    exact E_lv [1, 2, 0] rfl (w_X5_readHead_37 hs h)
  · rw [if_pos c] at h
    refine E_iload_n 2 dX5_readHead_26 rfl rfl ?_
    refine E_iconst (3 : Int32) dX5_readHead_27 (by decide) ?_
    refine E_icmp_eq 37 dX5_readHead_28 (by decide) (fun c => ?_) (fun c => ?_)
    · rw [if_pos c] at h
      exact E_lv [1, 2, 0] rfl (w_X5_readHead_37 hs h)
    · rw [if_neg c] at h
      refine E_iload_n 2 dX5_readHead_31 rfl rfl ?_
      refine E_bipush (7 : Int32) dX5_readHead_32 (by decide) ?_
      refine E_icmp_ne 41 dX5_readHead_34 (by decide) (fun c => ?_) (fun c => ?_)
      · rw [if_neg c] at h
        refine E_iconst (0 : Int32) dX5_readHead_41 (by decide) ?_
        exact E_lv [1, 2, 0] rfl (w_X5_readHead_42 hs h)
      · rw [if_pos c] at h
        exact E_lv [1, 2, 0] rfl (w_X5_readHead_37 hs h)
def W_X5_readHead_16 (X : Sx) (l : Launch) (D : Nat) (x1 : Int32) (σ : AH) (r : Option Value) (σ' : AH) : Prop := W_X5_readHead_21 X l D x1 (1 : Int32) σ r σ'
set_option maxRecDepth 100000 in
theorem w_X5_readHead_16 {X : Sx} {l : Launch} {D : Nat} {x1 : Int32} {σ : AH} {r : Option Value} {σ' : AH} (hs : Sh σ) (h : W_X5_readHead_16 X l D x1 σ r σ') : E X l m_X5_readHead D 16 [(0, .ref 22), (1, .int x1)] [] σ r σ' := by
  unfold W_X5_readHead_16 at h
  refine E_iconst (1 : Int32) dX5_readHead_16 (by decide) ?_
  refine E_goto 21 dX5_readHead_17 (by decide) ?_
  exact E_lv [0, 1] rfl (w_X5_readHead_21 hs h)
def W_X5_readHead_0 (X : Sx) (l : Launch) (D : Nat) (σ : AH) (r : Option Value) (σ' : AH) : Prop := ∃ d1 : Nat, ∃ v6 : Int32, ∃ σ2 : AH, d1 + 1 ≤ D ∧ Call X l m_X5_takeWord d1 [.ref 22, .ref (1000001 + 2)] σ (some (.int v6)) σ2 ∧ (if v6 = 0 then W_X5_readHead_16 X l D v6 σ2 r σ' else (if v6 = (1 : Int32) then W_X5_readHead_16 X l D v6 σ2 r σ' else W_X5_readHead_21 X l D v6 (0 : Int32) σ2 r σ'))
set_option maxRecDepth 100000 in
theorem w_X5_readHead_0 {X : Sx} {l : Launch} {D : Nat} {σ : AH} {r : Option Value} {σ' : AH} (hs : Sh σ) (h : W_X5_readHead_0 X l D σ r σ') : E X l m_X5_readHead D 0 [(0, .ref 22)] [] σ r σ' := by
  unfold W_X5_readHead_0 at h
  refine E_aload_n 0 dX5_readHead_0 rfl rfl ?_
  refine E_ldcS 2 (by decide) dX5_readHead_1 rfl rfl ?_
  obtain ⟨d1, v6, σ2, hD3, hC4, h⟩ := h
  have hs5 := hC4.1.2.2.2.1 hs
  refine E_callV (As := [.ref (1000001 + 2)]) (rest := []) (r1 := (some (.int v6))) (b := 22) dX5_readHead_3 ok_X5_takeWord in_X5_takeWord se_X5_takeWord ml_X5_122 hD3 rfl rfl (Nat.le_of_ble_eq_true rfl) (sk_22 hs) (sn hs (by decide)) (by decide) rfl (by decide +kernel) hC4 ?_
  refine E_istore_n [(1, .int v6), (0, .ref 22)] dX5_readHead_6 rfl (by decide) rfl ?_
  refine E_iload_n 0 dX5_readHead_7 rfl rfl ?_
  refine E_if_eq 16 dX5_readHead_8 (by decide) (fun c => ?_) (fun c => ?_)
  · rw [if_pos c] at h
    exact E_lv [1, 0] rfl (w_X5_readHead_16 hs5 h)
  · rw [if_neg c] at h
    refine E_iload_n 0 dX5_readHead_11 rfl rfl ?_
    refine E_iconst (1 : Int32) dX5_readHead_12 (by decide) ?_
    refine E_icmp_ne 20 dX5_readHead_13 (by decide) (fun c => ?_) (fun c => ?_)
    · rw [if_neg c] at h
      refine E_iconst (0 : Int32) dX5_readHead_20 (by decide) ?_
      exact E_lv [1, 0] rfl (w_X5_readHead_21 hs5 h)
    · rw [if_pos c] at h
      exact E_lv [1, 0] rfl (w_X5_readHead_16 hs5 h)
def W_X5_headOf_0 (X : Sx) (l : Launch) (D : Nat) (x0 : Int32) (x1 : Int32) (σ : AH) (r : Option Value) (σ' : AH) : Prop := (if x0 = 2 then (r = some (.int (54 : Int32)) ∧ σ' = σ) else (if x0 = 3 then (r = some (.int ((55 : Int32) + x1)) ∧ σ' = σ) else (if x0 = 4 then (r = some (.int (58 : Int32)) ∧ σ' = σ) else (if x0 = 5 then (r = some (.int (59 : Int32)) ∧ σ' = σ) else (if x0 = 6 then (r = some (.int (60 : Int32)) ∧ σ' = σ) else (r = some (.int (61 : Int32)) ∧ σ' = σ))))))
set_option maxRecDepth 100000 in
theorem w_X5_headOf_0 {X : Sx} {l : Launch} {D : Nat} {x0 : Int32} {x1 : Int32} {σ : AH} {r : Option Value} {σ' : AH} (hs : Sh σ) (h : W_X5_headOf_0 X l D x0 x1 σ r σ') : E X l m_X5_headOf D 0 [(0, .int x0), (1, .int x1)] [] σ r σ' := by
  unfold W_X5_headOf_0 at h
  refine E_iload_n 0 dX5_headOf_0 rfl rfl ?_
  by_cases c2 : x0 = 2
  · rw [if_pos c2] at h
    refine E_tabIn (off := 35) 36 dX5_headOf_1 (by rw [c2]; decide) (by rw [c2]; decide) (by rw [c2]; rfl) (by decide) ?_
    refine E_bipush (54 : Int32) dX5_headOf_36 (by decide) ?_
    obtain ⟨rfl, rfl⟩ := h
    exact E_iret dX5_headOf_38 rfl
  rw [if_neg c2] at h
  by_cases c3 : x0 = 3
  · rw [if_pos c3] at h
    refine E_tabIn (off := 38) 39 dX5_headOf_1 (by rw [c3]; decide) (by rw [c3]; decide) (by rw [c3]; rfl) (by decide) ?_
    refine E_bipush (55 : Int32) dX5_headOf_39 (by decide) ?_
    refine E_iload_n 1 dX5_headOf_41 rfl rfl ?_
    refine E_iadd dX5_headOf_42 ?_
    obtain ⟨rfl, rfl⟩ := h
    exact E_iret dX5_headOf_43 rfl
  rw [if_neg c3] at h
  by_cases c4 : x0 = 4
  · rw [if_pos c4] at h
    refine E_tabIn (off := 43) 44 dX5_headOf_1 (by rw [c4]; decide) (by rw [c4]; decide) (by rw [c4]; rfl) (by decide) ?_
    refine E_bipush (58 : Int32) dX5_headOf_44 (by decide) ?_
    obtain ⟨rfl, rfl⟩ := h
    exact E_iret dX5_headOf_46 rfl
  rw [if_neg c4] at h
  by_cases c5 : x0 = 5
  · rw [if_pos c5] at h
    refine E_tabIn (off := 46) 47 dX5_headOf_1 (by rw [c5]; decide) (by rw [c5]; decide) (by rw [c5]; rfl) (by decide) ?_
    refine E_bipush (59 : Int32) dX5_headOf_47 (by decide) ?_
    obtain ⟨rfl, rfl⟩ := h
    exact E_iret dX5_headOf_49 rfl
  rw [if_neg c5] at h
  by_cases c6 : x0 = 6
  · rw [if_pos c6] at h
    refine E_tabIn (off := 49) 50 dX5_headOf_1 (by rw [c6]; decide) (by rw [c6]; decide) (by rw [c6]; rfl) (by decide) ?_
    refine E_bipush (60 : Int32) dX5_headOf_50 (by decide) ?_
    obtain ⟨rfl, rfl⟩ := h
    exact E_iret dX5_headOf_52 rfl
  rw [if_neg c6] at h
  refine E_tabOut 53 dX5_headOf_1 (i32_out (x := x0) 2 6 (fun k h1 h2 => by
      rcases (show k = 2 ∨ k = 3 ∨ k = 4 ∨ k = 5 ∨ k = 6 by omega) with rfl | rfl | rfl | rfl | rfl
      · exact c2
      · exact c3
      · exact c4
      · exact c5
      · exact c6
      )) (by decide) ?_
  refine E_bipush (61 : Int32) dX5_headOf_53 (by decide) ?_
  obtain ⟨rfl, rfl⟩ := h
  exact E_iret dX5_headOf_55 rfl
def W_X5_readTest_0 (X : Sx) (l : Launch) (D : Nat) (x1 : Int32) (σ : AH) (r : Option Value) (σ' : AH) : Prop := ∃ d1 : Nat, ∃ v6 : Int32, ∃ σ2 : AH, d1 + 1 ≤ D ∧ Call X l m_X5_readBoth d1 [.ref 22, .int x1] σ (some (.int v6)) σ2 ∧ (if v6 = 0 then (r = some (.int (0 : Int32)) ∧ σ' = σ2) else E X l m_X5_readTest D 12 [(0, .ref 22), (1, .int x1), (2, .int (0 : Int32))] [] σ2 r σ')
set_option maxRecDepth 100000 in
theorem w_X5_readTest_0 {X : Sx} {l : Launch} {D : Nat} {x1 : Int32} {σ : AH} {r : Option Value} {σ' : AH} (hs : Sh σ) (h : W_X5_readTest_0 X l D x1 σ r σ') : E X l m_X5_readTest D 0 [(0, .ref 22), (1, .int x1)] [] σ r σ' := by
  unfold W_X5_readTest_0 at h
  refine E_aload_n 0 dX5_readTest_0 rfl rfl ?_
  refine E_iload_n 1 dX5_readTest_1 rfl rfl ?_
  obtain ⟨d1, v6, σ2, hD3, hC4, h⟩ := h
  have hs5 := hC4.1.2.2.2.1 hs
  refine E_callV (As := [.int x1]) (rest := []) (r1 := (some (.int v6))) (b := 22) dX5_readTest_2 ok_X5_readBoth in_X5_readBoth se_X5_readBoth ml_X5_141 hD3 rfl rfl (Nat.le_of_ble_eq_true rfl) (sk_22 hs) (sn hs (by decide)) (by decide) rfl (by decide +kernel) hC4 ?_
  refine E_if_ne 10 dX5_readTest_5 (by decide) (fun c => ?_) (fun c => ?_)
  · rw [if_neg c] at h
    refine E_iconst (0 : Int32) dX5_readTest_10 (by decide) ?_
    refine E_istore_n [(2, .int (0 : Int32)), (0, .ref 22), (1, .int x1)] dX5_readTest_11 rfl (by decide) rfl ?_
    exact E_lv [1, 2, 0] rfl h
  · rw [if_pos c] at h
    refine E_iconst (0 : Int32) dX5_readTest_8 (by decide) ?_
    obtain ⟨rfl, rfl⟩ := h
    exact E_zret dX5_readTest_9 rfl (Or.inl rfl)
def W_X5_readTest_12 (X : Sx) (l : Launch) (D : Nat) (x1 : Int32) (x2 : Int32) (σ : AH) (r : Option Value) (σ' : AH) : Prop := (if (400 : Int32) ≤ x2 then (r = some (.int (1 : Int32)) ∧ σ' = σ) else ∃ d7 : Nat, ∃ v12 : Int32, ∃ σ8 : AH, d7 + 1 ≤ D ∧ Call X l m_X5_isWord d7 [.ref 22, .ref (1000001 + 11)] σ (some (.int v12)) σ8 ∧ (if v12 = 0 then (r = some (.int (1 : Int32)) ∧ σ' = σ8) else ∃ d13 : Nat, ∃ σ14 : AH, d13 + 1 ≤ D ∧ Call X l m_X5_step d13 [.ref 22] σ8 none σ14 ∧ ∃ d18 : Nat, ∃ σ19 : AH, d18 + 1 ≤ D ∧ Call X l m_X5_emit d18 [.ref 22, .int (13 : Int32), .int (0 : Int32)] σ14 none σ19 ∧ ∃ d23 : Nat, ∃ v28 : Int32, ∃ σ24 : AH, d23 + 1 ≤ D ∧ Call X l m_X5_readBoth d23 [.ref 22, .int x1] σ19 (some (.int v28)) σ24 ∧ (if v28 = 0 then (r = some (.int (0 : Int32)) ∧ σ' = σ24) else vp_in (gI σ14 22 7) 400 ∧ E X l m_X5_readTest D 12 [(0, .ref 22), (1, .int x1), (2, .int (x2 + 1))] [] (sI σ24 27 ((gI σ14 22 7).toNatClampNeg) ((13 : Int32) ||| ((gI σ24 22 7) <<< ((4 : Int32) &&& 31)))) r σ')))
set_option maxRecDepth 100000 in
theorem w_X5_readTest_12 {X : Sx} {l : Launch} {D : Nat} {x1 : Int32} {x2 : Int32} {σ : AH} {r : Option Value} {σ' : AH} (hs : Sh σ) (h : W_X5_readTest_12 X l D x1 x2 σ r σ') : E X l m_X5_readTest D 12 [(0, .ref 22), (1, .int x1), (2, .int x2)] [] σ r σ' := by
  unfold W_X5_readTest_12 at h
  refine E_iload_n 2 dX5_readTest_12 rfl rfl ?_
  refine E_sipush (400 : Int32) dX5_readTest_13 (by decide) ?_
  refine E_icmp_ge 75 dX5_readTest_16 (by decide) (fun c => ?_) (fun c => ?_)
  · rw [if_pos c] at h
    refine E_iconst (1 : Int32) dX5_readTest_75 (by decide) ?_
    obtain ⟨rfl, rfl⟩ := h
    exact E_zret dX5_readTest_76 rfl (Or.inr rfl)
  · rw [if_neg c] at h
    refine E_aload_n 0 dX5_readTest_19 rfl rfl ?_
    refine E_ldcS 11 (by decide) dX5_readTest_20 rfl rfl ?_
    obtain ⟨d7, v12, σ8, hD9, hC10, h⟩ := h
    have hs11 := hC10.1.2.2.2.1 hs
    refine E_callV (As := [.ref (1000001 + 11)]) (rest := []) (r1 := (some (.int v12))) (b := 22) dX5_readTest_22 ok_X5_isWord in_X5_isWord se_X5_isWord ml_X5_99 hD9 rfl rfl (Nat.le_of_ble_eq_true rfl) (sk_22 hs) (sn hs (by decide)) (by decide) rfl (by decide +kernel) hC10 ?_
    refine E_if_eq 75 dX5_readTest_25 (by decide) (fun c => ?_) (fun c => ?_)
    · rw [if_pos c] at h
      refine E_iconst (1 : Int32) dX5_readTest_75 (by decide) ?_
      obtain ⟨rfl, rfl⟩ := h
      exact E_zret dX5_readTest_76 rfl (Or.inr rfl)
    · rw [if_neg c] at h
      refine E_aload_n 0 dX5_readTest_28 rfl rfl ?_
      obtain ⟨d13, σ14, hD15, hC16, h⟩ := h
      have hs17 := hC16.1.2.2.2.1 hs11
      refine E_callV (As := []) (rest := []) (r1 := none) (b := 22) dX5_readTest_29 ok_X5_step in_X5_step se_X5_step ml_X5_43 hD15 rfl rfl (Nat.le_of_ble_eq_true rfl) (sk_22 hs11) (sn hs11 (by decide)) (by decide) rfl (by decide +kernel) hC16 ?_
      refine E_aload_n 0 dX5_readTest_32 rfl rfl ?_
      refine E_getI dX5_readTest_33 fl_X5_34 rfl (sk_22 hs17) (sn hs17 (by decide)) ?_
      refine E_istore_n [(3, .int (gI σ14 22 7)), (0, .ref 22), (1, .int x1), (2, .int x2)] dX5_readTest_36 rfl (by decide) rfl ?_
      refine E_aload_n 1 dX5_readTest_37 rfl rfl ?_
      refine E_bipush (13 : Int32) dX5_readTest_38 (by decide) ?_
      refine E_iconst (0 : Int32) dX5_readTest_40 (by decide) ?_
      obtain ⟨d18, σ19, hD20, hC21, h⟩ := h
      have hs22 := hC21.1.2.2.2.1 hs17
      refine E_callV (As := [.int (13 : Int32), .int (0 : Int32)]) (rest := []) (r1 := none) (b := 22) dX5_readTest_41 ok_X5_emit in_X5_emit se_X5_emit ml_X5_114 hD20 rfl rfl (Nat.le_of_ble_eq_true rfl) (sk_22 hs17) (sn hs17 (by decide)) (by decide) rfl (by decide +kernel) hC21 ?_
      refine E_aload_n 1 dX5_readTest_44 rfl rfl ?_
      refine E_iload_n 2 dX5_readTest_45 rfl rfl ?_
      obtain ⟨d23, v28, σ24, hD25, hC26, h⟩ := h
      have hs27 := hC26.1.2.2.2.1 hs22
      refine E_callV (As := [.int x1]) (rest := []) (r1 := (some (.int v28))) (b := 22) dX5_readTest_46 ok_X5_readBoth in_X5_readBoth se_X5_readBoth ml_X5_141 hD25 rfl rfl (Nat.le_of_ble_eq_true rfl) (sk_22 hs22) (sn hs22 (by decide)) (by decide) rfl (by decide +kernel) hC26 ?_
      refine E_if_ne 54 dX5_readTest_49 (by decide) (fun c => ?_) (fun c => ?_)
      · rw [if_neg c] at h
        refine E_aload_n 1 dX5_readTest_54 rfl rfl ?_
        refine E_getR 27 dX5_readTest_55 fl_X5_24 rfl (sk_22 hs27) (sn hs27 (by decide)) (sr_22_6 hs27) ?_
        refine E_iload_n 0 dX5_readTest_58 rfl rfl ?_
        refine E_bipush (13 : Int32) dX5_readTest_59 (by decide) ?_
        refine E_aload_n 1 dX5_readTest_61 rfl rfl ?_
        refine E_getI dX5_readTest_62 fl_X5_34 rfl (sk_22 hs27) (sn hs27 (by decide)) ?_
        refine E_iconst (4 : Int32) dX5_readTest_65 (by decide) ?_
        refine E_ishl dX5_readTest_66 ?_
        refine E_ior dX5_readTest_67 ?_
        obtain ⟨g29, h⟩ := h
        refine E_iast2 ((gI σ14 22 7).toNatClampNeg) dX5_readTest_68 (sk_27 hs27) (sn hs27 (by decide)) (Or.inl (by decide)) g29 rfl ?_
        refine E_iinc 3 (x2 + 1) [(2, .int (x2 + 1)), (3, .int (gI σ14 22 7)), (0, .ref 22), (1, .int x1)] dX5_readTest_69 rfl (congrArg (x2 + ·) (by decide : Int32.ofInt 1 = 1)) (by decide) rfl ?_
        refine E_goto 12 dX5_readTest_72 (by decide) ?_
        exact E_lv [2, 3, 0] rfl h
      · rw [if_pos c] at h
        refine E_iconst (0 : Int32) dX5_readTest_52 (by decide) ?_
        obtain ⟨rfl, rfl⟩ := h
        exact E_zret dX5_readTest_53 rfl (Or.inl rfl)
def W_X5_readBoth_0 (X : Sx) (l : Launch) (D : Nat) (x1 : Int32) (σ : AH) (r : Option Value) (σ' : AH) : Prop := ∃ d1 : Nat, ∃ v6 : Int32, ∃ σ2 : AH, d1 + 1 ≤ D ∧ Call X l m_X5_readPlain d1 [.ref 22, .int x1] σ (some (.int v6)) σ2 ∧ (if v6 = 0 then (r = some (.int (0 : Int32)) ∧ σ' = σ2) else E X l m_X5_readBoth D 12 [(0, .ref 22), (1, .int x1), (2, .int (0 : Int32))] [] σ2 r σ')
set_option maxRecDepth 100000 in
theorem w_X5_readBoth_0 {X : Sx} {l : Launch} {D : Nat} {x1 : Int32} {σ : AH} {r : Option Value} {σ' : AH} (hs : Sh σ) (h : W_X5_readBoth_0 X l D x1 σ r σ') : E X l m_X5_readBoth D 0 [(0, .ref 22), (1, .int x1)] [] σ r σ' := by
  unfold W_X5_readBoth_0 at h
  refine E_aload_n 0 dX5_readBoth_0 rfl rfl ?_
  refine E_iload_n 1 dX5_readBoth_1 rfl rfl ?_
  obtain ⟨d1, v6, σ2, hD3, hC4, h⟩ := h
  have hs5 := hC4.1.2.2.2.1 hs
  refine E_callV (As := [.int x1]) (rest := []) (r1 := (some (.int v6))) (b := 22) dX5_readBoth_2 ok_X5_readPlain in_X5_readPlain se_X5_readPlain ml_X5_146 hD3 rfl rfl (Nat.le_of_ble_eq_true rfl) (sk_22 hs) (sn hs (by decide)) (by decide) rfl (by decide +kernel) hC4 ?_
  refine E_if_ne 10 dX5_readBoth_5 (by decide) (fun c => ?_) (fun c => ?_)
  · rw [if_neg c] at h
    refine E_iconst (0 : Int32) dX5_readBoth_10 (by decide) ?_
    refine E_istore_n [(2, .int (0 : Int32)), (0, .ref 22), (1, .int x1)] dX5_readBoth_11 rfl (by decide) rfl ?_
    exact E_lv [1, 2, 0] rfl h
  · rw [if_pos c] at h
    refine E_iconst (0 : Int32) dX5_readBoth_8 (by decide) ?_
    obtain ⟨rfl, rfl⟩ := h
    exact E_zret dX5_readBoth_9 rfl (Or.inl rfl)
def W_X5_readBoth_12 (X : Sx) (l : Launch) (D : Nat) (x1 : Int32) (x2 : Int32) (σ : AH) (r : Option Value) (σ' : AH) : Prop := (if (400 : Int32) ≤ x2 then (r = some (.int (1 : Int32)) ∧ σ' = σ) else ∃ d7 : Nat, ∃ v12 : Int32, ∃ σ8 : AH, d7 + 1 ≤ D ∧ Call X l m_X5_isWord d7 [.ref 22, .ref (1000001 + 10)] σ (some (.int v12)) σ8 ∧ (if v12 = 0 then (r = some (.int (1 : Int32)) ∧ σ' = σ8) else ∃ d13 : Nat, ∃ σ14 : AH, d13 + 1 ≤ D ∧ Call X l m_X5_step d13 [.ref 22] σ8 none σ14 ∧ ∃ d18 : Nat, ∃ σ19 : AH, d18 + 1 ≤ D ∧ Call X l m_X5_emit d18 [.ref 22, .int (12 : Int32), .int (0 : Int32)] σ14 none σ19 ∧ ∃ d23 : Nat, ∃ v28 : Int32, ∃ σ24 : AH, d23 + 1 ≤ D ∧ Call X l m_X5_readPlain d23 [.ref 22, .int x1] σ19 (some (.int v28)) σ24 ∧ (if v28 = 0 then (r = some (.int (0 : Int32)) ∧ σ' = σ24) else vp_in (gI σ14 22 7) 400 ∧ E X l m_X5_readBoth D 12 [(0, .ref 22), (1, .int x1), (2, .int (x2 + 1))] [] (sI σ24 27 ((gI σ14 22 7).toNatClampNeg) ((12 : Int32) ||| ((gI σ24 22 7) <<< ((4 : Int32) &&& 31)))) r σ')))
set_option maxRecDepth 100000 in
theorem w_X5_readBoth_12 {X : Sx} {l : Launch} {D : Nat} {x1 : Int32} {x2 : Int32} {σ : AH} {r : Option Value} {σ' : AH} (hs : Sh σ) (h : W_X5_readBoth_12 X l D x1 x2 σ r σ') : E X l m_X5_readBoth D 12 [(0, .ref 22), (1, .int x1), (2, .int x2)] [] σ r σ' := by
  unfold W_X5_readBoth_12 at h
  refine E_iload_n 2 dX5_readBoth_12 rfl rfl ?_
  refine E_sipush (400 : Int32) dX5_readBoth_13 (by decide) ?_
  refine E_icmp_ge 75 dX5_readBoth_16 (by decide) (fun c => ?_) (fun c => ?_)
  · rw [if_pos c] at h
    refine E_iconst (1 : Int32) dX5_readBoth_75 (by decide) ?_
    obtain ⟨rfl, rfl⟩ := h
    exact E_zret dX5_readBoth_76 rfl (Or.inr rfl)
  · rw [if_neg c] at h
    refine E_aload_n 0 dX5_readBoth_19 rfl rfl ?_
    refine E_ldcS 10 (by decide) dX5_readBoth_20 rfl rfl ?_
    obtain ⟨d7, v12, σ8, hD9, hC10, h⟩ := h
    have hs11 := hC10.1.2.2.2.1 hs
    refine E_callV (As := [.ref (1000001 + 10)]) (rest := []) (r1 := (some (.int v12))) (b := 22) dX5_readBoth_22 ok_X5_isWord in_X5_isWord se_X5_isWord ml_X5_99 hD9 rfl rfl (Nat.le_of_ble_eq_true rfl) (sk_22 hs) (sn hs (by decide)) (by decide) rfl (by decide +kernel) hC10 ?_
    refine E_if_eq 75 dX5_readBoth_25 (by decide) (fun c => ?_) (fun c => ?_)
    · rw [if_pos c] at h
      refine E_iconst (1 : Int32) dX5_readBoth_75 (by decide) ?_
      obtain ⟨rfl, rfl⟩ := h
      exact E_zret dX5_readBoth_76 rfl (Or.inr rfl)
    · rw [if_neg c] at h
      refine E_aload_n 0 dX5_readBoth_28 rfl rfl ?_
      obtain ⟨d13, σ14, hD15, hC16, h⟩ := h
      have hs17 := hC16.1.2.2.2.1 hs11
      refine E_callV (As := []) (rest := []) (r1 := none) (b := 22) dX5_readBoth_29 ok_X5_step in_X5_step se_X5_step ml_X5_43 hD15 rfl rfl (Nat.le_of_ble_eq_true rfl) (sk_22 hs11) (sn hs11 (by decide)) (by decide) rfl (by decide +kernel) hC16 ?_
      refine E_aload_n 0 dX5_readBoth_32 rfl rfl ?_
      refine E_getI dX5_readBoth_33 fl_X5_34 rfl (sk_22 hs17) (sn hs17 (by decide)) ?_
      refine E_istore_n [(3, .int (gI σ14 22 7)), (0, .ref 22), (1, .int x1), (2, .int x2)] dX5_readBoth_36 rfl (by decide) rfl ?_
      refine E_aload_n 1 dX5_readBoth_37 rfl rfl ?_
      refine E_bipush (12 : Int32) dX5_readBoth_38 (by decide) ?_
      refine E_iconst (0 : Int32) dX5_readBoth_40 (by decide) ?_
      obtain ⟨d18, σ19, hD20, hC21, h⟩ := h
      have hs22 := hC21.1.2.2.2.1 hs17
      refine E_callV (As := [.int (12 : Int32), .int (0 : Int32)]) (rest := []) (r1 := none) (b := 22) dX5_readBoth_41 ok_X5_emit in_X5_emit se_X5_emit ml_X5_114 hD20 rfl rfl (Nat.le_of_ble_eq_true rfl) (sk_22 hs17) (sn hs17 (by decide)) (by decide) rfl (by decide +kernel) hC21 ?_
      refine E_aload_n 1 dX5_readBoth_44 rfl rfl ?_
      refine E_iload_n 2 dX5_readBoth_45 rfl rfl ?_
      obtain ⟨d23, v28, σ24, hD25, hC26, h⟩ := h
      have hs27 := hC26.1.2.2.2.1 hs22
      refine E_callV (As := [.int x1]) (rest := []) (r1 := (some (.int v28))) (b := 22) dX5_readBoth_46 ok_X5_readPlain in_X5_readPlain se_X5_readPlain ml_X5_146 hD25 rfl rfl (Nat.le_of_ble_eq_true rfl) (sk_22 hs22) (sn hs22 (by decide)) (by decide) rfl (by decide +kernel) hC26 ?_
      refine E_if_ne 54 dX5_readBoth_49 (by decide) (fun c => ?_) (fun c => ?_)
      · rw [if_neg c] at h
        refine E_aload_n 1 dX5_readBoth_54 rfl rfl ?_
        refine E_getR 27 dX5_readBoth_55 fl_X5_24 rfl (sk_22 hs27) (sn hs27 (by decide)) (sr_22_6 hs27) ?_
        refine E_iload_n 0 dX5_readBoth_58 rfl rfl ?_
        refine E_bipush (12 : Int32) dX5_readBoth_59 (by decide) ?_
        refine E_aload_n 1 dX5_readBoth_61 rfl rfl ?_
        refine E_getI dX5_readBoth_62 fl_X5_34 rfl (sk_22 hs27) (sn hs27 (by decide)) ?_
        refine E_iconst (4 : Int32) dX5_readBoth_65 (by decide) ?_
        refine E_ishl dX5_readBoth_66 ?_
        refine E_ior dX5_readBoth_67 ?_
        obtain ⟨g29, h⟩ := h
        refine E_iast2 ((gI σ14 22 7).toNatClampNeg) dX5_readBoth_68 (sk_27 hs27) (sn hs27 (by decide)) (Or.inl (by decide)) g29 rfl ?_
        refine E_iinc 3 (x2 + 1) [(2, .int (x2 + 1)), (3, .int (gI σ14 22 7)), (0, .ref 22), (1, .int x1)] dX5_readBoth_69 rfl (congrArg (x2 + ·) (by decide : Int32.ofInt 1 = 1)) (by decide) rfl ?_
        refine E_goto 12 dX5_readBoth_72 (by decide) ?_
        exact E_lv [2, 3, 0] rfl h
      · rw [if_pos c] at h
        refine E_iconst (0 : Int32) dX5_readBoth_52 (by decide) ?_
        obtain ⟨rfl, rfl⟩ := h
        exact E_zret dX5_readBoth_53 rfl (Or.inl rfl)
