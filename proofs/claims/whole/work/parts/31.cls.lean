theorem dX2_firstFor_0 : decode cX2_firstFor 0 = .ok (.aload_n 0, 1) := by decide +kernel
theorem dX2_firstFor_1 : decode cX2_firstFor 1 = .ok (.getfield 24, 3) := by decide +kernel
theorem dX2_firstFor_4 : decode cX2_firstFor 4 = .ok (.getfield 36, 3) := by decide +kernel
theorem dX2_firstFor_7 : decode cX2_firstFor 7 = .ok (.iload_n 1, 1) := by decide +kernel
theorem dX2_firstFor_8 : decode cX2_firstFor 8 = .ok (.iconst 2, 1) := by decide +kernel
theorem dX2_firstFor_9 : decode cX2_firstFor 9 = .ok (.invokevirtual 42, 3) := by decide +kernel
theorem dX2_firstFor_12 : decode cX2_firstFor 12 = .ok (.istore_n 2, 1) := by decide +kernel
theorem dX2_firstFor_13 : decode cX2_firstFor 13 = .ok (.aload_n 0, 1) := by decide +kernel
theorem dX2_firstFor_14 : decode cX2_firstFor 14 = .ok (.getfield 24, 3) := by decide +kernel
theorem dX2_firstFor_17 : decode cX2_firstFor 17 = .ok (.getfield 36, 3) := by decide +kernel
theorem dX2_firstFor_20 : decode cX2_firstFor 20 = .ok (.iload_n 1, 1) := by decide +kernel
theorem dX2_firstFor_21 : decode cX2_firstFor 21 = .ok (.iconst 0, 1) := by decide +kernel
theorem dX2_firstFor_22 : decode cX2_firstFor 22 = .ok (.invokevirtual 42, 3) := by decide +kernel
theorem dX2_firstFor_25 : decode cX2_firstFor 25 = .ok (.istore_n 3, 1) := by decide +kernel
theorem dX2_firstFor_26 : decode cX2_firstFor 26 = .ok (.iconst 0, 1) := by decide +kernel
theorem dX2_firstFor_27 : decode cX2_firstFor 27 = .ok (.istore 4, 2) := by decide +kernel
theorem dX2_firstFor_29 : decode cX2_firstFor 29 = .ok (.iload 4, 2) := by decide +kernel
theorem dX2_firstFor_31 : decode cX2_firstFor 31 = .ok (.aload_n 0, 1) := by decide +kernel
theorem dX2_firstFor_32 : decode cX2_firstFor 32 = .ok (.getfield 32, 3) := by decide +kernel
theorem dX2_firstFor_35 : decode cX2_firstFor 35 = .ok (.getfield 123, 3) := by decide +kernel
theorem dX2_firstFor_38 : decode cX2_firstFor 38 = .ok (.iload_n 3, 1) := by decide +kernel
theorem dX2_firstFor_39 : decode cX2_firstFor 39 = .ok (.iaload, 1) := by decide +kernel
theorem dX2_firstFor_40 : decode cX2_firstFor 40 = .ok (.if_icmp .ge 120, 3) := by decide +kernel
theorem dX2_firstFor_43 : decode cX2_firstFor 43 = .ok (.aload_n 0, 1) := by decide +kernel
theorem dX2_firstFor_44 : decode cX2_firstFor 44 = .ok (.getfield 32, 3) := by decide +kernel
theorem dX2_firstFor_47 : decode cX2_firstFor 47 = .ok (.getfield 126, 3) := by decide +kernel
theorem dX2_firstFor_50 : decode cX2_firstFor 50 = .ok (.iload_n 3, 1) := by decide +kernel
theorem dX2_firstFor_51 : decode cX2_firstFor 51 = .ok (.bipush 60, 2) := by decide +kernel
theorem dX2_firstFor_53 : decode cX2_firstFor 53 = .ok (.imul, 1) := by decide +kernel
theorem dX2_firstFor_54 : decode cX2_firstFor 54 = .ok (.iload 4, 2) := by decide +kernel
theorem dX2_firstFor_56 : decode cX2_firstFor 56 = .ok (.iadd, 1) := by decide +kernel
theorem dX2_firstFor_57 : decode cX2_firstFor 57 = .ok (.iaload, 1) := by decide +kernel
theorem dX2_firstFor_58 : decode cX2_firstFor 58 = .ok (.istore 5, 2) := by decide +kernel
theorem dX2_firstFor_60 : decode cX2_firstFor 60 = .ok (.aload_n 0, 1) := by decide +kernel
theorem dX2_firstFor_61 : decode cX2_firstFor 61 = .ok (.getfield 32, 3) := by decide +kernel
theorem dX2_firstFor_64 : decode cX2_firstFor 64 = .ok (.getfield 84, 3) := by decide +kernel
theorem dX2_firstFor_67 : decode cX2_firstFor 67 = .ok (.iload 5, 2) := by decide +kernel
theorem dX2_firstFor_69 : decode cX2_firstFor 69 = .ok (.iaload, 1) := by decide +kernel
theorem dX2_firstFor_70 : decode cX2_firstFor 70 = .ok (.istore 6, 2) := by decide +kernel
theorem dX2_firstFor_72 : decode cX2_firstFor 72 = .ok (.iload 6, 2) := by decide +kernel
theorem dX2_firstFor_74 : decode cX2_firstFor 74 = .ok (.iconst (-1), 1) := by decide +kernel
theorem dX2_firstFor_75 : decode cX2_firstFor 75 = .ok (.if_icmp .ne 7, 3) := by decide +kernel
theorem dX2_firstFor_78 : decode cX2_firstFor 78 = .ok (.iconst (-1), 1) := by decide +kernel
theorem dX2_firstFor_79 : decode cX2_firstFor 79 = .ok (.goto 10, 3) := by decide +kernel
theorem dX2_firstFor_82 : decode cX2_firstFor 82 = .ok (.aload_n 0, 1) := by decide +kernel
theorem dX2_firstFor_83 : decode cX2_firstFor 83 = .ok (.getfield 18, 3) := by decide +kernel
theorem dX2_firstFor_86 : decode cX2_firstFor 86 = .ok (.iload 6, 2) := by decide +kernel
theorem dX2_firstFor_88 : decode cX2_firstFor 88 = .ok (.iaload, 1) := by decide +kernel
theorem dX2_firstFor_89 : decode cX2_firstFor 89 = .ok (.istore 7, 2) := by decide +kernel
theorem dX2_firstFor_91 : decode cX2_firstFor 91 = .ok (.iload 7, 2) := by decide +kernel
theorem dX2_firstFor_93 : decode cX2_firstFor 93 = .ok (.iconst (-1), 1) := by decide +kernel
theorem dX2_firstFor_94 : decode cX2_firstFor 94 = .ok (.if_icmp .eq 20, 3) := by decide +kernel
theorem dX2_firstFor_97 : decode cX2_firstFor 97 = .ok (.aload_n 0, 1) := by decide +kernel
theorem dX2_firstFor_98 : decode cX2_firstFor 98 = .ok (.getfield 24, 3) := by decide +kernel
theorem dX2_firstFor_101 : decode cX2_firstFor 101 = .ok (.getfield 36, 3) := by decide +kernel
theorem dX2_firstFor_104 : decode cX2_firstFor 104 = .ok (.iload 7, 2) := by decide +kernel
theorem dX2_firstFor_106 : decode cX2_firstFor 106 = .ok (.iconst 2, 1) := by decide +kernel
theorem dX2_firstFor_107 : decode cX2_firstFor 107 = .ok (.invokevirtual 42, 3) := by decide +kernel
theorem dX2_firstFor_110 : decode cX2_firstFor 110 = .ok (.iload_n 2, 1) := by decide +kernel
theorem dX2_firstFor_111 : decode cX2_firstFor 111 = .ok (.if_icmp .ge 7, 3) := by decide +kernel
theorem dX2_firstFor_114 : decode cX2_firstFor 114 = .ok (.iconst 1, 1) := by decide +kernel
theorem dX2_firstFor_115 : decode cX2_firstFor 115 = .ok (.goto 4, 3) := by decide +kernel
theorem dX2_firstFor_118 : decode cX2_firstFor 118 = .ok (.iconst 0, 1) := by decide +kernel
theorem dX2_firstFor_119 : decode cX2_firstFor 119 = .ok (.istore 8, 2) := by decide +kernel
theorem dX2_firstFor_121 : decode cX2_firstFor 121 = .ok (.iload 6, 2) := by decide +kernel
theorem dX2_firstFor_123 : decode cX2_firstFor 123 = .ok (.iconst (-1), 1) := by decide +kernel
theorem dX2_firstFor_124 : decode cX2_firstFor 124 = .ok (.if_icmp .eq 30, 3) := by decide +kernel
theorem dX2_firstFor_127 : decode cX2_firstFor 127 = .ok (.iload 8, 2) := by decide +kernel
theorem dX2_firstFor_129 : decode cX2_firstFor 129 = .ok (.ifCond .eq 25, 3) := by decide +kernel
theorem dX2_firstFor_132 : decode cX2_firstFor 132 = .ok (.aload_n 0, 1) := by decide +kernel
theorem dX2_firstFor_133 : decode cX2_firstFor 133 = .ok (.getfield 24, 3) := by decide +kernel
theorem dX2_firstFor_136 : decode cX2_firstFor 136 = .ok (.getfield 129, 3) := by decide +kernel
theorem dX2_firstFor_139 : decode cX2_firstFor 139 = .ok (.iload 5, 2) := by decide +kernel
theorem dX2_firstFor_141 : decode cX2_firstFor 141 = .ok (.iconst 2, 1) := by decide +kernel
theorem dX2_firstFor_142 : decode cX2_firstFor 142 = .ok (.invokevirtual 42, 3) := by decide +kernel
theorem dX2_firstFor_145 : decode cX2_firstFor 145 = .ok (.iconst 2, 1) := by decide +kernel
theorem dX2_firstFor_146 : decode cX2_firstFor 146 = .ok (.iload_n 2, 1) := by decide +kernel
theorem dX2_firstFor_147 : decode cX2_firstFor 147 = .ok (.imul, 1) := by decide +kernel
theorem dX2_firstFor_148 : decode cX2_firstFor 148 = .ok (.if_icmp .gt 6, 3) := by decide +kernel
theorem dX2_firstFor_151 : decode cX2_firstFor 151 = .ok (.iload 5, 2) := by decide +kernel
theorem dX2_firstFor_153 : decode cX2_firstFor 153 = .ok (.ireturn, 1) := by decide +kernel
theorem dX2_firstFor_154 : decode cX2_firstFor 154 = .ok (.iinc 4 1, 3) := by decide +kernel
theorem dX2_firstFor_157 : decode cX2_firstFor 157 = .ok (.goto (-128), 3) := by decide +kernel
theorem dX2_firstFor_160 : decode cX2_firstFor 160 = .ok (.iconst (-1), 1) := by decide +kernel
theorem dX2_firstFor_161 : decode cX2_firstFor 161 = .ok (.ireturn, 1) := by decide +kernel
theorem dX2_leave_0 : decode cX2_leave 0 = .ok (.iload_n 1, 1) := by decide +kernel
theorem dX2_leave_1 : decode cX2_leave 1 = .ok (.iconst (-1), 1) := by decide +kernel
theorem dX2_leave_2 : decode cX2_leave 2 = .ok (.if_icmp .eq 28, 3) := by decide +kernel
theorem dX2_leave_5 : decode cX2_leave 5 = .ok (.aload_n 0, 1) := by decide +kernel
theorem dX2_leave_6 : decode cX2_leave 6 = .ok (.getfield 24, 3) := by decide +kernel
theorem dX2_leave_9 : decode cX2_leave 9 = .ok (.getfield 67, 3) := by decide +kernel
theorem dX2_leave_12 : decode cX2_leave 12 = .ok (.aload_n 0, 1) := by decide +kernel
theorem dX2_leave_13 : decode cX2_leave 13 = .ok (.getfield 15, 3) := by decide +kernel
theorem dX2_leave_16 : decode cX2_leave 16 = .ok (.iload_n 1, 1) := by decide +kernel
theorem dX2_leave_17 : decode cX2_leave 17 = .ok (.iaload, 1) := by decide +kernel
theorem dX2_leave_18 : decode cX2_leave 18 = .ok (.iconst 5, 1) := by decide +kernel
theorem dX2_leave_19 : decode cX2_leave 19 = .ok (.iload_n 2, 1) := by decide +kernel
theorem dX2_leave_20 : decode cX2_leave 20 = .ok (.invokevirtual 132, 3) := by decide +kernel
theorem dX2_leave_23 : decode cX2_leave 23 = .ok (.aload_n 0, 1) := by decide +kernel
theorem dX2_leave_24 : decode cX2_leave 24 = .ok (.getfield 15, 3) := by decide +kernel
theorem dX2_leave_27 : decode cX2_leave 27 = .ok (.iload_n 1, 1) := by decide +kernel
theorem dX2_leave_28 : decode cX2_leave 28 = .ok (.iconst (-1), 1) := by decide +kernel
theorem dX2_leave_29 : decode cX2_leave 29 = .ok (.iastore, 1) := by decide +kernel
theorem dX2_leave_30 : decode cX2_leave 30 = .ok (.return_, 1) := by decide +kernel
theorem dX2_goIn_0 : decode cX2_goIn 0 = .ok (.aload_n 0, 1) := by decide +kernel
theorem dX2_goIn_1 : decode cX2_goIn 1 = .ok (.invokevirtual 136, 3) := by decide +kernel
theorem dX2_goIn_4 : decode cX2_goIn 4 = .ok (.istore 6, 2) := by decide +kernel
theorem dX2_goIn_6 : decode cX2_goIn 6 = .ok (.aload_n 0, 1) := by decide +kernel
theorem dX2_goIn_7 : decode cX2_goIn 7 = .ok (.getfield 24, 3) := by decide +kernel
theorem dX2_goIn_10 : decode cX2_goIn 10 = .ok (.getfield 67, 3) := by decide +kernel
theorem dX2_goIn_13 : decode cX2_goIn 13 = .ok (.iload 6, 2) := by decide +kernel
theorem dX2_goIn_15 : decode cX2_goIn 15 = .ok (.iconst 0, 1) := by decide +kernel
theorem dX2_goIn_16 : decode cX2_goIn 16 = .ok (.iload_n 2, 1) := by decide +kernel
theorem dX2_goIn_17 : decode cX2_goIn 17 = .ok (.invokevirtual 132, 3) := by decide +kernel
theorem dX2_goIn_20 : decode cX2_goIn 20 = .ok (.aload_n 0, 1) := by decide +kernel
theorem dX2_goIn_21 : decode cX2_goIn 21 = .ok (.getfield 24, 3) := by decide +kernel
theorem dX2_goIn_24 : decode cX2_goIn 24 = .ok (.getfield 67, 3) := by decide +kernel
theorem dX2_goIn_27 : decode cX2_goIn 27 = .ok (.iload 6, 2) := by decide +kernel
theorem dX2_goIn_29 : decode cX2_goIn 29 = .ok (.iconst 1, 1) := by decide +kernel
theorem dX2_goIn_30 : decode cX2_goIn 30 = .ok (.iload_n 1, 1) := by decide +kernel
theorem dX2_goIn_31 : decode cX2_goIn 31 = .ok (.invokevirtual 132, 3) := by decide +kernel
theorem dX2_goIn_34 : decode cX2_goIn 34 = .ok (.aload_n 0, 1) := by decide +kernel
theorem dX2_goIn_35 : decode cX2_goIn 35 = .ok (.getfield 24, 3) := by decide +kernel
theorem dX2_goIn_38 : decode cX2_goIn 38 = .ok (.getfield 67, 3) := by decide +kernel
theorem dX2_goIn_41 : decode cX2_goIn 41 = .ok (.iload 6, 2) := by decide +kernel
theorem dX2_goIn_43 : decode cX2_goIn 43 = .ok (.iconst 2, 1) := by decide +kernel
theorem dX2_goIn_44 : decode cX2_goIn 44 = .ok (.iload_n 3, 1) := by decide +kernel
theorem dX2_goIn_45 : decode cX2_goIn 45 = .ok (.invokevirtual 132, 3) := by decide +kernel
theorem dX2_goIn_48 : decode cX2_goIn 48 = .ok (.aload_n 0, 1) := by decide +kernel
theorem dX2_goIn_49 : decode cX2_goIn 49 = .ok (.getfield 24, 3) := by decide +kernel
theorem dX2_goIn_52 : decode cX2_goIn 52 = .ok (.getfield 67, 3) := by decide +kernel
theorem dX2_goIn_55 : decode cX2_goIn 55 = .ok (.iload 6, 2) := by decide +kernel
theorem dX2_goIn_57 : decode cX2_goIn 57 = .ok (.iconst 3, 1) := by decide +kernel
theorem dX2_goIn_58 : decode cX2_goIn 58 = .ok (.iload 4, 2) := by decide +kernel
theorem dX2_goIn_60 : decode cX2_goIn 60 = .ok (.invokevirtual 132, 3) := by decide +kernel
theorem dX2_goIn_63 : decode cX2_goIn 63 = .ok (.aload_n 0, 1) := by decide +kernel
theorem dX2_goIn_64 : decode cX2_goIn 64 = .ok (.getfield 24, 3) := by decide +kernel
theorem dX2_goIn_67 : decode cX2_goIn 67 = .ok (.getfield 67, 3) := by decide +kernel
theorem dX2_goIn_70 : decode cX2_goIn 70 = .ok (.iload 6, 2) := by decide +kernel
theorem dX2_goIn_72 : decode cX2_goIn 72 = .ok (.iconst 4, 1) := by decide +kernel
theorem dX2_goIn_73 : decode cX2_goIn 73 = .ok (.aload_n 0, 1) := by decide +kernel
theorem dX2_goIn_74 : decode cX2_goIn 74 = .ok (.getfield 9, 3) := by decide +kernel
theorem dX2_goIn_77 : decode cX2_goIn 77 = .ok (.iload_n 2, 1) := by decide +kernel
theorem dX2_goIn_78 : decode cX2_goIn 78 = .ok (.iaload, 1) := by decide +kernel
theorem dX2_goIn_79 : decode cX2_goIn 79 = .ok (.invokevirtual 132, 3) := by decide +kernel
theorem dX2_goIn_82 : decode cX2_goIn 82 = .ok (.aload_n 0, 1) := by decide +kernel
theorem dX2_goIn_83 : decode cX2_goIn 83 = .ok (.getfield 24, 3) := by decide +kernel
theorem dX2_goIn_86 : decode cX2_goIn 86 = .ok (.getfield 67, 3) := by decide +kernel
theorem dX2_goIn_89 : decode cX2_goIn 89 = .ok (.iload 6, 2) := by decide +kernel
theorem dX2_goIn_91 : decode cX2_goIn 91 = .ok (.iconst 5, 1) := by decide +kernel
theorem dX2_goIn_92 : decode cX2_goIn 92 = .ok (.ldc 48, 2) := by decide +kernel
theorem dX2_goIn_94 : decode cX2_goIn 94 = .ok (.invokevirtual 132, 3) := by decide +kernel
theorem dX2_goIn_97 : decode cX2_goIn 97 = .ok (.aload_n 0, 1) := by decide +kernel
theorem dX2_goIn_98 : decode cX2_goIn 98 = .ok (.getfield 24, 3) := by decide +kernel
theorem dX2_goIn_101 : decode cX2_goIn 101 = .ok (.getfield 67, 3) := by decide +kernel
theorem dX2_goIn_104 : decode cX2_goIn 104 = .ok (.iload 6, 2) := by decide +kernel
theorem dX2_goIn_106 : decode cX2_goIn 106 = .ok (.bipush 6, 2) := by decide +kernel
theorem dX2_goIn_108 : decode cX2_goIn 108 = .ok (.iload 5, 2) := by decide +kernel
theorem dX2_goIn_110 : decode cX2_goIn 110 = .ok (.invokevirtual 132, 3) := by decide +kernel
theorem dX2_goIn_113 : decode cX2_goIn 113 = .ok (.aload_n 0, 1) := by decide +kernel
theorem dX2_goIn_114 : decode cX2_goIn 114 = .ok (.getfield 15, 3) := by decide +kernel
theorem dX2_goIn_117 : decode cX2_goIn 117 = .ok (.iload_n 2, 1) := by decide +kernel
theorem dX2_goIn_118 : decode cX2_goIn 118 = .ok (.iload 6, 2) := by decide +kernel
theorem dX2_goIn_120 : decode cX2_goIn 120 = .ok (.iastore, 1) := by decide +kernel
theorem dX2_goIn_121 : decode cX2_goIn 121 = .ok (.return_, 1) := by decide +kernel
theorem dX2_emptyStay_0 : decode cX2_emptyStay 0 = .ok (.iconst 0, 1) := by decide +kernel
theorem dX2_emptyStay_1 : decode cX2_emptyStay 1 = .ok (.istore_n 1, 1) := by decide +kernel
theorem dX2_emptyStay_2 : decode cX2_emptyStay 2 = .ok (.iload_n 1, 1) := by decide +kernel
theorem dX2_emptyStay_3 : decode cX2_emptyStay 3 = .ok (.aload_n 0, 1) := by decide +kernel
theorem dX2_emptyStay_4 : decode cX2_emptyStay 4 = .ok (.getfield 24, 3) := by decide +kernel
theorem dX2_emptyStay_7 : decode cX2_emptyStay 7 = .ok (.getfield 67, 3) := by decide +kernel
theorem dX2_emptyStay_10 : decode cX2_emptyStay 10 = .ok (.invokevirtual 70, 3) := by decide +kernel
theorem dX2_emptyStay_13 : decode cX2_emptyStay 13 = .ok (.if_icmp .ge 38, 3) := by decide +kernel
theorem dX2_emptyStay_16 : decode cX2_emptyStay 16 = .ok (.aload_n 0, 1) := by decide +kernel
theorem dX2_emptyStay_17 : decode cX2_emptyStay 17 = .ok (.getfield 24, 3) := by decide +kernel
theorem dX2_emptyStay_20 : decode cX2_emptyStay 20 = .ok (.getfield 67, 3) := by decide +kernel
theorem dX2_emptyStay_23 : decode cX2_emptyStay 23 = .ok (.iload_n 1, 1) := by decide +kernel
theorem dX2_emptyStay_24 : decode cX2_emptyStay 24 = .ok (.iconst 2, 1) := by decide +kernel
theorem dX2_emptyStay_25 : decode cX2_emptyStay 25 = .ok (.invokevirtual 42, 3) := by decide +kernel
theorem dX2_emptyStay_28 : decode cX2_emptyStay 28 = .ok (.aload_n 0, 1) := by decide +kernel
theorem dX2_emptyStay_29 : decode cX2_emptyStay 29 = .ok (.getfield 24, 3) := by decide +kernel
theorem dX2_emptyStay_32 : decode cX2_emptyStay 32 = .ok (.getfield 67, 3) := by decide +kernel
theorem dX2_emptyStay_35 : decode cX2_emptyStay 35 = .ok (.iload_n 1, 1) := by decide +kernel
theorem dX2_emptyStay_36 : decode cX2_emptyStay 36 = .ok (.iconst 5, 1) := by decide +kernel
theorem dX2_emptyStay_37 : decode cX2_emptyStay 37 = .ok (.invokevirtual 42, 3) := by decide +kernel
theorem dX2_emptyStay_40 : decode cX2_emptyStay 40 = .ok (.if_icmp .ne 5, 3) := by decide +kernel
theorem dX2_emptyStay_43 : decode cX2_emptyStay 43 = .ok (.iload_n 1, 1) := by decide +kernel
theorem dX2_emptyStay_44 : decode cX2_emptyStay 44 = .ok (.ireturn, 1) := by decide +kernel
theorem dX2_emptyStay_45 : decode cX2_emptyStay 45 = .ok (.iinc 1 1, 3) := by decide +kernel
theorem dX2_emptyStay_48 : decode cX2_emptyStay 48 = .ok (.goto (-46), 3) := by decide +kernel
theorem dX2_emptyStay_51 : decode cX2_emptyStay 51 = .ok (.aload_n 0, 1) := by decide +kernel
theorem dX2_emptyStay_52 : decode cX2_emptyStay 52 = .ok (.getfield 24, 3) := by decide +kernel
theorem dX2_emptyStay_55 : decode cX2_emptyStay 55 = .ok (.getfield 67, 3) := by decide +kernel
theorem dX2_emptyStay_58 : decode cX2_emptyStay 58 = .ok (.invokevirtual 139, 3) := by decide +kernel
theorem dX2_emptyStay_61 : decode cX2_emptyStay 61 = .ok (.ireturn, 1) := by decide +kernel
theorem dX3_init_0 : decode cX3_init 0 = .ok (.aload_n 0, 1) := by decide +kernel
theorem dX3_init_1 : decode cX3_init 1 = .ok (.invokespecial 3, 3) := by decide +kernel
theorem dX3_init_4 : decode cX3_init 4 = .ok (.aload_n 0, 1) := by decide +kernel
theorem dX3_init_5 : decode cX3_init 5 = .ok (.bipush 63, 2) := by decide +kernel
theorem dX3_init_7 : decode cX3_init 7 = .ok (.newarray .int, 2) := by decide +kernel
theorem dX3_init_9 : decode cX3_init 9 = .ok (.putfield 9, 3) := by decide +kernel
theorem dX3_init_12 : decode cX3_init 12 = .ok (.aload_n 0, 1) := by decide +kernel
theorem dX3_init_13 : decode cX3_init 13 = .ok (.sipush 384, 3) := by decide +kernel
theorem dX3_init_16 : decode cX3_init 16 = .ok (.newarray .int, 2) := by decide +kernel
theorem dX3_init_18 : decode cX3_init 18 = .ok (.putfield 15, 3) := by decide +kernel
theorem dX3_init_21 : decode cX3_init 21 = .ok (.aload_n 0, 1) := by decide +kernel
theorem dX3_init_22 : decode cX3_init 22 = .ok (.bipush 24, 2) := by decide +kernel
theorem dX3_init_24 : decode cX3_init 24 = .ok (.newarray .int, 2) := by decide +kernel
theorem dX3_init_26 : decode cX3_init 26 = .ok (.putfield 18, 3) := by decide +kernel
theorem dX3_init_29 : decode cX3_init 29 = .ok (.aload_n 0, 1) := by decide +kernel
theorem dX3_init_30 : decode cX3_init 30 = .ok (.bipush 7, 2) := by decide +kernel
theorem dX3_init_32 : decode cX3_init 32 = .ok (.newarray .int, 2) := by decide +kernel
theorem dX3_init_34 : decode cX3_init 34 = .ok (.putfield 21, 3) := by decide +kernel
theorem dX3_init_37 : decode cX3_init 37 = .ok (.aload_n 0, 1) := by decide +kernel
theorem dX3_init_38 : decode cX3_init 38 = .ok (.bipush 64, 2) := by decide +kernel
theorem dX3_init_40 : decode cX3_init 40 = .ok (.newarray .long, 2) := by decide +kernel
theorem dX3_init_42 : decode cX3_init 42 = .ok (.putfield 24, 3) := by decide +kernel
theorem dX3_init_45 : decode cX3_init 45 = .ok (.aload_n 0, 1) := by decide +kernel
theorem dX3_init_46 : decode cX3_init 46 = .ok (.iconst (-1), 1) := by decide +kernel
theorem dX3_init_47 : decode cX3_init 47 = .ok (.putfield 28, 3) := by decide +kernel
theorem dX3_init_50 : decode cX3_init 50 = .ok (.aload_n 0, 1) := by decide +kernel
theorem dX3_init_51 : decode cX3_init 51 = .ok (.aload_n 1, 1) := by decide +kernel
theorem dX3_init_52 : decode cX3_init 52 = .ok (.putfield 32, 3) := by decide +kernel
theorem dX3_init_55 : decode cX3_init 55 = .ok (.aload_n 0, 1) := by decide +kernel
theorem dX3_init_56 : decode cX3_init 56 = .ok (.getfield 9, 3) := by decide +kernel
theorem dX3_init_59 : decode cX3_init 59 = .ok (.iconst (-1), 1) := by decide +kernel
theorem dX3_init_60 : decode cX3_init 60 = .ok (.invokestatic 36, 3) := by decide +kernel
theorem dX3_init_63 : decode cX3_init 63 = .ok (.return_, 1) := by decide +kernel
theorem dX3_reread_0 : decode cX3_reread 0 = .ok (.aload_n 0, 1) := by decide +kernel
theorem dX3_reread_1 : decode cX3_reread 1 = .ok (.getfield 9, 3) := by decide +kernel
theorem dX3_reread_4 : decode cX3_reread 4 = .ok (.iconst (-1), 1) := by decide +kernel
theorem dX3_reread_5 : decode cX3_reread 5 = .ok (.invokestatic 36, 3) := by decide +kernel
theorem dX3_reread_8 : decode cX3_reread 8 = .ok (.iconst 0, 1) := by decide +kernel
theorem dX3_reread_9 : decode cX3_reread 9 = .ok (.istore_n 1, 1) := by decide +kernel
theorem dX3_reread_10 : decode cX3_reread 10 = .ok (.iload_n 1, 1) := by decide +kernel
theorem dX3_reread_11 : decode cX3_reread 11 = .ok (.aload_n 0, 1) := by decide +kernel
theorem dX3_reread_12 : decode cX3_reread 12 = .ok (.getfield 32, 3) := by decide +kernel
theorem dX3_reread_15 : decode cX3_reread 15 = .ok (.getfield 42, 3) := by decide +kernel
theorem dX3_reread_18 : decode cX3_reread 18 = .ok (.if_icmp .ge 78, 3) := by decide +kernel
theorem dX3_reread_21 : decode cX3_reread 21 = .ok (.aload_n 0, 1) := by decide +kernel
theorem dX3_reread_22 : decode cX3_reread 22 = .ok (.getfield 32, 3) := by decide +kernel
theorem dX3_reread_25 : decode cX3_reread 25 = .ok (.getfield 47, 3) := by decide +kernel
theorem dX3_reread_28 : decode cX3_reread 28 = .ok (.iload_n 1, 1) := by decide +kernel
theorem dX3_reread_29 : decode cX3_reread 29 = .ok (.aaload, 1) := by decide +kernel
theorem dX3_reread_30 : decode cX3_reread 30 = .ok (.astore_n 2, 1) := by decide +kernel
theorem dX3_reread_31 : decode cX3_reread 31 = .ok (.iconst 0, 1) := by decide +kernel
theorem dX3_reread_32 : decode cX3_reread 32 = .ok (.istore_n 3, 1) := by decide +kernel
theorem dX3_reread_33 : decode cX3_reread 33 = .ok (.aload_n 2, 1) := by decide +kernel
theorem dX3_reread_34 : decode cX3_reread 34 = .ok (.ifnull 56, 3) := by decide +kernel
theorem dX3_reread_37 : decode cX3_reread 37 = .ok (.iload_n 3, 1) := by decide +kernel
theorem dX3_reread_38 : decode cX3_reread 38 = .ok (.aload_n 2, 1) := by decide +kernel
theorem dX3_reread_39 : decode cX3_reread 39 = .ok (.getfield 51, 3) := by decide +kernel
theorem dX3_reread_42 : decode cX3_reread 42 = .ok (.if_icmp .ge 48, 3) := by decide +kernel
theorem dX3_reread_45 : decode cX3_reread 45 = .ok (.iload_n 1, 1) := by decide +kernel
theorem dX3_reread_46 : decode cX3_reread 46 = .ok (.bipush 16, 2) := by decide +kernel
theorem dX3_reread_48 : decode cX3_reread 48 = .ok (.imul, 1) := by decide +kernel
theorem dX3_reread_49 : decode cX3_reread 49 = .ok (.iload_n 3, 1) := by decide +kernel
theorem dX3_reread_50 : decode cX3_reread 50 = .ok (.iadd, 1) := by decide +kernel
theorem dX3_reread_51 : decode cX3_reread 51 = .ok (.istore 4, 2) := by decide +kernel
theorem dX3_reread_53 : decode cX3_reread 53 = .ok (.aload_n 0, 1) := by decide +kernel
theorem dX3_reread_54 : decode cX3_reread 54 = .ok (.getfield 15, 3) := by decide +kernel
theorem dX3_reread_57 : decode cX3_reread 57 = .ok (.iload 4, 2) := by decide +kernel
theorem dX3_reread_59 : decode cX3_reread 59 = .ok (.aload_n 0, 1) := by decide +kernel
theorem dX3_reread_60 : decode cX3_reread 60 = .ok (.getfield 9, 3) := by decide +kernel
theorem dX3_reread_63 : decode cX3_reread 63 = .ok (.aload_n 2, 1) := by decide +kernel
theorem dX3_reread_64 : decode cX3_reread 64 = .ok (.getfield 56, 3) := by decide +kernel
theorem dX3_reread_67 : decode cX3_reread 67 = .ok (.iload_n 3, 1) := by decide +kernel
theorem dX3_reread_68 : decode cX3_reread 68 = .ok (.iaload, 1) := by decide +kernel
theorem dX3_reread_69 : decode cX3_reread 69 = .ok (.iaload, 1) := by decide +kernel
theorem dX3_reread_70 : decode cX3_reread 70 = .ok (.iastore, 1) := by decide +kernel
theorem dX3_reread_71 : decode cX3_reread 71 = .ok (.aload_n 0, 1) := by decide +kernel
theorem dX3_reread_72 : decode cX3_reread 72 = .ok (.getfield 9, 3) := by decide +kernel
theorem dX3_reread_75 : decode cX3_reread 75 = .ok (.aload_n 2, 1) := by decide +kernel
theorem dX3_reread_76 : decode cX3_reread 76 = .ok (.getfield 56, 3) := by decide +kernel
theorem dX3_reread_79 : decode cX3_reread 79 = .ok (.iload_n 3, 1) := by decide +kernel
theorem dX3_reread_80 : decode cX3_reread 80 = .ok (.iaload, 1) := by decide +kernel
theorem dX3_reread_81 : decode cX3_reread 81 = .ok (.iload 4, 2) := by decide +kernel
theorem dX3_reread_83 : decode cX3_reread 83 = .ok (.iastore, 1) := by decide +kernel
theorem dX3_reread_84 : decode cX3_reread 84 = .ok (.iinc 3 1, 3) := by decide +kernel
theorem dX3_reread_87 : decode cX3_reread 87 = .ok (.goto (-54), 3) := by decide +kernel
theorem dX3_reread_90 : decode cX3_reread 90 = .ok (.iinc 1 1, 3) := by decide +kernel
theorem dX3_reread_93 : decode cX3_reread 93 = .ok (.goto (-83), 3) := by decide +kernel
theorem dX3_reread_96 : decode cX3_reread 96 = .ok (.aload_n 0, 1) := by decide +kernel
theorem dX3_reread_97 : decode cX3_reread 97 = .ok (.iconst (-1), 1) := by decide +kernel
theorem dX3_reread_98 : decode cX3_reread 98 = .ok (.putfield 28, 3) := by decide +kernel
theorem dX3_reread_101 : decode cX3_reread 101 = .ok (.return_, 1) := by decide +kernel
theorem dX3_settle_0 : decode cX3_settle 0 = .ok (.iconst 0, 1) := by decide +kernel
theorem dX3_settle_1 : decode cX3_settle 1 = .ok (.istore_n 3, 1) := by decide +kernel
theorem dX3_settle_2 : decode cX3_settle 2 = .ok (.iconst 0, 1) := by decide +kernel
theorem dX3_settle_3 : decode cX3_settle 3 = .ok (.istore 4, 2) := by decide +kernel
theorem dX3_settle_5 : decode cX3_settle 5 = .ok (.iload 4, 2) := by decide +kernel
theorem dX3_settle_7 : decode cX3_settle 7 = .ok (.aload_n 0, 1) := by decide +kernel
theorem dX3_settle_8 : decode cX3_settle 8 = .ok (.getfield 32, 3) := by decide +kernel
theorem dX3_settle_11 : decode cX3_settle 11 = .ok (.getfield 42, 3) := by decide +kernel
theorem dX3_settle_14 : decode cX3_settle 14 = .ok (.if_icmp .ge 51, 3) := by decide +kernel
theorem dX3_settle_17 : decode cX3_settle 17 = .ok (.aload_n 0, 1) := by decide +kernel
theorem dX3_settle_18 : decode cX3_settle 18 = .ok (.getfield 32, 3) := by decide +kernel
theorem dX3_settle_21 : decode cX3_settle 21 = .ok (.getfield 47, 3) := by decide +kernel
theorem dX3_settle_24 : decode cX3_settle 24 = .ok (.iload 4, 2) := by decide +kernel
theorem dX3_settle_26 : decode cX3_settle 26 = .ok (.aaload, 1) := by decide +kernel
theorem dX3_settle_27 : decode cX3_settle 27 = .ok (.astore 5, 2) := by decide +kernel
theorem dX3_settle_29 : decode cX3_settle 29 = .ok (.aload 5, 2) := by decide +kernel
theorem dX3_settle_31 : decode cX3_settle 31 = .ok (.ifnull 28, 3) := by decide +kernel
theorem dX3_settle_34 : decode cX3_settle 34 = .ok (.aload 5, 2) := by decide +kernel
theorem dX3_settle_36 : decode cX3_settle 36 = .ok (.getfield 59, 3) := by decide +kernel
theorem dX3_settle_39 : decode cX3_settle 39 = .ok (.iload_n 2, 1) := by decide +kernel
theorem dX3_settle_40 : decode cX3_settle 40 = .ok (.if_icmp .gt 19, 3) := by decide +kernel
theorem dX3_settle_43 : decode cX3_settle 43 = .ok (.aload 5, 2) := by decide +kernel
theorem dX3_settle_45 : decode cX3_settle 45 = .ok (.getfield 62, 3) := by decide +kernel
theorem dX3_settle_48 : decode cX3_settle 48 = .ok (.iload_n 1, 1) := by decide +kernel
theorem dX3_settle_49 : decode cX3_settle 49 = .ok (.if_icmp .gt 10, 3) := by decide +kernel
theorem dX3_settle_52 : decode cX3_settle 52 = .ok (.iload_n 3, 1) := by decide +kernel
theorem dX3_settle_53 : decode cX3_settle 53 = .ok (.iconst 1, 1) := by decide +kernel
theorem dX3_settle_54 : decode cX3_settle 54 = .ok (.iload 4, 2) := by decide +kernel
theorem dX3_settle_56 : decode cX3_settle 56 = .ok (.ishl, 1) := by decide +kernel
theorem dX3_settle_57 : decode cX3_settle 57 = .ok (.ior, 1) := by decide +kernel
theorem dX3_settle_58 : decode cX3_settle 58 = .ok (.istore_n 3, 1) := by decide +kernel
theorem dX3_settle_59 : decode cX3_settle 59 = .ok (.iinc 4 1, 3) := by decide +kernel
theorem dX3_settle_62 : decode cX3_settle 62 = .ok (.goto (-57), 3) := by decide +kernel
theorem dX3_settle_65 : decode cX3_settle 65 = .ok (.iload_n 3, 1) := by decide +kernel
theorem dX3_settle_66 : decode cX3_settle 66 = .ok (.aload_n 0, 1) := by decide +kernel
theorem dX3_settle_67 : decode cX3_settle 67 = .ok (.getfield 28, 3) := by decide +kernel
theorem dX3_settle_70 : decode cX3_settle 70 = .ok (.if_icmp .eq 13, 3) := by decide +kernel
theorem dX3_settle_73 : decode cX3_settle 73 = .ok (.aload_n 0, 1) := by decide +kernel
theorem dX3_settle_74 : decode cX3_settle 74 = .ok (.iload_n 3, 1) := by decide +kernel
theorem dX3_settle_75 : decode cX3_settle 75 = .ok (.putfield 28, 3) := by decide +kernel
theorem dX3_settle_78 : decode cX3_settle 78 = .ok (.aload_n 0, 1) := by decide +kernel
theorem dX3_settle_79 : decode cX3_settle 79 = .ok (.iload_n 3, 1) := by decide +kernel
theorem dX3_settle_80 : decode cX3_settle 80 = .ok (.invokevirtual 65, 3) := by decide +kernel
theorem dX3_settle_83 : decode cX3_settle 83 = .ok (.return_, 1) := by decide +kernel
theorem dX3_findForced_0 : decode cX3_findForced 0 = .ok (.aload_n 0, 1) := by decide +kernel
theorem dX3_findForced_1 : decode cX3_findForced 1 = .ok (.getfield 18, 3) := by decide +kernel
theorem dX3_findForced_4 : decode cX3_findForced 4 = .ok (.ldc 69, 2) := by decide +kernel
theorem dX3_findForced_6 : decode cX3_findForced 6 = .ok (.invokestatic 36, 3) := by decide +kernel
theorem dX3_findForced_9 : decode cX3_findForced 9 = .ok (.aload_n 0, 1) := by decide +kernel
theorem dX3_findForced_10 : decode cX3_findForced 10 = .ok (.getfield 32, 3) := by decide +kernel
theorem dX3_findForced_13 : decode cX3_findForced 13 = .ok (.getfield 42, 3) := by decide +kernel
theorem dX3_findForced_16 : decode cX3_findForced 16 = .ok (.iconst 1, 1) := by decide +kernel
theorem dX3_findForced_17 : decode cX3_findForced 17 = .ok (.isub, 1) := by decide +kernel
theorem dX3_findForced_18 : decode cX3_findForced 18 = .ok (.istore_n 2, 1) := by decide +kernel
theorem dX3_findForced_19 : decode cX3_findForced 19 = .ok (.iload_n 2, 1) := by decide +kernel
theorem dX3_findForced_20 : decode cX3_findForced 20 = .ok (.ifCond .lt 123, 3) := by decide +kernel
theorem dX3_findForced_23 : decode cX3_findForced 23 = .ok (.aload_n 0, 1) := by decide +kernel
theorem dX3_findForced_24 : decode cX3_findForced 24 = .ok (.getfield 32, 3) := by decide +kernel
theorem dX3_findForced_27 : decode cX3_findForced 27 = .ok (.getfield 47, 3) := by decide +kernel
theorem dX3_findForced_30 : decode cX3_findForced 30 = .ok (.iload_n 2, 1) := by decide +kernel
theorem dX3_findForced_31 : decode cX3_findForced 31 = .ok (.aaload, 1) := by decide +kernel
theorem dX3_findForced_32 : decode cX3_findForced 32 = .ok (.astore_n 3, 1) := by decide +kernel
theorem dX3_findForced_33 : decode cX3_findForced 33 = .ok (.aload_n 3, 1) := by decide +kernel
theorem dX3_findForced_34 : decode cX3_findForced 34 = .ok (.ifnull 11, 3) := by decide +kernel
theorem dX3_findForced_37 : decode cX3_findForced 37 = .ok (.iload_n 1, 1) := by decide +kernel
theorem dX3_findForced_38 : decode cX3_findForced 38 = .ok (.iload_n 2, 1) := by decide +kernel
theorem dX3_findForced_39 : decode cX3_findForced 39 = .ok (.ishr, 1) := by decide +kernel
theorem dX3_findForced_40 : decode cX3_findForced 40 = .ok (.iconst 1, 1) := by decide +kernel
theorem dX3_findForced_41 : decode cX3_findForced 41 = .ok (.iand, 1) := by decide +kernel
theorem dX3_findForced_42 : decode cX3_findForced 42 = .ok (.ifCond .ne 13, 3) := by decide +kernel
theorem dX3_findForced_45 : decode cX3_findForced 45 = .ok (.aload_n 0, 1) := by decide +kernel
theorem dX3_findForced_46 : decode cX3_findForced 46 = .ok (.getfield 18, 3) := by decide +kernel
theorem dX3_findForced_49 : decode cX3_findForced 49 = .ok (.iload_n 2, 1) := by decide +kernel
theorem dX3_findForced_50 : decode cX3_findForced 50 = .ok (.iconst 0, 1) := by decide +kernel
theorem dX3_findForced_51 : decode cX3_findForced 51 = .ok (.iastore, 1) := by decide +kernel
theorem dX3_findForced_52 : decode cX3_findForced 52 = .ok (.goto 85, 3) := by decide +kernel
theorem dX3_findForced_55 : decode cX3_findForced 55 = .ok (.iconst 0, 1) := by decide +kernel
theorem dX3_findForced_56 : decode cX3_findForced 56 = .ok (.istore 4, 2) := by decide +kernel
theorem dX3_findForced_58 : decode cX3_findForced 58 = .ok (.iload 4, 2) := by decide +kernel
theorem dX3_findForced_60 : decode cX3_findForced 60 = .ok (.aload_n 3, 1) := by decide +kernel
theorem dX3_findForced_61 : decode cX3_findForced 61 = .ok (.getfield 51, 3) := by decide +kernel
theorem dX3_findForced_64 : decode cX3_findForced 64 = .ok (.if_icmp .ge 73, 3) := by decide +kernel
theorem dX3_findForced_67 : decode cX3_findForced 67 = .ok (.aload_n 3, 1) := by decide +kernel
theorem dX3_findForced_68 : decode cX3_findForced 68 = .ok (.getfield 70, 3) := by decide +kernel
theorem dX3_findForced_71 : decode cX3_findForced 71 = .ok (.iload 4, 2) := by decide +kernel
theorem dX3_findForced_73 : decode cX3_findForced 73 = .ok (.iaload, 1) := by decide +kernel
theorem dX3_findForced_74 : decode cX3_findForced 74 = .ok (.bipush 16, 2) := by decide +kernel
theorem dX3_findForced_76 : decode cX3_findForced 76 = .ok (.idiv, 1) := by decide +kernel
theorem dX3_findForced_77 : decode cX3_findForced 77 = .ok (.istore 5, 2) := by decide +kernel
theorem dX3_findForced_79 : decode cX3_findForced 79 = .ok (.aload_n 3, 1) := by decide +kernel
theorem dX3_findForced_80 : decode cX3_findForced 80 = .ok (.getfield 56, 3) := by decide +kernel
theorem dX3_findForced_83 : decode cX3_findForced 83 = .ok (.iload 4, 2) := by decide +kernel
theorem dX3_findForced_85 : decode cX3_findForced 85 = .ok (.iaload, 1) := by decide +kernel
theorem dX3_findForced_86 : decode cX3_findForced 86 = .ok (.bipush 62, 2) := by decide +kernel
theorem dX3_findForced_88 : decode cX3_findForced 88 = .ok (.if_icmp .ne 43, 3) := by decide +kernel
theorem dX3_findForced_91 : decode cX3_findForced 91 = .ok (.aload_n 0, 1) := by decide +kernel
theorem dX3_findForced_92 : decode cX3_findForced 92 = .ok (.iload_n 2, 1) := by decide +kernel
theorem dX3_findForced_93 : decode cX3_findForced 93 = .ok (.iload 4, 2) := by decide +kernel
theorem dX3_findForced_95 : decode cX3_findForced 95 = .ok (.invokevirtual 73, 3) := by decide +kernel
theorem dX3_findForced_98 : decode cX3_findForced 98 = .ok (.ifCond .eq 33, 3) := by decide +kernel
theorem dX3_findForced_101 : decode cX3_findForced 101 = .ok (.iload 5, 2) := by decide +kernel
theorem dX3_findForced_103 : decode cX3_findForced 103 = .ok (.iload_n 2, 1) := by decide +kernel
theorem dX3_findForced_104 : decode cX3_findForced 104 = .ok (.if_icmp .ge 27, 3) := by decide +kernel
theorem dX3_findForced_107 : decode cX3_findForced 107 = .ok (.aload_n 0, 1) := by decide +kernel
theorem dX3_findForced_108 : decode cX3_findForced 108 = .ok (.getfield 18, 3) := by decide +kernel
theorem dX3_findForced_111 : decode cX3_findForced 111 = .ok (.iload 5, 2) := by decide +kernel
theorem dX3_findForced_113 : decode cX3_findForced 113 = .ok (.dup2, 1) := by decide +kernel
theorem dX3_findForced_114 : decode cX3_findForced 114 = .ok (.iaload, 1) := by decide +kernel
theorem dX3_findForced_115 : decode cX3_findForced 115 = .ok (.iconst 1, 1) := by decide +kernel
theorem dX3_findForced_116 : decode cX3_findForced 116 = .ok (.aload_n 3, 1) := by decide +kernel
theorem dX3_findForced_117 : decode cX3_findForced 117 = .ok (.getfield 70, 3) := by decide +kernel
theorem dX3_findForced_120 : decode cX3_findForced 120 = .ok (.iload 4, 2) := by decide +kernel
theorem dX3_findForced_122 : decode cX3_findForced 122 = .ok (.iaload, 1) := by decide +kernel
theorem dX3_findForced_123 : decode cX3_findForced 123 = .ok (.bipush 16, 2) := by decide +kernel
theorem dX3_findForced_125 : decode cX3_findForced 125 = .ok (.irem, 1) := by decide +kernel
theorem dX3_findForced_126 : decode cX3_findForced 126 = .ok (.ishl, 1) := by decide +kernel
theorem dX3_findForced_127 : decode cX3_findForced 127 = .ok (.iconst (-1), 1) := by decide +kernel
theorem dX3_findForced_128 : decode cX3_findForced 128 = .ok (.ixor, 1) := by decide +kernel
theorem dX3_findForced_129 : decode cX3_findForced 129 = .ok (.iand, 1) := by decide +kernel
theorem dX3_findForced_130 : decode cX3_findForced 130 = .ok (.iastore, 1) := by decide +kernel
theorem dX3_findForced_131 : decode cX3_findForced 131 = .ok (.iinc 4 1, 3) := by decide +kernel
theorem dX3_findForced_134 : decode cX3_findForced 134 = .ok (.goto (-76), 3) := by decide +kernel
theorem dX3_findForced_137 : decode cX3_findForced 137 = .ok (.iinc 2 (-1), 3) := by decide +kernel
theorem dX3_findForced_140 : decode cX3_findForced 140 = .ok (.goto (-121), 3) := by decide +kernel
theorem dX3_findForced_143 : decode cX3_findForced 143 = .ok (.return_, 1) := by decide +kernel
theorem dX3_isForced_0 : decode cX3_isForced 0 = .ok (.aload_n 0, 1) := by decide +kernel
theorem dX3_isForced_1 : decode cX3_isForced 1 = .ok (.getfield 18, 3) := by decide +kernel
theorem dX3_isForced_4 : decode cX3_isForced 4 = .ok (.iload_n 1, 1) := by decide +kernel
theorem dX3_isForced_5 : decode cX3_isForced 5 = .ok (.iaload, 1) := by decide +kernel
theorem dX3_isForced_6 : decode cX3_isForced 6 = .ok (.iload_n 2, 1) := by decide +kernel
theorem dX3_isForced_7 : decode cX3_isForced 7 = .ok (.ishr, 1) := by decide +kernel
theorem dX3_isForced_8 : decode cX3_isForced 8 = .ok (.iconst 1, 1) := by decide +kernel
theorem dX3_isForced_9 : decode cX3_isForced 9 = .ok (.iand, 1) := by decide +kernel
theorem dX3_isForced_10 : decode cX3_isForced 10 = .ok (.ifCond .eq 7, 3) := by decide +kernel
theorem dX3_isForced_13 : decode cX3_isForced 13 = .ok (.iconst 1, 1) := by decide +kernel
theorem dX3_isForced_14 : decode cX3_isForced 14 = .ok (.goto 4, 3) := by decide +kernel
theorem dX3_isForced_17 : decode cX3_isForced 17 = .ok (.iconst 0, 1) := by decide +kernel
theorem dX3_isForced_18 : decode cX3_isForced 18 = .ok (.ireturn, 1) := by decide +kernel
theorem dX3_ask_0 : decode cX3_ask 0 = .ok (.aload_n 0, 1) := by decide +kernel
theorem dX3_ask_1 : decode cX3_ask 1 = .ok (.getfield 21, 3) := by decide +kernel
theorem dX3_ask_4 : decode cX3_ask 4 = .ok (.iconst 0, 1) := by decide +kernel
theorem dX3_ask_5 : decode cX3_ask 5 = .ok (.invokestatic 36, 3) := by decide +kernel
theorem dX3_ask_8 : decode cX3_ask 8 = .ok (.aload_n 0, 1) := by decide +kernel
theorem dX3_ask_9 : decode cX3_ask 9 = .ok (.getfield 21, 3) := by decide +kernel
theorem dX3_ask_12 : decode cX3_ask 12 = .ok (.iconst 0, 1) := by decide +kernel
theorem dX3_ask_13 : decode cX3_ask 13 = .ok (.iload_n 1, 1) := by decide +kernel
theorem dX3_ask_14 : decode cX3_ask 14 = .ok (.iastore, 1) := by decide +kernel
theorem dX3_ask_15 : decode cX3_ask 15 = .ok (.aload_n 0, 1) := by decide +kernel
theorem dX3_ask_16 : decode cX3_ask 16 = .ok (.getfield 21, 3) := by decide +kernel
theorem dX3_ask_19 : decode cX3_ask 19 = .ok (.bipush 6, 2) := by decide +kernel
theorem dX3_ask_21 : decode cX3_ask 21 = .ok (.iload_n 2, 1) := by decide +kernel
theorem dX3_ask_22 : decode cX3_ask 22 = .ok (.iastore, 1) := by decide +kernel
theorem dX3_ask_23 : decode cX3_ask 23 = .ok (.return_, 1) := by decide +kernel
theorem dX3_askOf_0 : decode cX3_askOf 0 = .ok (.aload_n 0, 1) := by decide +kernel
theorem dX3_askOf_1 : decode cX3_askOf 1 = .ok (.getfield 21, 3) := by decide +kernel
theorem dX3_askOf_4 : decode cX3_askOf 4 = .ok (.iconst 1, 1) := by decide +kernel
theorem dX3_askOf_5 : decode cX3_askOf 5 = .ok (.aload_n 0, 1) := by decide +kernel
theorem dX3_askOf_6 : decode cX3_askOf 6 = .ok (.getfield 32, 3) := by decide +kernel
theorem dX3_askOf_9 : decode cX3_askOf 9 = .ok (.getfield 77, 3) := by decide +kernel
theorem dX3_askOf_12 : decode cX3_askOf 12 = .ok (.iload_n 1, 1) := by decide +kernel
theorem dX3_askOf_13 : decode cX3_askOf 13 = .ok (.iconst 2, 1) := by decide +kernel
theorem dX3_askOf_14 : decode cX3_askOf 14 = .ok (.invokevirtual 81, 3) := by decide +kernel
theorem dX3_askOf_17 : decode cX3_askOf 17 = .ok (.iastore, 1) := by decide +kernel
theorem dX3_askOf_18 : decode cX3_askOf 18 = .ok (.aload_n 0, 1) := by decide +kernel
theorem dX3_askOf_19 : decode cX3_askOf 19 = .ok (.getfield 21, 3) := by decide +kernel
theorem dX3_askOf_22 : decode cX3_askOf 22 = .ok (.iconst 2, 1) := by decide +kernel
theorem dX3_askOf_23 : decode cX3_askOf 23 = .ok (.aload_n 0, 1) := by decide +kernel
theorem dX3_askOf_24 : decode cX3_askOf 24 = .ok (.getfield 32, 3) := by decide +kernel
theorem dX3_askOf_27 : decode cX3_askOf 27 = .ok (.getfield 77, 3) := by decide +kernel
theorem dX3_askOf_30 : decode cX3_askOf 30 = .ok (.iload_n 1, 1) := by decide +kernel
theorem dX3_askOf_31 : decode cX3_askOf 31 = .ok (.iconst 3, 1) := by decide +kernel
theorem dX3_askOf_32 : decode cX3_askOf 32 = .ok (.invokevirtual 81, 3) := by decide +kernel
theorem dX3_askOf_35 : decode cX3_askOf 35 = .ok (.iastore, 1) := by decide +kernel
theorem dX3_askOf_36 : decode cX3_askOf 36 = .ok (.aload_n 0, 1) := by decide +kernel
theorem dX3_askOf_37 : decode cX3_askOf 37 = .ok (.getfield 21, 3) := by decide +kernel
theorem dX3_askOf_40 : decode cX3_askOf 40 = .ok (.iconst 3, 1) := by decide +kernel
theorem dX3_askOf_41 : decode cX3_askOf 41 = .ok (.aload_n 0, 1) := by decide +kernel
theorem dX3_askOf_42 : decode cX3_askOf 42 = .ok (.getfield 32, 3) := by decide +kernel
theorem dX3_askOf_45 : decode cX3_askOf 45 = .ok (.getfield 77, 3) := by decide +kernel
theorem dX3_askOf_48 : decode cX3_askOf 48 = .ok (.iload_n 1, 1) := by decide +kernel
theorem dX3_askOf_49 : decode cX3_askOf 49 = .ok (.iconst 5, 1) := by decide +kernel
theorem dX3_askOf_50 : decode cX3_askOf 50 = .ok (.invokevirtual 81, 3) := by decide +kernel
theorem dX3_askOf_53 : decode cX3_askOf 53 = .ok (.iastore, 1) := by decide +kernel
theorem dX3_askOf_54 : decode cX3_askOf 54 = .ok (.aload_n 0, 1) := by decide +kernel
theorem dX3_askOf_55 : decode cX3_askOf 55 = .ok (.getfield 21, 3) := by decide +kernel
theorem dX3_askOf_58 : decode cX3_askOf 58 = .ok (.iconst 5, 1) := by decide +kernel
theorem dX3_askOf_59 : decode cX3_askOf 59 = .ok (.aload_n 0, 1) := by decide +kernel
theorem dX3_askOf_60 : decode cX3_askOf 60 = .ok (.getfield 32, 3) := by decide +kernel
theorem dX3_askOf_63 : decode cX3_askOf 63 = .ok (.getfield 77, 3) := by decide +kernel
theorem dX3_askOf_66 : decode cX3_askOf 66 = .ok (.iload_n 1, 1) := by decide +kernel
theorem dX3_askOf_67 : decode cX3_askOf 67 = .ok (.iconst 4, 1) := by decide +kernel
theorem dX3_askOf_68 : decode cX3_askOf 68 = .ok (.invokevirtual 81, 3) := by decide +kernel
theorem dX3_askOf_71 : decode cX3_askOf 71 = .ok (.iastore, 1) := by decide +kernel
theorem dX3_askOf_72 : decode cX3_askOf 72 = .ok (.aload_n 0, 1) := by decide +kernel
theorem dX3_askOf_73 : decode cX3_askOf 73 = .ok (.getfield 21, 3) := by decide +kernel
theorem dX3_askOf_76 : decode cX3_askOf 76 = .ok (.iconst 4, 1) := by decide +kernel
theorem dX3_askOf_77 : decode cX3_askOf 77 = .ok (.iload_n 2, 1) := by decide +kernel
theorem dX3_askOf_78 : decode cX3_askOf 78 = .ok (.iastore, 1) := by decide +kernel
theorem dX3_askOf_79 : decode cX3_askOf 79 = .ok (.return_, 1) := by decide +kernel
theorem dX3_counted_0 : decode cX3_counted 0 = .ok (.aload_n 0, 1) := by decide +kernel
theorem dX3_counted_1 : decode cX3_counted 1 = .ok (.getfield 9, 3) := by decide +kernel
theorem dX3_counted_4 : decode cX3_counted 4 = .ok (.iload_n 1, 1) := by decide +kernel
theorem dX3_counted_5 : decode cX3_counted 5 = .ok (.iaload, 1) := by decide +kernel
theorem dX3_counted_6 : decode cX3_counted 6 = .ok (.istore_n 2, 1) := by decide +kernel
theorem dX3_counted_7 : decode cX3_counted 7 = .ok (.iconst 0, 1) := by decide +kernel
theorem dX3_counted_8 : decode cX3_counted 8 = .ok (.istore_n 3, 1) := by decide +kernel
theorem dX3_counted_9 : decode cX3_counted 9 = .ok (.iload_n 3, 1) := by decide +kernel
theorem dX3_counted_10 : decode cX3_counted 10 = .ok (.aload_n 0, 1) := by decide +kernel
theorem dX3_counted_11 : decode cX3_counted 11 = .ok (.getfield 15, 3) := by decide +kernel
theorem dX3_counted_14 : decode cX3_counted 14 = .ok (.arraylength, 1) := by decide +kernel
theorem dX3_counted_15 : decode cX3_counted 15 = .ok (.if_icmp .ge 51, 3) := by decide +kernel
theorem dX3_counted_18 : decode cX3_counted 18 = .ok (.iload_n 2, 1) := by decide +kernel
theorem dX3_counted_19 : decode cX3_counted 19 = .ok (.ifCond .lt 47, 3) := by decide +kernel
theorem dX3_counted_22 : decode cX3_counted 22 = .ok (.aload_n 0, 1) := by decide +kernel
theorem dX3_counted_23 : decode cX3_counted 23 = .ok (.iload_n 2, 1) := by decide +kernel
theorem dX3_counted_24 : decode cX3_counted 24 = .ok (.invokevirtual 87, 3) := by decide +kernel
theorem dX3_counted_27 : decode cX3_counted 27 = .ok (.lstore 4, 2) := by decide +kernel
theorem dX3_counted_29 : decode cX3_counted 29 = .ok (.lload 4, 2) := by decide +kernel
theorem dX3_counted_31 : decode cX3_counted 31 = .ok (.ldc2_w 91, 3) := by decide +kernel
theorem dX3_counted_34 : decode cX3_counted 34 = .ok (.lcmp, 1) := by decide +kernel
theorem dX3_counted_35 : decode cX3_counted 35 = .ok (.ifCond .eq 18, 3) := by decide +kernel
theorem dX3_counted_38 : decode cX3_counted 38 = .ok (.lload 4, 2) := by decide +kernel
theorem dX3_counted_40 : decode cX3_counted 40 = .ok (.lconst 0, 1) := by decide +kernel
theorem dX3_counted_41 : decode cX3_counted 41 = .ok (.lcmp, 1) := by decide +kernel
theorem dX3_counted_42 : decode cX3_counted 42 = .ok (.ifCond .ge 7, 3) := by decide +kernel
theorem dX3_counted_45 : decode cX3_counted 45 = .ok (.iconst 0, 1) := by decide +kernel
theorem dX3_counted_46 : decode cX3_counted 46 = .ok (.goto 6, 3) := by decide +kernel
theorem dX3_counted_49 : decode cX3_counted 49 = .ok (.lload 4, 2) := by decide +kernel
theorem dX3_counted_51 : decode cX3_counted 51 = .ok (.l2i, 1) := by decide +kernel
theorem dX3_counted_52 : decode cX3_counted 52 = .ok (.ireturn, 1) := by decide +kernel
theorem dX3_counted_53 : decode cX3_counted 53 = .ok (.aload_n 0, 1) := by decide +kernel
theorem dX3_counted_54 : decode cX3_counted 54 = .ok (.getfield 15, 3) := by decide +kernel
theorem dX3_counted_57 : decode cX3_counted 57 = .ok (.iload_n 2, 1) := by decide +kernel
theorem dX3_counted_58 : decode cX3_counted 58 = .ok (.iaload, 1) := by decide +kernel
theorem dX3_counted_59 : decode cX3_counted 59 = .ok (.istore_n 2, 1) := by decide +kernel
theorem dX3_counted_60 : decode cX3_counted 60 = .ok (.iinc 3 1, 3) := by decide +kernel
theorem dX3_counted_63 : decode cX3_counted 63 = .ok (.goto (-54), 3) := by decide +kernel
theorem dX3_counted_66 : decode cX3_counted 66 = .ok (.iconst (-1), 1) := by decide +kernel
theorem dX3_counted_67 : decode cX3_counted 67 = .ok (.ireturn, 1) := by decide +kernel
theorem dX3_total_0 : decode cX3_total 0 = .ok (.lconst 0, 1) := by decide +kernel
theorem dX3_total_1 : decode cX3_total 1 = .ok (.lstore_n 2, 1) := by decide +kernel
theorem dX3_total_2 : decode cX3_total 2 = .ok (.aload_n 0, 1) := by decide +kernel
theorem dX3_total_3 : decode cX3_total 3 = .ok (.getfield 9, 3) := by decide +kernel
theorem dX3_total_6 : decode cX3_total 6 = .ok (.iload_n 1, 1) := by decide +kernel
theorem dX3_total_7 : decode cX3_total 7 = .ok (.iaload, 1) := by decide +kernel
theorem dX3_total_8 : decode cX3_total 8 = .ok (.istore 4, 2) := by decide +kernel
theorem dX3_total_10 : decode cX3_total 10 = .ok (.iconst 0, 1) := by decide +kernel
theorem dX3_total_11 : decode cX3_total 11 = .ok (.istore 5, 2) := by decide +kernel
theorem dX3_total_13 : decode cX3_total 13 = .ok (.iload 5, 2) := by decide +kernel
theorem dX3_total_15 : decode cX3_total 15 = .ok (.aload_n 0, 1) := by decide +kernel
theorem dX3_total_16 : decode cX3_total 16 = .ok (.getfield 15, 3) := by decide +kernel
theorem dX3_total_19 : decode cX3_total 19 = .ok (.arraylength, 1) := by decide +kernel
theorem dX3_total_20 : decode cX3_total 20 = .ok (.if_icmp .ge 45, 3) := by decide +kernel
theorem dX3_total_23 : decode cX3_total 23 = .ok (.iload 4, 2) := by decide +kernel
theorem dX3_total_25 : decode cX3_total 25 = .ok (.ifCond .lt 40, 3) := by decide +kernel
theorem dX3_total_28 : decode cX3_total 28 = .ok (.aload_n 0, 1) := by decide +kernel
theorem dX3_total_29 : decode cX3_total 29 = .ok (.iload 4, 2) := by decide +kernel
theorem dX3_total_31 : decode cX3_total 31 = .ok (.invokevirtual 87, 3) := by decide +kernel
theorem dX3_total_34 : decode cX3_total 34 = .ok (.lstore 6, 2) := by decide +kernel
theorem dX3_total_36 : decode cX3_total 36 = .ok (.lload 6, 2) := by decide +kernel
theorem dX3_total_38 : decode cX3_total 38 = .ok (.ldc2_w 91, 3) := by decide +kernel
theorem dX3_total_41 : decode cX3_total 41 = .ok (.lcmp, 1) := by decide +kernel
theorem dX3_total_42 : decode cX3_total 42 = .ok (.ifCond .eq 8, 3) := by decide +kernel
theorem dX3_total_45 : decode cX3_total 45 = .ok (.lload_n 2, 1) := by decide +kernel
theorem dX3_total_46 : decode cX3_total 46 = .ok (.lload 6, 2) := by decide +kernel
theorem dX3_total_48 : decode cX3_total 48 = .ok (.ladd, 1) := by decide +kernel
theorem dX3_total_49 : decode cX3_total 49 = .ok (.lstore_n 2, 1) := by decide +kernel
theorem dX3_total_50 : decode cX3_total 50 = .ok (.aload_n 0, 1) := by decide +kernel
theorem dX3_total_51 : decode cX3_total 51 = .ok (.getfield 15, 3) := by decide +kernel
theorem dX3_total_54 : decode cX3_total 54 = .ok (.iload 4, 2) := by decide +kernel
theorem dX3_total_56 : decode cX3_total 56 = .ok (.iaload, 1) := by decide +kernel
theorem dX3_total_57 : decode cX3_total 57 = .ok (.istore 4, 2) := by decide +kernel
theorem dX3_total_59 : decode cX3_total 59 = .ok (.iinc 5 1, 3) := by decide +kernel
theorem dX3_total_62 : decode cX3_total 62 = .ok (.goto (-49), 3) := by decide +kernel
theorem dX3_total_65 : decode cX3_total 65 = .ok (.lload_n 2, 1) := by decide +kernel
theorem dX3_total_66 : decode cX3_total 66 = .ok (.lreturn, 1) := by decide +kernel
theorem dX3_evaluate_0 : decode cX3_evaluate 0 = .ok (.aload_n 0, 1) := by decide +kernel
theorem dX3_evaluate_1 : decode cX3_evaluate 1 = .ok (.getfield 32, 3) := by decide +kernel
theorem dX3_evaluate_4 : decode cX3_evaluate 4 = .ok (.getfield 47, 3) := by decide +kernel
theorem dX3_evaluate_7 : decode cX3_evaluate 7 = .ok (.iload_n 1, 1) := by decide +kernel
theorem dX3_evaluate_8 : decode cX3_evaluate 8 = .ok (.bipush 16, 2) := by decide +kernel
theorem dX3_evaluate_10 : decode cX3_evaluate 10 = .ok (.idiv, 1) := by decide +kernel
theorem dX3_evaluate_11 : decode cX3_evaluate 11 = .ok (.aaload, 1) := by decide +kernel
theorem dX3_evaluate_12 : decode cX3_evaluate 12 = .ok (.astore_n 2, 1) := by decide +kernel
theorem dX3_evaluate_13 : decode cX3_evaluate 13 = .ok (.aload_n 2, 1) := by decide +kernel
theorem dX3_evaluate_14 : decode cX3_evaluate 14 = .ok (.ifnull 18, 3) := by decide +kernel
theorem dX3_evaluate_17 : decode cX3_evaluate 17 = .ok (.aload_n 0, 1) := by decide +kernel
theorem dX3_evaluate_18 : decode cX3_evaluate 18 = .ok (.iload_n 1, 1) := by decide +kernel
theorem dX3_evaluate_19 : decode cX3_evaluate 19 = .ok (.bipush 16, 2) := by decide +kernel
theorem dX3_evaluate_21 : decode cX3_evaluate 21 = .ok (.idiv, 1) := by decide +kernel
theorem dX3_evaluate_22 : decode cX3_evaluate 22 = .ok (.iload_n 1, 1) := by decide +kernel
theorem dX3_evaluate_23 : decode cX3_evaluate 23 = .ok (.bipush 16, 2) := by decide +kernel
theorem dX3_evaluate_25 : decode cX3_evaluate 25 = .ok (.irem, 1) := by decide +kernel
theorem dX3_evaluate_26 : decode cX3_evaluate 26 = .ok (.invokevirtual 73, 3) := by decide +kernel
theorem dX3_evaluate_29 : decode cX3_evaluate 29 = .ok (.ifCond .ne 7, 3) := by decide +kernel
theorem dX3_evaluate_32 : decode cX3_evaluate 32 = .ok (.ldc2_w 91, 3) := by decide +kernel
theorem dX3_evaluate_35 : decode cX3_evaluate 35 = .ok (.lreturn, 1) := by decide +kernel
theorem dX3_evaluate_36 : decode cX3_evaluate 36 = .ok (.aload_n 2, 1) := by decide +kernel
theorem dX3_evaluate_37 : decode cX3_evaluate 37 = .ok (.getfield 93, 3) := by decide +kernel
theorem dX3_evaluate_40 : decode cX3_evaluate 40 = .ok (.astore_n 3, 1) := by decide +kernel
theorem dX3_evaluate_41 : decode cX3_evaluate 41 = .ok (.iconst 0, 1) := by decide +kernel
theorem dX3_evaluate_42 : decode cX3_evaluate 42 = .ok (.istore 4, 2) := by decide +kernel
theorem dX3_evaluate_44 : decode cX3_evaluate 44 = .ok (.aload_n 2, 1) := by decide +kernel
theorem dX3_evaluate_45 : decode cX3_evaluate 45 = .ok (.getfield 96, 3) := by decide +kernel
theorem dX3_evaluate_48 : decode cX3_evaluate 48 = .ok (.iload_n 1, 1) := by decide +kernel
theorem dX3_evaluate_49 : decode cX3_evaluate 49 = .ok (.bipush 16, 2) := by decide +kernel
theorem dX3_evaluate_51 : decode cX3_evaluate 51 = .ok (.irem, 1) := by decide +kernel
theorem dX3_evaluate_52 : decode cX3_evaluate 52 = .ok (.iaload, 1) := by decide +kernel
theorem dX3_evaluate_53 : decode cX3_evaluate 53 = .ok (.istore 5, 2) := by decide +kernel
theorem dX3_evaluate_55 : decode cX3_evaluate 55 = .ok (.iload 5, 2) := by decide +kernel
theorem dX3_evaluate_57 : decode cX3_evaluate 57 = .ok (.ifCond .lt 299, 3) := by decide +kernel
theorem dX3_evaluate_60 : decode cX3_evaluate 60 = .ok (.iload 5, 2) := by decide +kernel
theorem dX3_evaluate_62 : decode cX3_evaluate 62 = .ok (.aload_n 3, 1) := by decide +kernel
theorem dX3_evaluate_63 : decode cX3_evaluate 63 = .ok (.arraylength, 1) := by decide +kernel
theorem dX3_evaluate_64 : decode cX3_evaluate 64 = .ok (.if_icmp .ge 292, 3) := by decide +kernel
theorem dX3_evaluate_67 : decode cX3_evaluate 67 = .ok (.aload_n 3, 1) := by decide +kernel
theorem dX3_evaluate_68 : decode cX3_evaluate 68 = .ok (.iload 5, 2) := by decide +kernel
theorem dX3_evaluate_70 : decode cX3_evaluate 70 = .ok (.iaload, 1) := by decide +kernel
theorem dX3_evaluate_71 : decode cX3_evaluate 71 = .ok (.bipush 15, 2) := by decide +kernel
theorem dX3_evaluate_73 : decode cX3_evaluate 73 = .ok (.iand, 1) := by decide +kernel
theorem dX3_evaluate_74 : decode cX3_evaluate 74 = .ok (.istore 6, 2) := by decide +kernel
theorem dX3_evaluate_76 : decode cX3_evaluate 76 = .ok (.aload_n 3, 1) := by decide +kernel
theorem dX3_evaluate_77 : decode cX3_evaluate 77 = .ok (.iload 5, 2) := by decide +kernel
theorem dX3_evaluate_79 : decode cX3_evaluate 79 = .ok (.iaload, 1) := by decide +kernel
theorem dX3_evaluate_80 : decode cX3_evaluate 80 = .ok (.iconst 4, 1) := by decide +kernel
theorem dX3_evaluate_81 : decode cX3_evaluate 81 = .ok (.ishr, 1) := by decide +kernel
theorem dX3_evaluate_82 : decode cX3_evaluate 82 = .ok (.istore 7, 2) := by decide +kernel
theorem dX3_evaluate_84 : decode cX3_evaluate 84 = .ok (.iload 6, 2) := by decide +kernel
theorem dX3_evaluate_86 : decode cX3_evaluate 86 = .ok (.iconst 1, 1) := by decide +kernel
theorem dX3_evaluate_87 : decode cX3_evaluate 87 = .ok (.if_icmp .gt 49, 3) := by decide +kernel
theorem dX3_evaluate_90 : decode cX3_evaluate 90 = .ok (.iload 4, 2) := by decide +kernel
theorem dX3_evaluate_92 : decode cX3_evaluate 92 = .ok (.aload_n 0, 1) := by decide +kernel
theorem dX3_evaluate_93 : decode cX3_evaluate 93 = .ok (.getfield 24, 3) := by decide +kernel
theorem dX3_evaluate_96 : decode cX3_evaluate 96 = .ok (.arraylength, 1) := by decide +kernel
theorem dX3_evaluate_97 : decode cX3_evaluate 97 = .ok (.if_icmp .lt 7, 3) := by decide +kernel
theorem dX3_evaluate_100 : decode cX3_evaluate 100 = .ok (.ldc2_w 91, 3) := by decide +kernel
theorem dX3_evaluate_103 : decode cX3_evaluate 103 = .ok (.lreturn, 1) := by decide +kernel
theorem dX3_evaluate_104 : decode cX3_evaluate 104 = .ok (.aload_n 0, 1) := by decide +kernel
theorem dX3_evaluate_105 : decode cX3_evaluate 105 = .ok (.getfield 24, 3) := by decide +kernel
theorem dX3_evaluate_108 : decode cX3_evaluate 108 = .ok (.iload 4, 2) := by decide +kernel
theorem dX3_evaluate_110 : decode cX3_evaluate 110 = .ok (.iload 6, 2) := by decide +kernel
theorem dX3_evaluate_112 : decode cX3_evaluate 112 = .ok (.ifCond .ne 9, 3) := by decide +kernel
theorem dX3_evaluate_115 : decode cX3_evaluate 115 = .ok (.iload 7, 2) := by decide +kernel
theorem dX3_evaluate_117 : decode cX3_evaluate 117 = .ok (.i2l, 1) := by decide +kernel
theorem dX3_evaluate_118 : decode cX3_evaluate 118 = .ok (.goto 11, 3) := by decide +kernel
theorem dX3_evaluate_121 : decode cX3_evaluate 121 = .ok (.aload_n 0, 1) := by decide +kernel
theorem dX3_evaluate_122 : decode cX3_evaluate 122 = .ok (.getfield 21, 3) := by decide +kernel
theorem dX3_evaluate_125 : decode cX3_evaluate 125 = .ok (.iload 7, 2) := by decide +kernel
theorem dX3_evaluate_127 : decode cX3_evaluate 127 = .ok (.iaload, 1) := by decide +kernel
theorem dX3_evaluate_128 : decode cX3_evaluate 128 = .ok (.i2l, 1) := by decide +kernel
theorem dX3_evaluate_129 : decode cX3_evaluate 129 = .ok (.lastore, 1) := by decide +kernel
theorem dX3_evaluate_130 : decode cX3_evaluate 130 = .ok (.iinc 4 1, 3) := by decide +kernel
theorem dX3_evaluate_133 : decode cX3_evaluate 133 = .ok (.goto 217, 3) := by decide +kernel
theorem dX3_evaluate_136 : decode cX3_evaluate 136 = .ok (.iload 6, 2) := by decide +kernel
theorem dX3_evaluate_138 : decode cX3_evaluate 138 = .ok (.bipush 11, 2) := by decide +kernel
theorem dX3_evaluate_140 : decode cX3_evaluate 140 = .ok (.if_icmp .ge 66, 3) := by decide +kernel
theorem dX3_evaluate_143 : decode cX3_evaluate 143 = .ok (.iload 4, 2) := by decide +kernel
theorem dX3_evaluate_145 : decode cX3_evaluate 145 = .ok (.iconst 2, 1) := by decide +kernel
theorem dX3_evaluate_146 : decode cX3_evaluate 146 = .ok (.if_icmp .ge 7, 3) := by decide +kernel
theorem dX3_evaluate_149 : decode cX3_evaluate 149 = .ok (.ldc2_w 91, 3) := by decide +kernel
theorem dX3_evaluate_152 : decode cX3_evaluate 152 = .ok (.lreturn, 1) := by decide +kernel
theorem dX3_evaluate_153 : decode cX3_evaluate 153 = .ok (.iinc 4 (-1), 3) := by decide +kernel
theorem dX3_evaluate_156 : decode cX3_evaluate 156 = .ok (.aload_n 0, 1) := by decide +kernel
theorem dX3_evaluate_157 : decode cX3_evaluate 157 = .ok (.getfield 24, 3) := by decide +kernel
theorem dX3_evaluate_160 : decode cX3_evaluate 160 = .ok (.iload 4, 2) := by decide +kernel
theorem dX3_evaluate_162 : decode cX3_evaluate 162 = .ok (.iconst 1, 1) := by decide +kernel
theorem dX3_evaluate_163 : decode cX3_evaluate 163 = .ok (.isub, 1) := by decide +kernel
theorem dX3_evaluate_164 : decode cX3_evaluate 164 = .ok (.iload 6, 2) := by decide +kernel
theorem dX3_evaluate_166 : decode cX3_evaluate 166 = .ok (.aload_n 0, 1) := by decide +kernel
theorem dX3_evaluate_167 : decode cX3_evaluate 167 = .ok (.getfield 24, 3) := by decide +kernel
theorem dX3_evaluate_170 : decode cX3_evaluate 170 = .ok (.iload 4, 2) := by decide +kernel
theorem dX3_evaluate_172 : decode cX3_evaluate 172 = .ok (.iconst 1, 1) := by decide +kernel
theorem dX3_evaluate_173 : decode cX3_evaluate 173 = .ok (.isub, 1) := by decide +kernel
theorem dX3_evaluate_174 : decode cX3_evaluate 174 = .ok (.laload, 1) := by decide +kernel
theorem dX3_evaluate_175 : decode cX3_evaluate 175 = .ok (.aload_n 0, 1) := by decide +kernel
theorem dX3_evaluate_176 : decode cX3_evaluate 176 = .ok (.getfield 24, 3) := by decide +kernel
theorem dX3_evaluate_179 : decode cX3_evaluate 179 = .ok (.iload 4, 2) := by decide +kernel
theorem dX3_evaluate_181 : decode cX3_evaluate 181 = .ok (.laload, 1) := by decide +kernel
theorem dX3_evaluate_182 : decode cX3_evaluate 182 = .ok (.invokestatic 99, 3) := by decide +kernel
theorem dX3_evaluate_185 : decode cX3_evaluate 185 = .ok (.lastore, 1) := by decide +kernel
theorem dX3_evaluate_186 : decode cX3_evaluate 186 = .ok (.aload_n 0, 1) := by decide +kernel
theorem dX3_evaluate_187 : decode cX3_evaluate 187 = .ok (.getfield 24, 3) := by decide +kernel
theorem dX3_evaluate_190 : decode cX3_evaluate 190 = .ok (.iload 4, 2) := by decide +kernel
theorem dX3_evaluate_192 : decode cX3_evaluate 192 = .ok (.iconst 1, 1) := by decide +kernel
theorem dX3_evaluate_193 : decode cX3_evaluate 193 = .ok (.isub, 1) := by decide +kernel
theorem dX3_evaluate_194 : decode cX3_evaluate 194 = .ok (.laload, 1) := by decide +kernel
theorem dX3_evaluate_195 : decode cX3_evaluate 195 = .ok (.ldc2_w 91, 3) := by decide +kernel
theorem dX3_evaluate_198 : decode cX3_evaluate 198 = .ok (.lcmp, 1) := by decide +kernel
theorem dX3_evaluate_199 : decode cX3_evaluate 199 = .ok (.ifCond .ne 151, 3) := by decide +kernel
theorem dX3_evaluate_202 : decode cX3_evaluate 202 = .ok (.ldc2_w 91, 3) := by decide +kernel
theorem dX3_evaluate_205 : decode cX3_evaluate 205 = .ok (.lreturn, 1) := by decide +kernel
theorem dX3_evaluate_206 : decode cX3_evaluate 206 = .ok (.iload 4, 2) := by decide +kernel
theorem dX3_evaluate_208 : decode cX3_evaluate 208 = .ok (.iconst 1, 1) := by decide +kernel
theorem dX3_evaluate_209 : decode cX3_evaluate 209 = .ok (.if_icmp .ge 7, 3) := by decide +kernel
theorem dX3_evaluate_212 : decode cX3_evaluate 212 = .ok (.ldc2_w 91, 3) := by decide +kernel
theorem dX3_evaluate_215 : decode cX3_evaluate 215 = .ok (.lreturn, 1) := by decide +kernel
theorem dX3_evaluate_216 : decode cX3_evaluate 216 = .ok (.iload 6, 2) := by decide +kernel
theorem dX3_evaluate_218 : decode cX3_evaluate 218 = .ok (.bipush 15, 2) := by decide +kernel
theorem dX3_evaluate_220 : decode cX3_evaluate 220 = .ok (.if_icmp .ne 10, 3) := by decide +kernel
theorem dX3_evaluate_223 : decode cX3_evaluate 223 = .ok (.aload_n 0, 1) := by decide +kernel
theorem dX3_evaluate_224 : decode cX3_evaluate 224 = .ok (.getfield 24, 3) := by decide +kernel
theorem dX3_evaluate_227 : decode cX3_evaluate 227 = .ok (.iconst 0, 1) := by decide +kernel
theorem dX3_evaluate_228 : decode cX3_evaluate 228 = .ok (.laload, 1) := by decide +kernel
theorem dX3_evaluate_229 : decode cX3_evaluate 229 = .ok (.lreturn, 1) := by decide +kernel
theorem dX3_evaluate_230 : decode cX3_evaluate 230 = .ok (.iload 6, 2) := by decide +kernel
theorem dX3_evaluate_232 : decode cX3_evaluate 232 = .ok (.bipush 11, 2) := by decide +kernel
theorem dX3_evaluate_234 : decode cX3_evaluate 234 = .ok (.if_icmp .ne 26, 3) := by decide +kernel
theorem dX3_evaluate_237 : decode cX3_evaluate 237 = .ok (.aload_n 0, 1) := by decide +kernel
theorem dX3_evaluate_238 : decode cX3_evaluate 238 = .ok (.getfield 24, 3) := by decide +kernel
theorem dX3_evaluate_241 : decode cX3_evaluate 241 = .ok (.iload 4, 2) := by decide +kernel
theorem dX3_evaluate_243 : decode cX3_evaluate 243 = .ok (.iconst 1, 1) := by decide +kernel
theorem dX3_evaluate_244 : decode cX3_evaluate 244 = .ok (.isub, 1) := by decide +kernel
theorem dX3_evaluate_245 : decode cX3_evaluate 245 = .ok (.lconst 1, 1) := by decide +kernel
theorem dX3_evaluate_246 : decode cX3_evaluate 246 = .ok (.aload_n 0, 1) := by decide +kernel
theorem dX3_evaluate_247 : decode cX3_evaluate 247 = .ok (.getfield 24, 3) := by decide +kernel
theorem dX3_evaluate_250 : decode cX3_evaluate 250 = .ok (.iload 4, 2) := by decide +kernel
theorem dX3_evaluate_252 : decode cX3_evaluate 252 = .ok (.iconst 1, 1) := by decide +kernel
theorem dX3_evaluate_253 : decode cX3_evaluate 253 = .ok (.isub, 1) := by decide +kernel
theorem dX3_evaluate_254 : decode cX3_evaluate 254 = .ok (.laload, 1) := by decide +kernel
theorem dX3_evaluate_255 : decode cX3_evaluate 255 = .ok (.lsub, 1) := by decide +kernel
theorem dX3_evaluate_256 : decode cX3_evaluate 256 = .ok (.lastore, 1) := by decide +kernel
theorem dX3_evaluate_257 : decode cX3_evaluate 257 = .ok (.goto 93, 3) := by decide +kernel
theorem dX3_evaluate_260 : decode cX3_evaluate 260 = .ok (.iload 6, 2) := by decide +kernel
theorem dX3_evaluate_262 : decode cX3_evaluate 262 = .ok (.bipush 14, 2) := by decide +kernel
theorem dX3_evaluate_264 : decode cX3_evaluate 264 = .ok (.if_icmp .ne 21, 3) := by decide +kernel
theorem dX3_evaluate_267 : decode cX3_evaluate 267 = .ok (.aload_n 0, 1) := by decide +kernel
theorem dX3_evaluate_268 : decode cX3_evaluate 268 = .ok (.getfield 24, 3) := by decide +kernel
theorem dX3_evaluate_271 : decode cX3_evaluate 271 = .ok (.iload 4, 2) := by decide +kernel
theorem dX3_evaluate_273 : decode cX3_evaluate 273 = .ok (.iconst 1, 1) := by decide +kernel
theorem dX3_evaluate_274 : decode cX3_evaluate 274 = .ok (.isub, 1) := by decide +kernel
theorem dX3_evaluate_275 : decode cX3_evaluate 275 = .ok (.laload, 1) := by decide +kernel
theorem dX3_evaluate_276 : decode cX3_evaluate 276 = .ok (.lconst 0, 1) := by decide +kernel
theorem dX3_evaluate_277 : decode cX3_evaluate 277 = .ok (.lcmp, 1) := by decide +kernel
theorem dX3_evaluate_278 : decode cX3_evaluate 278 = .ok (.ifCond .ne 7, 3) := by decide +kernel
theorem dX3_evaluate_281 : decode cX3_evaluate 281 = .ok (.ldc2_w 91, 3) := by decide +kernel
theorem dX3_evaluate_284 : decode cX3_evaluate 284 = .ok (.lreturn, 1) := by decide +kernel
theorem dX3_evaluate_285 : decode cX3_evaluate 285 = .ok (.iload 6, 2) := by decide +kernel
theorem dX3_evaluate_287 : decode cX3_evaluate 287 = .ok (.bipush 14, 2) := by decide +kernel
theorem dX3_evaluate_289 : decode cX3_evaluate 289 = .ok (.if_icmp .eq 58, 3) := by decide +kernel
theorem dX3_evaluate_292 : decode cX3_evaluate 292 = .ok (.aload_n 0, 1) := by decide +kernel
theorem dX3_evaluate_293 : decode cX3_evaluate 293 = .ok (.getfield 24, 3) := by decide +kernel
theorem dX3_evaluate_296 : decode cX3_evaluate 296 = .ok (.iload 4, 2) := by decide +kernel
theorem dX3_evaluate_298 : decode cX3_evaluate 298 = .ok (.iconst 1, 1) := by decide +kernel
theorem dX3_evaluate_299 : decode cX3_evaluate 299 = .ok (.isub, 1) := by decide +kernel
theorem dX3_evaluate_300 : decode cX3_evaluate 300 = .ok (.laload, 1) := by decide +kernel
theorem dX3_evaluate_301 : decode cX3_evaluate 301 = .ok (.lconst 0, 1) := by decide +kernel
theorem dX3_evaluate_302 : decode cX3_evaluate 302 = .ok (.lcmp, 1) := by decide +kernel
theorem dX3_evaluate_303 : decode cX3_evaluate 303 = .ok (.ifCond .eq 7, 3) := by decide +kernel
theorem dX3_evaluate_306 : decode cX3_evaluate 306 = .ok (.iconst 1, 1) := by decide +kernel
theorem dX3_evaluate_307 : decode cX3_evaluate 307 = .ok (.goto 4, 3) := by decide +kernel
theorem dX3_evaluate_310 : decode cX3_evaluate 310 = .ok (.iconst 0, 1) := by decide +kernel
theorem dX3_evaluate_311 : decode cX3_evaluate 311 = .ok (.iload 6, 2) := by decide +kernel
theorem dX3_evaluate_313 : decode cX3_evaluate 313 = .ok (.bipush 13, 2) := by decide +kernel
theorem dX3_evaluate_315 : decode cX3_evaluate 315 = .ok (.if_icmp .ne 7, 3) := by decide +kernel
theorem dX3_evaluate_318 : decode cX3_evaluate 318 = .ok (.iconst 1, 1) := by decide +kernel
theorem dX3_evaluate_319 : decode cX3_evaluate 319 = .ok (.goto 4, 3) := by decide +kernel
theorem dX3_evaluate_322 : decode cX3_evaluate 322 = .ok (.iconst 0, 1) := by decide +kernel
theorem dX3_evaluate_323 : decode cX3_evaluate 323 = .ok (.if_icmp .ne 24, 3) := by decide +kernel
theorem dX3_evaluate_326 : decode cX3_evaluate 326 = .ok (.iload 7, 2) := by decide +kernel
theorem dX3_evaluate_328 : decode cX3_evaluate 328 = .ok (.iload 5, 2) := by decide +kernel
theorem dX3_evaluate_330 : decode cX3_evaluate 330 = .ok (.if_icmp .le 10, 3) := by decide +kernel
theorem dX3_evaluate_333 : decode cX3_evaluate 333 = .ok (.iload 7, 2) := by decide +kernel
theorem dX3_evaluate_335 : decode cX3_evaluate 335 = .ok (.iconst 1, 1) := by decide +kernel
theorem dX3_evaluate_336 : decode cX3_evaluate 336 = .ok (.isub, 1) := by decide +kernel
theorem dX3_evaluate_337 : decode cX3_evaluate 337 = .ok (.goto 5, 3) := by decide +kernel
theorem dX3_evaluate_340 : decode cX3_evaluate 340 = .ok (.iload 5, 2) := by decide +kernel
theorem dX3_evaluate_342 : decode cX3_evaluate 342 = .ok (.istore 5, 2) := by decide +kernel
theorem dX3_evaluate_344 : decode cX3_evaluate 344 = .ok (.goto 6, 3) := by decide +kernel
theorem dX3_evaluate_347 : decode cX3_evaluate 347 = .ok (.iinc 4 (-1), 3) := by decide +kernel
theorem dX3_evaluate_350 : decode cX3_evaluate 350 = .ok (.iinc 5 1, 3) := by decide +kernel
theorem dX3_evaluate_353 : decode cX3_evaluate 353 = .ok (.goto (-298), 3) := by decide +kernel
theorem dX3_evaluate_356 : decode cX3_evaluate 356 = .ok (.ldc2_w 91, 3) := by decide +kernel
theorem dX3_evaluate_359 : decode cX3_evaluate 359 = .ok (.lreturn, 1) := by decide +kernel
theorem dX3_joined_0 : decode cX3_joined 0 = .ok (.iload_n 0, 1) := by decide +kernel
theorem dX3_joined_1 : decode cX3_joined 1 = .ok (.tableswitch 155 2 9 #[47, 55, 63, 71, 91, 107, 123, 139], 47) := by decide +kernel
theorem dX3_joined_48 : decode cX3_joined 48 = .ok (.lload_n 1, 1) := by decide +kernel
theorem dX3_joined_49 : decode cX3_joined 49 = .ok (.lload_n 3, 1) := by decide +kernel
theorem dX3_joined_50 : decode cX3_joined 50 = .ok (.ladd, 1) := by decide +kernel
theorem dX3_joined_51 : decode cX3_joined 51 = .ok (.lstore 5, 2) := by decide +kernel
theorem dX3_joined_53 : decode cX3_joined 53 = .ok (.goto 116, 3) := by decide +kernel
theorem dX3_joined_56 : decode cX3_joined 56 = .ok (.lload_n 1, 1) := by decide +kernel
theorem dX3_joined_57 : decode cX3_joined 57 = .ok (.lload_n 3, 1) := by decide +kernel
theorem dX3_joined_58 : decode cX3_joined 58 = .ok (.lsub, 1) := by decide +kernel
theorem dX3_joined_59 : decode cX3_joined 59 = .ok (.lstore 5, 2) := by decide +kernel
theorem dX3_joined_61 : decode cX3_joined 61 = .ok (.goto 108, 3) := by decide +kernel
theorem dX3_joined_64 : decode cX3_joined 64 = .ok (.lload_n 1, 1) := by decide +kernel
theorem dX3_joined_65 : decode cX3_joined 65 = .ok (.lload_n 3, 1) := by decide +kernel
theorem dX3_joined_66 : decode cX3_joined 66 = .ok (.lmul, 1) := by decide +kernel
theorem dX3_joined_67 : decode cX3_joined 67 = .ok (.lstore 5, 2) := by decide +kernel
theorem dX3_joined_69 : decode cX3_joined 69 = .ok (.goto 100, 3) := by decide +kernel
theorem dX3_joined_72 : decode cX3_joined 72 = .ok (.lload_n 3, 1) := by decide +kernel
theorem dX3_joined_73 : decode cX3_joined 73 = .ok (.lconst 0, 1) := by decide +kernel
theorem dX3_joined_74 : decode cX3_joined 74 = .ok (.lcmp, 1) := by decide +kernel
theorem dX3_joined_75 : decode cX3_joined 75 = .ok (.ifCond .ne 9, 3) := by decide +kernel
theorem dX3_joined_78 : decode cX3_joined 78 = .ok (.ldc2_w 91, 3) := by decide +kernel
theorem dX3_joined_81 : decode cX3_joined 81 = .ok (.goto 6, 3) := by decide +kernel
theorem dX3_joined_84 : decode cX3_joined 84 = .ok (.lload_n 1, 1) := by decide +kernel
theorem dX3_joined_85 : decode cX3_joined 85 = .ok (.lload_n 3, 1) := by decide +kernel
theorem dX3_joined_86 : decode cX3_joined 86 = .ok (.ldiv, 1) := by decide +kernel
theorem dX3_joined_87 : decode cX3_joined 87 = .ok (.lstore 5, 2) := by decide +kernel
theorem dX3_joined_89 : decode cX3_joined 89 = .ok (.goto 80, 3) := by decide +kernel
theorem dX3_joined_92 : decode cX3_joined 92 = .ok (.lload_n 1, 1) := by decide +kernel
theorem dX3_joined_93 : decode cX3_joined 93 = .ok (.lload_n 3, 1) := by decide +kernel
theorem dX3_joined_94 : decode cX3_joined 94 = .ok (.lcmp, 1) := by decide +kernel
theorem dX3_joined_95 : decode cX3_joined 95 = .ok (.ifCond .ge 7, 3) := by decide +kernel
theorem dX3_joined_98 : decode cX3_joined 98 = .ok (.lload_n 1, 1) := by decide +kernel
theorem dX3_joined_99 : decode cX3_joined 99 = .ok (.goto 4, 3) := by decide +kernel
theorem dX3_joined_102 : decode cX3_joined 102 = .ok (.lload_n 3, 1) := by decide +kernel
theorem dX3_joined_103 : decode cX3_joined 103 = .ok (.lstore 5, 2) := by decide +kernel
theorem dX3_joined_105 : decode cX3_joined 105 = .ok (.goto 64, 3) := by decide +kernel
theorem dX3_joined_108 : decode cX3_joined 108 = .ok (.lload_n 1, 1) := by decide +kernel
theorem dX3_joined_109 : decode cX3_joined 109 = .ok (.lload_n 3, 1) := by decide +kernel
theorem dX3_joined_110 : decode cX3_joined 110 = .ok (.lcmp, 1) := by decide +kernel
theorem dX3_joined_111 : decode cX3_joined 111 = .ok (.ifCond .le 7, 3) := by decide +kernel
theorem dX3_joined_114 : decode cX3_joined 114 = .ok (.lload_n 1, 1) := by decide +kernel
theorem dX3_joined_115 : decode cX3_joined 115 = .ok (.goto 4, 3) := by decide +kernel
theorem dX3_joined_118 : decode cX3_joined 118 = .ok (.lload_n 3, 1) := by decide +kernel
theorem dX3_joined_119 : decode cX3_joined 119 = .ok (.lstore 5, 2) := by decide +kernel
theorem dX3_joined_121 : decode cX3_joined 121 = .ok (.goto 48, 3) := by decide +kernel
theorem dX3_joined_124 : decode cX3_joined 124 = .ok (.lload_n 1, 1) := by decide +kernel
theorem dX3_joined_125 : decode cX3_joined 125 = .ok (.lload_n 3, 1) := by decide +kernel
theorem dX3_joined_126 : decode cX3_joined 126 = .ok (.lcmp, 1) := by decide +kernel
theorem dX3_joined_127 : decode cX3_joined 127 = .ok (.ifCond .ge 7, 3) := by decide +kernel
theorem dX3_joined_130 : decode cX3_joined 130 = .ok (.lconst 1, 1) := by decide +kernel
theorem dX3_joined_131 : decode cX3_joined 131 = .ok (.goto 4, 3) := by decide +kernel
theorem dX3_joined_134 : decode cX3_joined 134 = .ok (.lconst 0, 1) := by decide +kernel
theorem dX3_joined_135 : decode cX3_joined 135 = .ok (.lstore 5, 2) := by decide +kernel
theorem dX3_joined_137 : decode cX3_joined 137 = .ok (.goto 32, 3) := by decide +kernel
theorem dX3_joined_140 : decode cX3_joined 140 = .ok (.lload_n 1, 1) := by decide +kernel
theorem dX3_joined_141 : decode cX3_joined 141 = .ok (.lload_n 3, 1) := by decide +kernel
theorem dX3_joined_142 : decode cX3_joined 142 = .ok (.lcmp, 1) := by decide +kernel
theorem dX3_joined_143 : decode cX3_joined 143 = .ok (.ifCond .le 7, 3) := by decide +kernel
theorem dX3_joined_146 : decode cX3_joined 146 = .ok (.lconst 1, 1) := by decide +kernel
theorem dX3_joined_147 : decode cX3_joined 147 = .ok (.goto 4, 3) := by decide +kernel
theorem dX3_joined_150 : decode cX3_joined 150 = .ok (.lconst 0, 1) := by decide +kernel
theorem dX3_joined_151 : decode cX3_joined 151 = .ok (.lstore 5, 2) := by decide +kernel
theorem dX3_joined_153 : decode cX3_joined 153 = .ok (.goto 16, 3) := by decide +kernel
theorem dX3_joined_156 : decode cX3_joined 156 = .ok (.lload_n 1, 1) := by decide +kernel
theorem dX3_joined_157 : decode cX3_joined 157 = .ok (.lload_n 3, 1) := by decide +kernel
theorem dX3_joined_158 : decode cX3_joined 158 = .ok (.lcmp, 1) := by decide +kernel
theorem dX3_joined_159 : decode cX3_joined 159 = .ok (.ifCond .ne 7, 3) := by decide +kernel
theorem dX3_joined_162 : decode cX3_joined 162 = .ok (.lconst 1, 1) := by decide +kernel
theorem dX3_joined_163 : decode cX3_joined 163 = .ok (.goto 4, 3) := by decide +kernel
theorem dX3_joined_166 : decode cX3_joined 166 = .ok (.lconst 0, 1) := by decide +kernel
theorem dX3_joined_167 : decode cX3_joined 167 = .ok (.lstore 5, 2) := by decide +kernel
theorem dX3_joined_169 : decode cX3_joined 169 = .ok (.lload 5, 2) := by decide +kernel
theorem dX3_joined_171 : decode cX3_joined 171 = .ok (.ldc2_w 103, 3) := by decide +kernel
theorem dX3_joined_174 : decode cX3_joined 174 = .ok (.lcmp, 1) := by decide +kernel
theorem dX3_joined_175 : decode cX3_joined 175 = .ok (.ifCond .gt 12, 3) := by decide +kernel
theorem dX3_joined_178 : decode cX3_joined 178 = .ok (.lload 5, 2) := by decide +kernel
theorem dX3_joined_180 : decode cX3_joined 180 = .ok (.ldc2_w 105, 3) := by decide +kernel
theorem dX3_joined_183 : decode cX3_joined 183 = .ok (.lcmp, 1) := by decide +kernel
theorem dX3_joined_184 : decode cX3_joined 184 = .ok (.ifCond .ge 9, 3) := by decide +kernel
theorem dX3_joined_187 : decode cX3_joined 187 = .ok (.ldc2_w 91, 3) := by decide +kernel
theorem dX3_joined_190 : decode cX3_joined 190 = .ok (.goto 5, 3) := by decide +kernel
theorem dX3_joined_193 : decode cX3_joined 193 = .ok (.lload 5, 2) := by decide +kernel
theorem dX3_joined_195 : decode cX3_joined 195 = .ok (.lreturn, 1) := by decide +kernel
theorem dX4_init_0 : decode cX4_init 0 = .ok (.aload_n 0, 1) := by decide +kernel
theorem dX4_init_1 : decode cX4_init 1 = .ok (.invokespecial 3, 3) := by decide +kernel
theorem dX4_init_4 : decode cX4_init 4 = .ok (.aload_n 0, 1) := by decide +kernel
theorem dX4_init_5 : decode cX4_init 5 = .ok (.bipush 60, 2) := by decide +kernel
theorem dX4_init_7 : decode cX4_init 7 = .ok (.newarray .int, 2) := by decide +kernel
theorem dX4_init_9 : decode cX4_init 9 = .ok (.putfield 9, 3) := by decide +kernel
theorem dX4_init_12 : decode cX4_init 12 = .ok (.aload_n 0, 1) := by decide +kernel
theorem dX4_init_13 : decode cX4_init 13 = .ok (.iconst (-1), 1) := by decide +kernel
theorem dX4_init_14 : decode cX4_init 14 = .ok (.putfield 15, 3) := by decide +kernel
theorem dX4_init_17 : decode cX4_init 17 = .ok (.aload_n 0, 1) := by decide +kernel
theorem dX4_init_18 : decode cX4_init 18 = .ok (.iconst (-1), 1) := by decide +kernel
theorem dX4_init_19 : decode cX4_init 19 = .ok (.putfield 19, 3) := by decide +kernel
theorem dX4_init_22 : decode cX4_init 22 = .ok (.aload_n 0, 1) := by decide +kernel
theorem dX4_init_23 : decode cX4_init 23 = .ok (.sipush 360, 3) := by decide +kernel
theorem dX4_init_26 : decode cX4_init 26 = .ok (.newarray .int, 2) := by decide +kernel
theorem dX4_init_28 : decode cX4_init 28 = .ok (.putfield 22, 3) := by decide +kernel
theorem dX4_init_31 : decode cX4_init 31 = .ok (.aload_n 0, 1) := by decide +kernel
theorem dX4_init_32 : decode cX4_init 32 = .ok (.bipush 6, 2) := by decide +kernel
theorem dX4_init_34 : decode cX4_init 34 = .ok (.newarray .int, 2) := by decide +kernel
theorem dX4_init_36 : decode cX4_init 36 = .ok (.putfield 25, 3) := by decide +kernel
theorem dX4_init_39 : decode cX4_init 39 = .ok (.aload_n 0, 1) := by decide +kernel
theorem dX4_init_40 : decode cX4_init 40 = .ok (.bipush 60, 2) := by decide +kernel
theorem dX4_init_42 : decode cX4_init 42 = .ok (.newarray .long, 2) := by decide +kernel
theorem dX4_init_44 : decode cX4_init 44 = .ok (.putfield 28, 3) := by decide +kernel
theorem dX4_init_47 : decode cX4_init 47 = .ok (.aload_n 0, 1) := by decide +kernel
theorem dX4_init_48 : decode cX4_init 48 = .ok (.bipush 60, 2) := by decide +kernel
theorem dX4_init_50 : decode cX4_init 50 = .ok (.newarray .int, 2) := by decide +kernel
theorem dX4_init_52 : decode cX4_init 52 = .ok (.putfield 32, 3) := by decide +kernel
theorem dX4_init_55 : decode cX4_init 55 = .ok (.aload_n 0, 1) := by decide +kernel
theorem dX4_init_56 : decode cX4_init 56 = .ok (.aload_n 1, 1) := by decide +kernel
theorem dX4_init_57 : decode cX4_init 57 = .ok (.putfield 35, 3) := by decide +kernel
theorem dX4_init_60 : decode cX4_init 60 = .ok (.aload_n 0, 1) := by decide +kernel
theorem dX4_init_61 : decode cX4_init 61 = .ok (.aload_n 2, 1) := by decide +kernel
theorem dX4_init_62 : decode cX4_init 62 = .ok (.putfield 39, 3) := by decide +kernel
theorem dX4_init_65 : decode cX4_init 65 = .ok (.return_, 1) := by decide +kernel
theorem dX4_join_0 : decode cX4_join 0 = .ok (.aload_n 0, 1) := by decide +kernel
theorem dX4_join_1 : decode cX4_join 1 = .ok (.getfield 15, 3) := by decide +kernel
theorem dX4_join_4 : decode cX4_join 4 = .ok (.iload_n 1, 1) := by decide +kernel
theorem dX4_join_5 : decode cX4_join 5 = .ok (.if_icmp .ne 12, 3) := by decide +kernel
theorem dX4_join_8 : decode cX4_join 8 = .ok (.aload_n 0, 1) := by decide +kernel
theorem dX4_join_9 : decode cX4_join 9 = .ok (.getfield 19, 3) := by decide +kernel
theorem dX4_join_12 : decode cX4_join 12 = .ok (.iload_n 2, 1) := by decide +kernel
theorem dX4_join_13 : decode cX4_join 13 = .ok (.if_icmp .ne 4, 3) := by decide +kernel
theorem dX4_join_16 : decode cX4_join 16 = .ok (.return_, 1) := by decide +kernel
theorem dX4_join_17 : decode cX4_join 17 = .ok (.aload_n 0, 1) := by decide +kernel
theorem dX4_join_18 : decode cX4_join 18 = .ok (.iload_n 1, 1) := by decide +kernel
theorem dX4_join_19 : decode cX4_join 19 = .ok (.putfield 15, 3) := by decide +kernel
theorem dX4_join_22 : decode cX4_join 22 = .ok (.aload_n 0, 1) := by decide +kernel
theorem dX4_join_23 : decode cX4_join 23 = .ok (.iload_n 2, 1) := by decide +kernel
theorem dX4_join_24 : decode cX4_join 24 = .ok (.putfield 19, 3) := by decide +kernel
theorem dX4_join_27 : decode cX4_join 27 = .ok (.iconst 0, 1) := by decide +kernel
theorem dX4_join_28 : decode cX4_join 28 = .ok (.istore_n 3, 1) := by decide +kernel
theorem dX4_join_29 : decode cX4_join 29 = .ok (.iload_n 3, 1) := by decide +kernel
theorem dX4_join_30 : decode cX4_join 30 = .ok (.aload_n 0, 1) := by decide +kernel
theorem dX4_join_31 : decode cX4_join 31 = .ok (.getfield 35, 3) := by decide +kernel
theorem dX4_join_34 : decode cX4_join 34 = .ok (.getfield 43, 3) := by decide +kernel
theorem dX4_join_37 : decode cX4_join 37 = .ok (.invokevirtual 49, 3) := by decide +kernel
theorem dX4_join_40 : decode cX4_join 40 = .ok (.if_icmp .ge 117, 3) := by decide +kernel
theorem dX4_join_43 : decode cX4_join 43 = .ok (.aload_n 0, 1) := by decide +kernel
theorem dX4_join_44 : decode cX4_join 44 = .ok (.getfield 9, 3) := by decide +kernel
theorem dX4_join_47 : decode cX4_join 47 = .ok (.iload_n 3, 1) := by decide +kernel
theorem dX4_join_48 : decode cX4_join 48 = .ok (.aload_n 0, 1) := by decide +kernel
theorem dX4_join_49 : decode cX4_join 49 = .ok (.getfield 35, 3) := by decide +kernel
theorem dX4_join_52 : decode cX4_join 52 = .ok (.getfield 43, 3) := by decide +kernel
theorem dX4_join_55 : decode cX4_join 55 = .ok (.iload_n 3, 1) := by decide +kernel
theorem dX4_join_56 : decode cX4_join 56 = .ok (.bipush 6, 2) := by decide +kernel
theorem dX4_join_58 : decode cX4_join 58 = .ok (.invokevirtual 55, 3) := by decide +kernel
theorem dX4_join_61 : decode cX4_join 61 = .ok (.iload_n 1, 1) := by decide +kernel
theorem dX4_join_62 : decode cX4_join 62 = .ok (.if_icmp .gt 7, 3) := by decide +kernel
theorem dX4_join_65 : decode cX4_join 65 = .ok (.iload_n 3, 1) := by decide +kernel
theorem dX4_join_66 : decode cX4_join 66 = .ok (.goto 4, 3) := by decide +kernel
theorem dX4_join_69 : decode cX4_join 69 = .ok (.iconst (-1), 1) := by decide +kernel
theorem dX4_join_70 : decode cX4_join 70 = .ok (.iastore, 1) := by decide +kernel
theorem dX4_join_71 : decode cX4_join 71 = .ok (.iconst 0, 1) := by decide +kernel
theorem dX4_join_72 : decode cX4_join 72 = .ok (.istore 4, 2) := by decide +kernel
theorem dX4_join_74 : decode cX4_join 74 = .ok (.iload 4, 2) := by decide +kernel
theorem dX4_join_76 : decode cX4_join 76 = .ok (.iload_n 3, 1) := by decide +kernel
theorem dX4_join_77 : decode cX4_join 77 = .ok (.if_icmp .ge 74, 3) := by decide +kernel
theorem dX4_join_80 : decode cX4_join 80 = .ok (.aload_n 0, 1) := by decide +kernel
theorem dX4_join_81 : decode cX4_join 81 = .ok (.getfield 9, 3) := by decide +kernel
theorem dX4_join_84 : decode cX4_join 84 = .ok (.iload_n 3, 1) := by decide +kernel
theorem dX4_join_85 : decode cX4_join 85 = .ok (.iaload, 1) := by decide +kernel
theorem dX4_join_86 : decode cX4_join 86 = .ok (.iconst (-1), 1) := by decide +kernel
theorem dX4_join_87 : decode cX4_join 87 = .ok (.if_icmp .eq 64, 3) := by decide +kernel
theorem dX4_join_90 : decode cX4_join 90 = .ok (.aload_n 0, 1) := by decide +kernel
theorem dX4_join_91 : decode cX4_join 91 = .ok (.getfield 9, 3) := by decide +kernel
theorem dX4_join_94 : decode cX4_join 94 = .ok (.iload 4, 2) := by decide +kernel
theorem dX4_join_96 : decode cX4_join 96 = .ok (.iaload, 1) := by decide +kernel
theorem dX4_join_97 : decode cX4_join 97 = .ok (.iconst (-1), 1) := by decide +kernel
theorem dX4_join_98 : decode cX4_join 98 = .ok (.if_icmp .eq 47, 3) := by decide +kernel
theorem dX4_join_101 : decode cX4_join 101 = .ok (.aload_n 0, 1) := by decide +kernel
theorem dX4_join_102 : decode cX4_join 102 = .ok (.getfield 9, 3) := by decide +kernel
theorem dX4_join_105 : decode cX4_join 105 = .ok (.iload 4, 2) := by decide +kernel
theorem dX4_join_107 : decode cX4_join 107 = .ok (.iaload, 1) := by decide +kernel
theorem dX4_join_108 : decode cX4_join 108 = .ok (.aload_n 0, 1) := by decide +kernel
theorem dX4_join_109 : decode cX4_join 109 = .ok (.getfield 9, 3) := by decide +kernel
theorem dX4_join_112 : decode cX4_join 112 = .ok (.iload_n 3, 1) := by decide +kernel
theorem dX4_join_113 : decode cX4_join 113 = .ok (.iaload, 1) := by decide +kernel
theorem dX4_join_114 : decode cX4_join 114 = .ok (.if_icmp .eq 31, 3) := by decide +kernel
theorem dX4_join_117 : decode cX4_join 117 = .ok (.aload_n 0, 1) := by decide +kernel
theorem dX4_join_118 : decode cX4_join 118 = .ok (.iload_n 3, 1) := by decide +kernel
theorem dX4_join_119 : decode cX4_join 119 = .ok (.iload 4, 2) := by decide +kernel
theorem dX4_join_121 : decode cX4_join 121 = .ok (.invokevirtual 59, 3) := by decide +kernel
theorem dX4_join_124 : decode cX4_join 124 = .ok (.ifCond .eq 21, 3) := by decide +kernel
theorem dX4_join_127 : decode cX4_join 127 = .ok (.aload_n 0, 1) := by decide +kernel
theorem dX4_join_128 : decode cX4_join 128 = .ok (.aload_n 0, 1) := by decide +kernel
theorem dX4_join_129 : decode cX4_join 129 = .ok (.getfield 9, 3) := by decide +kernel
theorem dX4_join_132 : decode cX4_join 132 = .ok (.iload 4, 2) := by decide +kernel
theorem dX4_join_134 : decode cX4_join 134 = .ok (.iaload, 1) := by decide +kernel
theorem dX4_join_135 : decode cX4_join 135 = .ok (.aload_n 0, 1) := by decide +kernel
theorem dX4_join_136 : decode cX4_join 136 = .ok (.getfield 9, 3) := by decide +kernel
theorem dX4_join_139 : decode cX4_join 139 = .ok (.iload_n 3, 1) := by decide +kernel
theorem dX4_join_140 : decode cX4_join 140 = .ok (.iaload, 1) := by decide +kernel
theorem dX4_join_141 : decode cX4_join 141 = .ok (.iload_n 3, 1) := by decide +kernel
theorem dX4_join_142 : decode cX4_join 142 = .ok (.invokevirtual 63, 3) := by decide +kernel
theorem dX4_join_145 : decode cX4_join 145 = .ok (.iinc 4 1, 3) := by decide +kernel
theorem dX4_join_148 : decode cX4_join 148 = .ok (.goto (-74), 3) := by decide +kernel
theorem dX4_join_151 : decode cX4_join 151 = .ok (.iinc 3 1, 3) := by decide +kernel
theorem dX4_join_154 : decode cX4_join 154 = .ok (.goto (-125), 3) := by decide +kernel
theorem dX4_join_157 : decode cX4_join 157 = .ok (.return_, 1) := by decide +kernel
theorem dX4_makeOne_0 : decode cX4_makeOne 0 = .ok (.iload_n 1, 1) := by decide +kernel
theorem dX4_makeOne_1 : decode cX4_makeOne 1 = .ok (.iload_n 2, 1) := by decide +kernel
theorem dX4_makeOne_2 : decode cX4_makeOne 2 = .ok (.invokestatic 67, 3) := by decide +kernel
theorem dX4_makeOne_5 : decode cX4_makeOne 5 = .ok (.istore 4, 2) := by decide +kernel
theorem dX4_makeOne_7 : decode cX4_makeOne 7 = .ok (.iconst 0, 1) := by decide +kernel
theorem dX4_makeOne_8 : decode cX4_makeOne 8 = .ok (.istore 5, 2) := by decide +kernel
theorem dX4_makeOne_10 : decode cX4_makeOne 10 = .ok (.iload 5, 2) := by decide +kernel
theorem dX4_makeOne_12 : decode cX4_makeOne 12 = .ok (.iload_n 3, 1) := by decide +kernel
theorem dX4_makeOne_13 : decode cX4_makeOne 13 = .ok (.if_icmp .gt 40, 3) := by decide +kernel
theorem dX4_makeOne_16 : decode cX4_makeOne 16 = .ok (.aload_n 0, 1) := by decide +kernel
theorem dX4_makeOne_17 : decode cX4_makeOne 17 = .ok (.getfield 9, 3) := by decide +kernel
theorem dX4_makeOne_20 : decode cX4_makeOne 20 = .ok (.iload 5, 2) := by decide +kernel
theorem dX4_makeOne_22 : decode cX4_makeOne 22 = .ok (.iaload, 1) := by decide +kernel
theorem dX4_makeOne_23 : decode cX4_makeOne 23 = .ok (.iload_n 1, 1) := by decide +kernel
theorem dX4_makeOne_24 : decode cX4_makeOne 24 = .ok (.if_icmp .eq 14, 3) := by decide +kernel
theorem dX4_makeOne_27 : decode cX4_makeOne 27 = .ok (.aload_n 0, 1) := by decide +kernel
theorem dX4_makeOne_28 : decode cX4_makeOne 28 = .ok (.getfield 9, 3) := by decide +kernel
theorem dX4_makeOne_31 : decode cX4_makeOne 31 = .ok (.iload 5, 2) := by decide +kernel
theorem dX4_makeOne_33 : decode cX4_makeOne 33 = .ok (.iaload, 1) := by decide +kernel
theorem dX4_makeOne_34 : decode cX4_makeOne 34 = .ok (.iload_n 2, 1) := by decide +kernel
theorem dX4_makeOne_35 : decode cX4_makeOne 35 = .ok (.if_icmp .ne 12, 3) := by decide +kernel
theorem dX4_makeOne_38 : decode cX4_makeOne 38 = .ok (.aload_n 0, 1) := by decide +kernel
theorem dX4_makeOne_39 : decode cX4_makeOne 39 = .ok (.getfield 9, 3) := by decide +kernel
theorem dX4_makeOne_42 : decode cX4_makeOne 42 = .ok (.iload 5, 2) := by decide +kernel
theorem dX4_makeOne_44 : decode cX4_makeOne 44 = .ok (.iload 4, 2) := by decide +kernel
theorem dX4_makeOne_46 : decode cX4_makeOne 46 = .ok (.iastore, 1) := by decide +kernel
theorem dX4_makeOne_47 : decode cX4_makeOne 47 = .ok (.iinc 5 1, 3) := by decide +kernel
theorem dX4_makeOne_50 : decode cX4_makeOne 50 = .ok (.goto (-40), 3) := by decide +kernel
theorem dX4_makeOne_53 : decode cX4_makeOne 53 = .ok (.return_, 1) := by decide +kernel
def W_X2_firstFor_0 (X : Sx) (l : Launch) (D : Nat) (x1 : Int32) (σ : AH) (r : Option Value) (σ' : AH) : Prop := ∃ d1 : Nat, ∃ v6 : Int32, ∃ σ2 : AH, d1 + 1 ≤ D ∧ Call X l m_X8_at d1 [.ref 9, .int x1, .int (2 : Int32)] σ (some (.int v6)) σ2 ∧ ∃ d7 : Nat, ∃ v12 : Int32, ∃ σ8 : AH, d7 + 1 ≤ D ∧ Call X l m_X8_at d7 [.ref 9, .int x1, .int (0 : Int32)] σ2 (some (.int v12)) σ8 ∧ E X l m_X2_firstFor D 29 [(0, .ref 119), (2, .int v6), (3, .int v12), (4, .int (0 : Int32))] [] σ8 r σ'
set_option maxRecDepth 100000 in
theorem w_X2_firstFor_0 {X : Sx} {l : Launch} {D : Nat} {x1 : Int32} {σ : AH} {r : Option Value} {σ' : AH} (hs : Sh σ) (h : W_X2_firstFor_0 X l D x1 σ r σ') : E X l m_X2_firstFor D 0 [(0, .ref 119), (1, .int x1)] [] σ r σ' := by
  unfold W_X2_firstFor_0 at h
  refine E_aload_n 0 dX2_firstFor_0 rfl rfl ?_
  refine E_getR 1 dX2_firstFor_1 fl_X2_24 rfl (sk_119 hs) (sn hs (by decide)) (sr_119_0 hs) ?_
  refine E_getR 9 dX2_firstFor_4 fl_X2_36 rfl (sk_1 hs) (sn hs (by decide)) (sr_1_5 hs) ?_
  refine E_iload_n 1 dX2_firstFor_7 rfl rfl ?_
  refine E_iconst (2 : Int32) dX2_firstFor_8 (by decide) ?_
  obtain ⟨d1, v6, σ2, hD3, hC4, h⟩ := h
  have hs5 := hC4.1.2.2.2.1 hs
  refine E_callV (As := [.int x1, .int (2 : Int32)]) (rest := []) (r1 := (some (.int v6))) (b := 9) dX2_firstFor_9 ok_X8_at in_X8_at se_X8_at ml_X2_42 hD3 rfl rfl (Nat.le_of_ble_eq_true rfl) (sk_9 hs) (sn hs (by decide)) (by decide) rfl (by decide +kernel) hC4 ?_
  refine E_istore_n [(2, .int v6), (0, .ref 119), (1, .int x1)] dX2_firstFor_12 rfl (by decide) rfl ?_
  refine E_aload_n 1 dX2_firstFor_13 rfl rfl ?_
  refine E_getR 1 dX2_firstFor_14 fl_X2_24 rfl (sk_119 hs5) (sn hs5 (by decide)) (sr_119_0 hs5) ?_
  refine E_getR 9 dX2_firstFor_17 fl_X2_36 rfl (sk_1 hs5) (sn hs5 (by decide)) (sr_1_5 hs5) ?_
  refine E_iload_n 2 dX2_firstFor_20 rfl rfl ?_
  refine E_iconst (0 : Int32) dX2_firstFor_21 (by decide) ?_
  obtain ⟨d7, v12, σ8, hD9, hC10, h⟩ := h
  have hs11 := hC10.1.2.2.2.1 hs5
  refine E_callV (As := [.int x1, .int (0 : Int32)]) (rest := []) (r1 := (some (.int v12))) (b := 9) dX2_firstFor_22 ok_X8_at in_X8_at se_X8_at ml_X2_42 hD9 rfl rfl (Nat.le_of_ble_eq_true rfl) (sk_9 hs5) (sn hs5 (by decide)) (by decide) rfl (by decide +kernel) hC10 ?_
  refine E_istore_n [(3, .int v12), (2, .int v6), (0, .ref 119), (1, .int x1)] dX2_firstFor_25 rfl (by decide) rfl ?_
  refine E_iconst (0 : Int32) dX2_firstFor_26 (by decide) ?_
  refine E_istore [(4, .int (0 : Int32)), (3, .int v12), (2, .int v6), (0, .ref 119), (1, .int x1)] dX2_firstFor_27 (by decide) rfl ?_
  exact E_lv [3, 2, 1, 0] rfl h
def W_X2_firstFor_154 (X : Sx) (l : Launch) (D : Nat) (x2 : Int32) (x3 : Int32) (x4 : Int32) (σ : AH) (r : Option Value) (σ' : AH) : Prop := E X l m_X2_firstFor D 29 [(0, .ref 119), (2, .int x2), (3, .int x3), (4, .int (x4 + 1))] [] σ r σ'
set_option maxRecDepth 100000 in
theorem w_X2_firstFor_154 {X : Sx} {l : Launch} {D : Nat} {x2 : Int32} {x3 : Int32} {x4 : Int32} {σ : AH} {r : Option Value} {σ' : AH} (hs : Sh σ) (h : W_X2_firstFor_154 X l D x2 x3 x4 σ r σ') : E X l m_X2_firstFor D 154 [(0, .ref 119), (2, .int x2), (3, .int x3), (4, .int x4)] [] σ r σ' := by
  unfold W_X2_firstFor_154 at h
  refine E_iinc 3 (x4 + 1) [(4, .int (x4 + 1)), (0, .ref 119), (2, .int x2), (3, .int x3)] dX2_firstFor_154 rfl (congrArg (x4 + ·) (by decide : Int32.ofInt 1 = 1)) (by decide) rfl ?_
  refine E_goto 29 dX2_firstFor_157 (by decide) ?_
  exact E_lv [1, 2, 3, 0] rfl h
def W_X2_firstFor_119 (X : Sx) (l : Launch) (D : Nat) (x2 : Int32) (x3 : Int32) (x4 : Int32) (x5 : Int32) (x6 : Int32) (y0 : Int32) (σ : AH) (r : Option Value) (σ' : AH) : Prop := (if x6 = (-1 : Int32) then W_X2_firstFor_154 X l D x2 x3 x4 σ r σ' else (if y0 = 0 then W_X2_firstFor_154 X l D x2 x3 x4 σ r σ' else ∃ d23 : Nat, ∃ v28 : Int32, ∃ σ24 : AH, d23 + 1 ≤ D ∧ Call X l m_X8_at d23 [.ref 13, .int x5, .int (2 : Int32)] σ (some (.int v28)) σ24 ∧ (if ((2 : Int32) * x2) < v28 then W_X2_firstFor_154 X l D x2 x3 x4 σ24 r σ' else (r = some (.int x5) ∧ σ' = σ24))))
set_option maxRecDepth 100000 in
theorem w_X2_firstFor_119 {X : Sx} {l : Launch} {D : Nat} {x2 : Int32} {x3 : Int32} {x4 : Int32} {x5 : Int32} {x6 : Int32} {y0 : Int32} {σ : AH} {r : Option Value} {σ' : AH} (hs : Sh σ) (h : W_X2_firstFor_119 X l D x2 x3 x4 x5 x6 y0 σ r σ') : E X l m_X2_firstFor D 119 [(0, .ref 119), (2, .int x2), (3, .int x3), (4, .int x4), (5, .int x5), (6, .int x6)] [.int y0] σ r σ' := by
  unfold W_X2_firstFor_119 at h
  refine E_istore [(8, .int y0), (0, .ref 119), (2, .int x2), (3, .int x3), (4, .int x4), (5, .int x5), (6, .int x6)] dX2_firstFor_119 (by decide) rfl ?_
  refine E_iload 6 dX2_firstFor_121 rfl ?_
  refine E_iconst (-1 : Int32) dX2_firstFor_123 (by decide) ?_
  refine E_icmp_eq 154 dX2_firstFor_124 (by decide) (fun c => ?_) (fun c => ?_)
  · rw [if_pos c] at h
    exact E_lv [1, 2, 3, 4] rfl (w_X2_firstFor_154 hs h)
  · rw [if_neg c] at h
    refine E_iload 0 dX2_firstFor_127 rfl ?_
    refine E_if_eq 154 dX2_firstFor_129 (by decide) (fun c => ?_) (fun c => ?_)
    · rw [if_pos c] at h
      exact E_lv [1, 2, 3, 4] rfl (w_X2_firstFor_154 hs h)
    · rw [if_neg c] at h
      refine E_aload_n 1 dX2_firstFor_132 rfl rfl ?_
      refine E_getR 1 dX2_firstFor_133 fl_X2_24 rfl (sk_119 hs) (sn hs (by decide)) (sr_119_0 hs) ?_
      refine E_getR 13 dX2_firstFor_136 fl_X2_129 rfl (sk_1 hs) (sn hs (by decide)) (sr_1_7 hs) ?_
      refine E_iload 5 dX2_firstFor_139 rfl ?_
      refine E_iconst (2 : Int32) dX2_firstFor_141 (by decide) ?_
      obtain ⟨d23, v28, σ24, hD25, hC26, h⟩ := h
      have hs27 := hC26.1.2.2.2.1 hs
      refine E_callV (As := [.int x5, .int (2 : Int32)]) (rest := []) (r1 := (some (.int v28))) (b := 13) dX2_firstFor_142 ok_X8_at in_X8_at se_X8_at ml_X2_42 hD25 rfl rfl (Nat.le_of_ble_eq_true rfl) (sk_13 hs) (sn hs (by decide)) (by decide) rfl (by decide +kernel) hC26 ?_
      refine E_iconst (2 : Int32) dX2_firstFor_145 (by decide) ?_
      refine E_iload_n 2 dX2_firstFor_146 rfl rfl ?_
      refine E_imul dX2_firstFor_147 ?_
      refine E_icmp_gt 154 dX2_firstFor_148 (by decide) (fun c => ?_) (fun c => ?_)
      · rw [if_pos c] at h
        exact E_lv [1, 2, 3, 4] rfl (w_X2_firstFor_154 hs27 h)
      · rw [if_neg c] at h
        refine E_iload 5 dX2_firstFor_151 rfl ?_
        obtain ⟨rfl, rfl⟩ := h
        exact E_iret dX2_firstFor_153 rfl
def W_X2_firstFor_114 (X : Sx) (l : Launch) (D : Nat) (x2 : Int32) (x3 : Int32) (x4 : Int32) (x5 : Int32) (x6 : Int32) (σ : AH) (r : Option Value) (σ' : AH) : Prop := W_X2_firstFor_119 X l D x2 x3 x4 x5 x6 (1 : Int32) σ r σ'
set_option maxRecDepth 100000 in
theorem w_X2_firstFor_114 {X : Sx} {l : Launch} {D : Nat} {x2 : Int32} {x3 : Int32} {x4 : Int32} {x5 : Int32} {x6 : Int32} {σ : AH} {r : Option Value} {σ' : AH} (hs : Sh σ) (h : W_X2_firstFor_114 X l D x2 x3 x4 x5 x6 σ r σ') : E X l m_X2_firstFor D 114 [(0, .ref 119), (2, .int x2), (3, .int x3), (4, .int x4), (5, .int x5), (6, .int x6)] [] σ r σ' := by
  unfold W_X2_firstFor_114 at h
  refine E_iconst (1 : Int32) dX2_firstFor_114 (by decide) ?_
  refine E_goto 119 dX2_firstFor_115 (by decide) ?_
  exact E_lv [0, 1, 2, 3, 4, 5] rfl (w_X2_firstFor_119 hs h)
def W_X2_firstFor_89 (X : Sx) (l : Launch) (D : Nat) (x2 : Int32) (x3 : Int32) (x4 : Int32) (x5 : Int32) (x6 : Int32) (y0 : Int32) (σ : AH) (r : Option Value) (σ' : AH) : Prop := (if y0 = (-1 : Int32) then W_X2_firstFor_114 X l D x2 x3 x4 x5 x6 σ r σ' else ∃ d17 : Nat, ∃ v22 : Int32, ∃ σ18 : AH, d17 + 1 ≤ D ∧ Call X l m_X8_at d17 [.ref 9, .int y0, .int (2 : Int32)] σ (some (.int v22)) σ18 ∧ (if x2 ≤ v22 then W_X2_firstFor_119 X l D x2 x3 x4 x5 x6 (0 : Int32) σ18 r σ' else W_X2_firstFor_114 X l D x2 x3 x4 x5 x6 σ18 r σ'))
set_option maxRecDepth 100000 in
theorem w_X2_firstFor_89 {X : Sx} {l : Launch} {D : Nat} {x2 : Int32} {x3 : Int32} {x4 : Int32} {x5 : Int32} {x6 : Int32} {y0 : Int32} {σ : AH} {r : Option Value} {σ' : AH} (hs : Sh σ) (h : W_X2_firstFor_89 X l D x2 x3 x4 x5 x6 y0 σ r σ') : E X l m_X2_firstFor D 89 [(0, .ref 119), (2, .int x2), (3, .int x3), (4, .int x4), (5, .int x5), (6, .int x6)] [.int y0] σ r σ' := by
  unfold W_X2_firstFor_89 at h
  refine E_istore [(7, .int y0), (0, .ref 119), (2, .int x2), (3, .int x3), (4, .int x4), (5, .int x5), (6, .int x6)] dX2_firstFor_89 (by decide) rfl ?_
  refine E_iload 0 dX2_firstFor_91 rfl ?_
  refine E_iconst (-1 : Int32) dX2_firstFor_93 (by decide) ?_
  refine E_icmp_eq 114 dX2_firstFor_94 (by decide) (fun c => ?_) (fun c => ?_)
  · rw [if_pos c] at h
    exact E_lv [1, 2, 3, 4, 5, 6] rfl (w_X2_firstFor_114 hs h)
  · rw [if_neg c] at h
    refine E_aload_n 1 dX2_firstFor_97 rfl rfl ?_
    refine E_getR 1 dX2_firstFor_98 fl_X2_24 rfl (sk_119 hs) (sn hs (by decide)) (sr_119_0 hs) ?_
    refine E_getR 9 dX2_firstFor_101 fl_X2_36 rfl (sk_1 hs) (sn hs (by decide)) (sr_1_5 hs) ?_
    refine E_iload 0 dX2_firstFor_104 rfl ?_
    refine E_iconst (2 : Int32) dX2_firstFor_106 (by decide) ?_
    obtain ⟨d17, v22, σ18, hD19, hC20, h⟩ := h
    have hs21 := hC20.1.2.2.2.1 hs
    refine E_callV (As := [.int y0, .int (2 : Int32)]) (rest := []) (r1 := (some (.int v22))) (b := 9) dX2_firstFor_107 ok_X8_at in_X8_at se_X8_at ml_X2_42 hD19 rfl rfl (Nat.le_of_ble_eq_true rfl) (sk_9 hs) (sn hs (by decide)) (by decide) rfl (by decide +kernel) hC20 ?_
    refine E_iload_n 2 dX2_firstFor_110 rfl rfl ?_
    refine E_icmp_ge 118 dX2_firstFor_111 (by decide) (fun c => ?_) (fun c => ?_)
    · rw [if_pos c] at h
      refine E_iconst (0 : Int32) dX2_firstFor_118 (by decide) ?_
      exact E_lv [1, 2, 3, 4, 5, 6] rfl (w_X2_firstFor_119 hs21 h)
    · rw [if_neg c] at h
      exact E_lv [1, 2, 3, 4, 5, 6] rfl (w_X2_firstFor_114 hs21 h)
def W_X2_firstFor_29 (X : Sx) (l : Launch) (D : Nat) (x2 : Int32) (x3 : Int32) (x4 : Int32) (σ : AH) (r : Option Value) (σ' : AH) : Prop := vp_in x3 6 ∧ (if (gI σ 116 x3.toNatClampNeg) ≤ x4 then (r = some (.int (-1 : Int32)) ∧ σ' = σ) else vp_in ((x3 * (60 : Int32)) + x4) 360 ∧ vp_in (gI σ 115 ((x3 * (60 : Int32)) + x4).toNatClampNeg) 60 ∧ (if (gI σ 114 (gI σ 115 ((x3 * (60 : Int32)) + x4).toNatClampNeg).toNatClampNeg) = (-1 : Int32) then W_X2_firstFor_89 X l D x2 x3 x4 (gI σ 115 ((x3 * (60 : Int32)) + x4).toNatClampNeg) (gI σ 114 (gI σ 115 ((x3 * (60 : Int32)) + x4).toNatClampNeg).toNatClampNeg) (-1 : Int32) σ r σ' else vp_in (gI σ 114 (gI σ 115 ((x3 * (60 : Int32)) + x4).toNatClampNeg).toNatClampNeg) 60 ∧ W_X2_firstFor_89 X l D x2 x3 x4 (gI σ 115 ((x3 * (60 : Int32)) + x4).toNatClampNeg) (gI σ 114 (gI σ 115 ((x3 * (60 : Int32)) + x4).toNatClampNeg).toNatClampNeg) (gI σ 122 (gI σ 114 (gI σ 115 ((x3 * (60 : Int32)) + x4).toNatClampNeg).toNatClampNeg).toNatClampNeg) σ r σ'))
set_option maxRecDepth 100000 in
theorem w_X2_firstFor_29 {X : Sx} {l : Launch} {D : Nat} {x2 : Int32} {x3 : Int32} {x4 : Int32} {σ : AH} {r : Option Value} {σ' : AH} (hs : Sh σ) (h : W_X2_firstFor_29 X l D x2 x3 x4 σ r σ') : E X l m_X2_firstFor D 29 [(0, .ref 119), (2, .int x2), (3, .int x3), (4, .int x4)] [] σ r σ' := by
  unfold W_X2_firstFor_29 at h
  refine E_iload 3 dX2_firstFor_29 rfl ?_
  refine E_aload_n 0 dX2_firstFor_31 rfl rfl ?_
  refine E_getR 113 dX2_firstFor_32 fl_X2_32 rfl (sk_119 hs) (sn hs (by decide)) (sr_119_2 hs) ?_
  refine E_getR 116 dX2_firstFor_35 fl_X2_123 rfl (sk_113 hs) (sn hs (by decide)) (sr_113_6 hs) ?_
  refine E_iload_n 2 dX2_firstFor_38 rfl rfl ?_
  obtain ⟨g13, h⟩ := h
  refine E_iald2 (x3.toNatClampNeg) dX2_firstFor_39 (sk_116 hs) (sn hs (by decide)) g13 rfl ?_
  refine E_icmp_ge 160 dX2_firstFor_40 (by decide) (fun c => ?_) (fun c => ?_)
  · rw [if_pos c] at h
    refine E_iconst (-1 : Int32) dX2_firstFor_160 (by decide) ?_
    obtain ⟨rfl, rfl⟩ := h
    exact E_iret dX2_firstFor_161 rfl
  · rw [if_neg c] at h
    refine E_aload_n 0 dX2_firstFor_43 rfl rfl ?_
    refine E_getR 113 dX2_firstFor_44 fl_X2_32 rfl (sk_119 hs) (sn hs (by decide)) (sr_119_2 hs) ?_
    refine E_getR 115 dX2_firstFor_47 fl_X2_126 rfl (sk_113 hs) (sn hs (by decide)) (sr_113_5 hs) ?_
    refine E_iload_n 2 dX2_firstFor_50 rfl rfl ?_
    refine E_bipush (60 : Int32) dX2_firstFor_51 (by decide) ?_
    refine E_imul dX2_firstFor_53 ?_
    refine E_iload 3 dX2_firstFor_54 rfl ?_
    refine E_iadd dX2_firstFor_56 ?_
    obtain ⟨g14, h⟩ := h
    refine E_iald2 (((x3 * (60 : Int32)) + x4).toNatClampNeg) dX2_firstFor_57 (sk_115 hs) (sn hs (by decide)) g14 rfl ?_
    refine E_istore [(5, .int (gI σ 115 ((x3 * (60 : Int32)) + x4).toNatClampNeg)), (0, .ref 119), (2, .int x2), (3, .int x3), (4, .int x4)] dX2_firstFor_58 (by decide) rfl ?_
    refine E_aload_n 1 dX2_firstFor_60 rfl rfl ?_
    refine E_getR 113 dX2_firstFor_61 fl_X2_32 rfl (sk_119 hs) (sn hs (by decide)) (sr_119_2 hs) ?_
    refine E_getR 114 dX2_firstFor_64 fl_X2_84 rfl (sk_113 hs) (sn hs (by decide)) (sr_113_2 hs) ?_
    refine E_iload 0 dX2_firstFor_67 rfl ?_
    obtain ⟨g15, h⟩ := h
    refine E_iald2 ((gI σ 115 ((x3 * (60 : Int32)) + x4).toNatClampNeg).toNatClampNeg) dX2_firstFor_69 (sk_114 hs) (sn hs (by decide)) g15 rfl ?_
    refine E_istore [(6, .int (gI σ 114 (gI σ 115 ((x3 * (60 : Int32)) + x4).toNatClampNeg).toNatClampNeg)), (5, .int (gI σ 115 ((x3 * (60 : Int32)) + x4).toNatClampNeg)), (0, .ref 119), (2, .int x2), (3, .int x3), (4, .int x4)] dX2_firstFor_70 (by decide) rfl ?_
    refine E_iload 0 dX2_firstFor_72 rfl ?_
    refine E_iconst (-1 : Int32) dX2_firstFor_74 (by decide) ?_
    refine E_icmp_ne 82 dX2_firstFor_75 (by decide) (fun c => ?_) (fun c => ?_)
    · rw [if_neg c] at h
      refine E_aload_n 2 dX2_firstFor_82 rfl rfl ?_
      refine E_getR 122 dX2_firstFor_83 fl_X2_18 rfl (sk_119 hs) (sn hs (by decide)) (sr_119_5 hs) ?_
      refine E_iload 0 dX2_firstFor_86 rfl ?_
      obtain ⟨g16, h⟩ := h
      refine E_iald2 ((gI σ 114 (gI σ 115 ((x3 * (60 : Int32)) + x4).toNatClampNeg).toNatClampNeg).toNatClampNeg) dX2_firstFor_88 (sk_122 hs) (sn hs (by decide)) g16 rfl ?_
      exact E_lv [2, 3, 4, 5, 1, 0] rfl (w_X2_firstFor_89 hs h)
    · rw [if_pos c] at h
      refine E_iconst (-1 : Int32) dX2_firstFor_78 (by decide) ?_
      refine E_goto 89 dX2_firstFor_79 (by decide) ?_
      exact E_lv [2, 3, 4, 5, 1, 0] rfl (w_X2_firstFor_89 hs h)
def W_X2_leave_0 (X : Sx) (l : Launch) (D : Nat) (x1 : Int32) (x2 : Int32) (σ : AH) (r : Option Value) (σ' : AH) : Prop := (if x1 = (-1 : Int32) then (r = none ∧ σ' = σ) else vp_in x1 30 ∧ ∃ d2 : Nat, ∃ σ3 : AH, d2 + 1 ≤ D ∧ Call X l m_X8_put d2 [.ref 17, .int (gI σ 121 x1.toNatClampNeg), .int (5 : Int32), .int x2] σ none σ3 ∧ vp_in x1 30 ∧ (r = none ∧ σ' = (sI σ3 121 x1.toNatClampNeg (-1 : Int32))))
set_option maxRecDepth 100000 in
theorem w_X2_leave_0 {X : Sx} {l : Launch} {D : Nat} {x1 : Int32} {x2 : Int32} {σ : AH} {r : Option Value} {σ' : AH} (hs : Sh σ) (h : W_X2_leave_0 X l D x1 x2 σ r σ') : E X l m_X2_leave D 0 [(0, .ref 119), (1, .int x1), (2, .int x2)] [] σ r σ' := by
  unfold W_X2_leave_0 at h
  refine E_iload_n 1 dX2_leave_0 rfl rfl ?_
  refine E_iconst (-1 : Int32) dX2_leave_1 (by decide) ?_
  refine E_icmp_eq 30 dX2_leave_2 (by decide) (fun c => ?_) (fun c => ?_)
  · rw [if_pos c] at h
    obtain ⟨rfl, rfl⟩ := h
    exact E_vret dX2_leave_30 rfl
  · rw [if_neg c] at h
    refine E_aload_n 0 dX2_leave_5 rfl rfl ?_
    refine E_getR 1 dX2_leave_6 fl_X2_24 rfl (sk_119 hs) (sn hs (by decide)) (sr_119_0 hs) ?_
    refine E_getR 17 dX2_leave_9 fl_X2_67 rfl (sk_1 hs) (sn hs (by decide)) (sr_1_9 hs) ?_
    refine E_aload_n 0 dX2_leave_12 rfl rfl ?_
    refine E_getR 121 dX2_leave_13 fl_X2_15 rfl (sk_119 hs) (sn hs (by decide)) (sr_119_4 hs) ?_
    refine E_iload_n 1 dX2_leave_16 rfl rfl ?_
    obtain ⟨g1, h⟩ := h
    refine E_iald2 (x1.toNatClampNeg) dX2_leave_17 (sk_121 hs) (sn hs (by decide)) g1 rfl ?_
    refine E_iconst (5 : Int32) dX2_leave_18 (by decide) ?_
    refine E_iload_n 2 dX2_leave_19 rfl rfl ?_
    obtain ⟨d2, σ3, hD4, hC5, h⟩ := h
    have hs6 := hC5.1.2.2.2.1 hs
    refine E_callV (As := [.int (gI σ 121 x1.toNatClampNeg), .int (5 : Int32), .int x2]) (rest := []) (r1 := none) (b := 17) dX2_leave_20 ok_X8_put in_X8_put se_X8_put ml_X2_132 hD4 rfl rfl (Nat.le_of_ble_eq_true rfl) (sk_17 hs) (sn hs (by decide)) (by decide) rfl (by decide +kernel) hC5 ?_
    refine E_aload_n 0 dX2_leave_23 rfl rfl ?_
    refine E_getR 121 dX2_leave_24 fl_X2_15 rfl (sk_119 hs6) (sn hs6 (by decide)) (sr_119_4 hs6) ?_
    refine E_iload_n 1 dX2_leave_27 rfl rfl ?_
    refine E_iconst (-1 : Int32) dX2_leave_28 (by decide) ?_
    obtain ⟨g7, h⟩ := h
    refine E_iast2 (x1.toNatClampNeg) dX2_leave_29 (sk_121 hs6) (sn hs6 (by decide)) (Or.inl (by decide)) g7 rfl ?_
    obtain ⟨rfl, rfl⟩ := h
    exact E_vret dX2_leave_30 rfl
def W_X2_goIn_0 (X : Sx) (l : Launch) (D : Nat) (x1 : Int32) (x2 : Int32) (x3 : Int32) (x4 : Int32) (x5 : Int32) (σ : AH) (r : Option Value) (σ' : AH) : Prop := ∃ d1 : Nat, ∃ v6 : Int32, ∃ σ2 : AH, d1 + 1 ≤ D ∧ Call X l m_X2_emptyStay d1 [.ref 119] σ (some (.int v6)) σ2 ∧ ∃ d7 : Nat, ∃ σ8 : AH, d7 + 1 ≤ D ∧ Call X l m_X8_put d7 [.ref 17, .int v6, .int (0 : Int32), .int x2] σ2 none σ8 ∧ ∃ d12 : Nat, ∃ σ13 : AH, d12 + 1 ≤ D ∧ Call X l m_X8_put d12 [.ref 17, .int v6, .int (1 : Int32), .int x1] σ8 none σ13 ∧ ∃ d17 : Nat, ∃ σ18 : AH, d17 + 1 ≤ D ∧ Call X l m_X8_put d17 [.ref 17, .int v6, .int (2 : Int32), .int x3] σ13 none σ18 ∧ ∃ d22 : Nat, ∃ σ23 : AH, d22 + 1 ≤ D ∧ Call X l m_X8_put d22 [.ref 17, .int v6, .int (3 : Int32), .int x4] σ18 none σ23 ∧ vp_in x2 30 ∧ ∃ d28 : Nat, ∃ σ29 : AH, d28 + 1 ≤ D ∧ Call X l m_X8_put d28 [.ref 17, .int v6, .int (4 : Int32), .int (gI σ23 120 x2.toNatClampNeg)] σ23 none σ29 ∧ ∃ d33 : Nat, ∃ σ34 : AH, d33 + 1 ≤ D ∧ Call X l m_X8_put d33 [.ref 17, .int v6, .int (5 : Int32), .int (2000000000 : Int32)] σ29 none σ34 ∧ ∃ d38 : Nat, ∃ σ39 : AH, d38 + 1 ≤ D ∧ Call X l m_X8_put d38 [.ref 17, .int v6, .int (6 : Int32), .int x5] σ34 none σ39 ∧ vp_in x2 30 ∧ (r = none ∧ σ' = (sI σ39 121 x2.toNatClampNeg v6))
set_option maxRecDepth 100000 in
theorem w_X2_goIn_0 {X : Sx} {l : Launch} {D : Nat} {x1 : Int32} {x2 : Int32} {x3 : Int32} {x4 : Int32} {x5 : Int32} {σ : AH} {r : Option Value} {σ' : AH} (hs : Sh σ) (h : W_X2_goIn_0 X l D x1 x2 x3 x4 x5 σ r σ') : E X l m_X2_goIn D 0 [(0, .ref 119), (1, .int x1), (2, .int x2), (3, .int x3), (4, .int x4), (5, .int x5)] [] σ r σ' := by
  unfold W_X2_goIn_0 at h
  refine E_aload_n 0 dX2_goIn_0 rfl rfl ?_
  obtain ⟨d1, v6, σ2, hD3, hC4, h⟩ := h
  have hs5 := hC4.1.2.2.2.1 hs
  refine E_callV (As := []) (rest := []) (r1 := (some (.int v6))) (b := 119) dX2_goIn_1 ok_X2_emptyStay in_X2_emptyStay se_X2_emptyStay ml_X2_136 hD3 rfl rfl (Nat.le_of_ble_eq_true rfl) (sk_119 hs) (sn hs (by decide)) (by decide) rfl (by decide +kernel) hC4 ?_
  refine E_istore [(6, .int v6), (0, .ref 119), (1, .int x1), (2, .int x2), (3, .int x3), (4, .int x4), (5, .int x5)] dX2_goIn_4 (by decide) rfl ?_
  refine E_aload_n 1 dX2_goIn_6 rfl rfl ?_
  refine E_getR 1 dX2_goIn_7 fl_X2_24 rfl (sk_119 hs5) (sn hs5 (by decide)) (sr_119_0 hs5) ?_
  refine E_getR 17 dX2_goIn_10 fl_X2_67 rfl (sk_1 hs5) (sn hs5 (by decide)) (sr_1_9 hs5) ?_
  refine E_iload 0 dX2_goIn_13 rfl ?_
  refine E_iconst (0 : Int32) dX2_goIn_15 (by decide) ?_
  refine E_iload_n 3 dX2_goIn_16 rfl rfl ?_
  obtain ⟨d7, σ8, hD9, hC10, h⟩ := h
  have hs11 := hC10.1.2.2.2.1 hs5
  refine E_callV (As := [.int v6, .int (0 : Int32), .int x2]) (rest := []) (r1 := none) (b := 17) dX2_goIn_17 ok_X8_put in_X8_put se_X8_put ml_X2_132 hD9 rfl rfl (Nat.le_of_ble_eq_true rfl) (sk_17 hs5) (sn hs5 (by decide)) (by decide) rfl (by decide +kernel) hC10 ?_
  refine E_aload_n 1 dX2_goIn_20 rfl rfl ?_
  refine E_getR 1 dX2_goIn_21 fl_X2_24 rfl (sk_119 hs11) (sn hs11 (by decide)) (sr_119_0 hs11) ?_
  refine E_getR 17 dX2_goIn_24 fl_X2_67 rfl (sk_1 hs11) (sn hs11 (by decide)) (sr_1_9 hs11) ?_
  refine E_iload 0 dX2_goIn_27 rfl ?_
  refine E_iconst (1 : Int32) dX2_goIn_29 (by decide) ?_
  refine E_iload_n 2 dX2_goIn_30 rfl rfl ?_
  obtain ⟨d12, σ13, hD14, hC15, h⟩ := h
  have hs16 := hC15.1.2.2.2.1 hs11
  refine E_callV (As := [.int v6, .int (1 : Int32), .int x1]) (rest := []) (r1 := none) (b := 17) dX2_goIn_31 ok_X8_put in_X8_put se_X8_put ml_X2_132 hD14 rfl rfl (Nat.le_of_ble_eq_true rfl) (sk_17 hs11) (sn hs11 (by decide)) (by decide) rfl (by decide +kernel) hC15 ?_
  refine E_aload_n 1 dX2_goIn_34 rfl rfl ?_
  refine E_getR 1 dX2_goIn_35 fl_X2_24 rfl (sk_119 hs16) (sn hs16 (by decide)) (sr_119_0 hs16) ?_
  refine E_getR 17 dX2_goIn_38 fl_X2_67 rfl (sk_1 hs16) (sn hs16 (by decide)) (sr_1_9 hs16) ?_
  refine E_iload 0 dX2_goIn_41 rfl ?_
  refine E_iconst (2 : Int32) dX2_goIn_43 (by decide) ?_
  refine E_iload_n 4 dX2_goIn_44 rfl rfl ?_
  obtain ⟨d17, σ18, hD19, hC20, h⟩ := h
  have hs21 := hC20.1.2.2.2.1 hs16
  refine E_callV (As := [.int v6, .int (2 : Int32), .int x3]) (rest := []) (r1 := none) (b := 17) dX2_goIn_45 ok_X8_put in_X8_put se_X8_put ml_X2_132 hD19 rfl rfl (Nat.le_of_ble_eq_true rfl) (sk_17 hs16) (sn hs16 (by decide)) (by decide) rfl (by decide +kernel) hC20 ?_
  refine E_aload_n 1 dX2_goIn_48 rfl rfl ?_
  refine E_getR 1 dX2_goIn_49 fl_X2_24 rfl (sk_119 hs21) (sn hs21 (by decide)) (sr_119_0 hs21) ?_
  refine E_getR 17 dX2_goIn_52 fl_X2_67 rfl (sk_1 hs21) (sn hs21 (by decide)) (sr_1_9 hs21) ?_
  refine E_iload 0 dX2_goIn_55 rfl ?_
  refine E_iconst (3 : Int32) dX2_goIn_57 (by decide) ?_
  refine E_iload 5 dX2_goIn_58 rfl ?_
  obtain ⟨d22, σ23, hD24, hC25, h⟩ := h
  have hs26 := hC25.1.2.2.2.1 hs21
  refine E_callV (As := [.int v6, .int (3 : Int32), .int x4]) (rest := []) (r1 := none) (b := 17) dX2_goIn_60 ok_X8_put in_X8_put se_X8_put ml_X2_132 hD24 rfl rfl (Nat.le_of_ble_eq_true rfl) (sk_17 hs21) (sn hs21 (by decide)) (by decide) rfl (by decide +kernel) hC25 ?_
  refine E_aload_n 1 dX2_goIn_63 rfl rfl ?_
  refine E_getR 1 dX2_goIn_64 fl_X2_24 rfl (sk_119 hs26) (sn hs26 (by decide)) (sr_119_0 hs26) ?_
  refine E_getR 17 dX2_goIn_67 fl_X2_67 rfl (sk_1 hs26) (sn hs26 (by decide)) (sr_1_9 hs26) ?_
  refine E_iload 0 dX2_goIn_70 rfl ?_
  refine E_iconst (4 : Int32) dX2_goIn_72 (by decide) ?_
  refine E_aload_n 1 dX2_goIn_73 rfl rfl ?_
  refine E_getR 120 dX2_goIn_74 fl_X2_9 rfl (sk_119 hs26) (sn hs26 (by decide)) (sr_119_3 hs26) ?_
  refine E_iload_n 3 dX2_goIn_77 rfl rfl ?_
  obtain ⟨g27, h⟩ := h
  refine E_iald2 (x2.toNatClampNeg) dX2_goIn_78 (sk_120 hs26) (sn hs26 (by decide)) g27 rfl ?_
  obtain ⟨d28, σ29, hD30, hC31, h⟩ := h
  have hs32 := hC31.1.2.2.2.1 hs26
  refine E_callV (As := [.int v6, .int (4 : Int32), .int (gI σ23 120 x2.toNatClampNeg)]) (rest := []) (r1 := none) (b := 17) dX2_goIn_79 ok_X8_put in_X8_put se_X8_put ml_X2_132 hD30 rfl rfl (Nat.le_of_ble_eq_true rfl) (sk_17 hs26) (sn hs26 (by decide)) (by decide) rfl (by decide +kernel) hC31 ?_
  refine E_aload_n 1 dX2_goIn_82 rfl rfl ?_
  refine E_getR 1 dX2_goIn_83 fl_X2_24 rfl (sk_119 hs32) (sn hs32 (by decide)) (sr_119_0 hs32) ?_
  refine E_getR 17 dX2_goIn_86 fl_X2_67 rfl (sk_1 hs32) (sn hs32 (by decide)) (sr_1_9 hs32) ?_
  refine E_iload 0 dX2_goIn_89 rfl ?_
  refine E_iconst (5 : Int32) dX2_goIn_91 (by decide) ?_
  refine E_ldc (2000000000 : Int32) dX2_goIn_92 ct_X2_48 ?_
  obtain ⟨d33, σ34, hD35, hC36, h⟩ := h
  have hs37 := hC36.1.2.2.2.1 hs32
  refine E_callV (As := [.int v6, .int (5 : Int32), .int (2000000000 : Int32)]) (rest := []) (r1 := none) (b := 17) dX2_goIn_94 ok_X8_put in_X8_put se_X8_put ml_X2_132 hD35 rfl rfl (Nat.le_of_ble_eq_true rfl) (sk_17 hs32) (sn hs32 (by decide)) (by decide) rfl (by decide +kernel) hC36 ?_
  refine E_aload_n 1 dX2_goIn_97 rfl rfl ?_
  refine E_getR 1 dX2_goIn_98 fl_X2_24 rfl (sk_119 hs37) (sn hs37 (by decide)) (sr_119_0 hs37) ?_
  refine E_getR 17 dX2_goIn_101 fl_X2_67 rfl (sk_1 hs37) (sn hs37 (by decide)) (sr_1_9 hs37) ?_
  refine E_iload 0 dX2_goIn_104 rfl ?_
  refine E_bipush (6 : Int32) dX2_goIn_106 (by decide) ?_
  refine E_iload 6 dX2_goIn_108 rfl ?_
  obtain ⟨d38, σ39, hD40, hC41, h⟩ := h
  have hs42 := hC41.1.2.2.2.1 hs37
  refine E_callV (As := [.int v6, .int (6 : Int32), .int x5]) (rest := []) (r1 := none) (b := 17) dX2_goIn_110 ok_X8_put in_X8_put se_X8_put ml_X2_132 hD40 rfl rfl (Nat.le_of_ble_eq_true rfl) (sk_17 hs37) (sn hs37 (by decide)) (by decide) rfl (by decide +kernel) hC41 ?_
  refine E_aload_n 1 dX2_goIn_113 rfl rfl ?_
  refine E_getR 121 dX2_goIn_114 fl_X2_15 rfl (sk_119 hs42) (sn hs42 (by decide)) (sr_119_4 hs42) ?_
  refine E_iload_n 3 dX2_goIn_117 rfl rfl ?_
  refine E_iload 0 dX2_goIn_118 rfl ?_
  obtain ⟨g43, h⟩ := h
  refine E_iast2 (x2.toNatClampNeg) dX2_goIn_120 (sk_121 hs42) (sn hs42 (by decide)) (Or.inl (by decide)) g43 rfl ?_
  obtain ⟨rfl, rfl⟩ := h
  exact E_vret dX2_goIn_121 rfl
def W_X2_emptyStay_0 (X : Sx) (l : Launch) (D : Nat) (σ : AH) (r : Option Value) (σ' : AH) : Prop := E X l m_X2_emptyStay D 2 [(0, .ref 119), (1, .int (0 : Int32))] [] σ r σ'
set_option maxRecDepth 100000 in
theorem w_X2_emptyStay_0 {X : Sx} {l : Launch} {D : Nat} {σ : AH} {r : Option Value} {σ' : AH} (hs : Sh σ) (h : W_X2_emptyStay_0 X l D σ r σ') : E X l m_X2_emptyStay D 0 [(0, .ref 119)] [] σ r σ' := by
  unfold W_X2_emptyStay_0 at h
  refine E_iconst (0 : Int32) dX2_emptyStay_0 (by decide) ?_
  refine E_istore_n [(1, .int (0 : Int32)), (0, .ref 119)] dX2_emptyStay_1 rfl (by decide) rfl ?_
  exact E_lv [1, 0] rfl h
def W_X2_emptyStay_2 (X : Sx) (l : Launch) (D : Nat) (x1 : Int32) (σ : AH) (r : Option Value) (σ' : AH) : Prop := ∃ d1 : Nat, ∃ v6 : Int32, ∃ σ2 : AH, d1 + 1 ≤ D ∧ Call X l m_X8_rows d1 [.ref 17] σ (some (.int v6)) σ2 ∧ (if v6 ≤ x1 then ∃ d7 : Nat, ∃ v12 : Int32, ∃ σ8 : AH, d7 + 1 ≤ D ∧ Call X l m_X8_add d7 [.ref 17] σ2 (some (.int v12)) σ8 ∧ (r = some (.int v12) ∧ σ' = σ8) else ∃ d13 : Nat, ∃ v18 : Int32, ∃ σ14 : AH, d13 + 1 ≤ D ∧ Call X l m_X8_at d13 [.ref 17, .int x1, .int (2 : Int32)] σ2 (some (.int v18)) σ14 ∧ ∃ d19 : Nat, ∃ v24 : Int32, ∃ σ20 : AH, d19 + 1 ≤ D ∧ Call X l m_X8_at d19 [.ref 17, .int x1, .int (5 : Int32)] σ14 (some (.int v24)) σ20 ∧ (if v18 = v24 then (r = some (.int x1) ∧ σ' = σ20) else E X l m_X2_emptyStay D 2 [(0, .ref 119), (1, .int (x1 + 1))] [] σ20 r σ'))
set_option maxRecDepth 100000 in
theorem w_X2_emptyStay_2 {X : Sx} {l : Launch} {D : Nat} {x1 : Int32} {σ : AH} {r : Option Value} {σ' : AH} (hs : Sh σ) (h : W_X2_emptyStay_2 X l D x1 σ r σ') : E X l m_X2_emptyStay D 2 [(0, .ref 119), (1, .int x1)] [] σ r σ' := by
  unfold W_X2_emptyStay_2 at h
  refine E_iload_n 1 dX2_emptyStay_2 rfl rfl ?_
  refine E_aload_n 0 dX2_emptyStay_3 rfl rfl ?_
  refine E_getR 1 dX2_emptyStay_4 fl_X2_24 rfl (sk_119 hs) (sn hs (by decide)) (sr_119_0 hs) ?_
  refine E_getR 17 dX2_emptyStay_7 fl_X2_67 rfl (sk_1 hs) (sn hs (by decide)) (sr_1_9 hs) ?_
  obtain ⟨d1, v6, σ2, hD3, hC4, h⟩ := h
  have hs5 := hC4.1.2.2.2.1 hs
  refine E_callV (As := []) (rest := [.int x1]) (r1 := (some (.int v6))) (b := 17) dX2_emptyStay_10 ok_X8_rows in_X8_rows se_X8_rows ml_X2_70 hD3 rfl rfl (Nat.le_of_ble_eq_true rfl) (sk_17 hs) (sn hs (by decide)) (by decide) rfl (by decide +kernel) hC4 ?_
  refine E_icmp_ge 51 dX2_emptyStay_13 (by decide) (fun c => ?_) (fun c => ?_)
  · rw [if_pos c] at h
    refine E_aload_n 0 dX2_emptyStay_51 rfl rfl ?_
    refine E_getR 1 dX2_emptyStay_52 fl_X2_24 rfl (sk_119 hs5) (sn hs5 (by decide)) (sr_119_0 hs5) ?_
    refine E_getR 17 dX2_emptyStay_55 fl_X2_67 rfl (sk_1 hs5) (sn hs5 (by decide)) (sr_1_9 hs5) ?_
    obtain ⟨d7, v12, σ8, hD9, hC10, h⟩ := h
    have hs11 := hC10.1.2.2.2.1 hs5
    refine E_callV (As := []) (rest := []) (r1 := (some (.int v12))) (b := 17) dX2_emptyStay_58 ok_X8_add in_X8_add se_X8_add ml_X2_139 hD9 rfl rfl (Nat.le_of_ble_eq_true rfl) (sk_17 hs5) (sn hs5 (by decide)) (by decide) rfl (by decide +kernel) hC10 ?_
    obtain ⟨rfl, rfl⟩ := h
    exact E_iret dX2_emptyStay_61 rfl
  · rw [if_neg c] at h
    refine E_aload_n 0 dX2_emptyStay_16 rfl rfl ?_
    refine E_getR 1 dX2_emptyStay_17 fl_X2_24 rfl (sk_119 hs5) (sn hs5 (by decide)) (sr_119_0 hs5) ?_
    refine E_getR 17 dX2_emptyStay_20 fl_X2_67 rfl (sk_1 hs5) (sn hs5 (by decide)) (sr_1_9 hs5) ?_
    refine E_iload_n 1 dX2_emptyStay_23 rfl rfl ?_
    refine E_iconst (2 : Int32) dX2_emptyStay_24 (by decide) ?_
    obtain ⟨d13, v18, σ14, hD15, hC16, h⟩ := h
    have hs17 := hC16.1.2.2.2.1 hs5
    refine E_callV (As := [.int x1, .int (2 : Int32)]) (rest := []) (r1 := (some (.int v18))) (b := 17) dX2_emptyStay_25 ok_X8_at in_X8_at se_X8_at ml_X2_42 hD15 rfl rfl (Nat.le_of_ble_eq_true rfl) (sk_17 hs5) (sn hs5 (by decide)) (by decide) rfl (by decide +kernel) hC16 ?_
    refine E_aload_n 0 dX2_emptyStay_28 rfl rfl ?_
    refine E_getR 1 dX2_emptyStay_29 fl_X2_24 rfl (sk_119 hs17) (sn hs17 (by decide)) (sr_119_0 hs17) ?_
    refine E_getR 17 dX2_emptyStay_32 fl_X2_67 rfl (sk_1 hs17) (sn hs17 (by decide)) (sr_1_9 hs17) ?_
    refine E_iload_n 1 dX2_emptyStay_35 rfl rfl ?_
    refine E_iconst (5 : Int32) dX2_emptyStay_36 (by decide) ?_
    obtain ⟨d19, v24, σ20, hD21, hC22, h⟩ := h
    have hs23 := hC22.1.2.2.2.1 hs17
    refine E_callV (As := [.int x1, .int (5 : Int32)]) (rest := [.int v18]) (r1 := (some (.int v24))) (b := 17) dX2_emptyStay_37 ok_X8_at in_X8_at se_X8_at ml_X2_42 hD21 rfl rfl (Nat.le_of_ble_eq_true rfl) (sk_17 hs17) (sn hs17 (by decide)) (by decide) rfl (by decide +kernel) hC22 ?_
    refine E_icmp_ne 45 dX2_emptyStay_40 (by decide) (fun c => ?_) (fun c => ?_)
    · rw [if_neg c] at h
      refine E_iinc 1 (x1 + 1) [(1, .int (x1 + 1)), (0, .ref 119)] dX2_emptyStay_45 rfl (congrArg (x1 + ·) (by decide : Int32.ofInt 1 = 1)) (by decide) rfl ?_
      refine E_goto 2 dX2_emptyStay_48 (by decide) ?_
      exact E_lv [1, 0] rfl h
    · rw [if_pos c] at h
      refine E_iload_n 1 dX2_emptyStay_43 rfl rfl ?_
      obtain ⟨rfl, rfl⟩ := h
      exact E_iret dX2_emptyStay_44 rfl
def W_X3_init_0 (X : Sx) (l : Launch) (D : Nat) (x0 : Nat) (x1 : Nat) (σ : AH) (r : Option Value) (σ' : AH) : Prop := kd σ x0 = (3, NO 3) ∧ x0 < nx σ ∧ kd σ x1 = (9, NO 9) ∧ x1 < nx σ ∧ 1 ≤ D ∧ (∀ τ1 : AH, τ1 = (aw σ 100 63) → al m_X3_init x0 ∧ (Sh τ1 → Sh (sR τ1 x0 1 (some (nx σ)))) ∧ (∀ τ12 : AH, τ12 = (sR τ1 x0 1 (some (nx σ))) → (∀ τ19 : AH, τ19 = (aw τ12 100 384) → al m_X3_init x0 ∧ (Sh τ19 → Sh (sR τ19 x0 2 (some (nx τ12)))) ∧ (∀ τ30 : AH, τ30 = (sR τ19 x0 2 (some (nx τ12))) → (∀ τ37 : AH, τ37 = (aw τ30 100 24) → al m_X3_init x0 ∧ (Sh τ37 → Sh (sR τ37 x0 3 (some (nx τ30)))) ∧ (∀ τ48 : AH, τ48 = (sR τ37 x0 3 (some (nx τ30))) → (∀ τ55 : AH, τ55 = (aw τ48 100 7) → al m_X3_init x0 ∧ (Sh τ55 → Sh (sR τ55 x0 4 (some (nx τ48)))) ∧ (∀ τ66 : AH, τ66 = (sR τ55 x0 4 (some (nx τ48))) → (∀ τ73 : AH, τ73 = (aw τ66 102 64) → al m_X3_init x0 ∧ (Sh τ73 → Sh (sR τ73 x0 5 (some (nx τ66)))) ∧ (∀ τ84 : AH, τ84 = (sR τ73 x0 5 (some (nx τ66))) → al m_X3_init x0 ∧ al m_X3_init x0 ∧ (Sh (sI τ84 x0 6 (-1 : Int32)) → Sh (sR (sI τ84 x0 6 (-1 : Int32)) x0 0 (some x1))) ∧ (∀ τ94 : AH, τ94 = (sR (sI τ84 x0 6 (-1 : Int32)) x0 0 (some x1)) → ∃ b101 n105 : Nat, gR τ94 x0 1 = some b101 ∧ kd τ94 b101 = (100, n105) ∧ b101 < nx τ94 ∧ al m_X3_init b101 ∧ 1 ≤ D ∧ n105 < 2 ^ 31 ∧ (∀ τ108 : AH, τ108 = (sA τ94 b101 (filln (gI τ94 b101) n105 (-1 : Int32))) → (r = none ∧ σ' = τ108)))))))))))))
set_option maxRecDepth 100000 in
theorem w_X3_init_0 {X : Sx} {l : Launch} {D : Nat} {x0 : Nat} {x1 : Nat} {σ : AH} {r : Option Value} {σ' : AH} (h : W_X3_init_0 X l D x0 x1 σ r σ') : E X l m_X3_init D 0 [(0, .ref x0), (1, .ref x1)] [] σ r σ' := by
  unfold W_X3_init_0 at h
  obtain ⟨hkx0, hbx0, h⟩ := h
  obtain ⟨hkx1, hbx1, h⟩ := h
  refine E_aload_n 0 dX3_init_0 rfl rfl ?_
  obtain ⟨g116, h⟩ := h
  refine E_objInit dX3_init_1 mo_X3_3 g116 (Nat.le_of_ble_eq_true rfl) ?_
  refine E_aload_n 0 dX3_init_4 rfl rfl ?_
  refine E_bipush (63 : Int32) dX3_init_5 (by decide) ?_
  refine E_newaI 63 dX3_init_7 ac_int (by decide) (by decide) (by decide) ?_
  obtain ⟨τ1, e2⟩ : ∃ τ : AH, τ = (aw σ 100 63) := ⟨_, rfl⟩
  replace h := h τ1 e2
  rw [← e2]
  have hk4 : kd _ x0 = (3, NO 3) := (congrFun (congrArg kd e2) _).trans ((up_ne _ _ _ (Nat.ne_of_lt hbx0)).trans hkx0)
  have hb5 := Nat.lt_of_lt_of_eq (Nat.lt_succ_of_lt hbx0) (congrArg nx e2).symm
  have hk6 : kd _ x1 = (9, NO 9) := (congrFun (congrArg kd e2) _).trans ((up_ne _ _ _ (Nat.ne_of_lt hbx1)).trans hkx1)
  have hb7 := Nat.lt_of_lt_of_eq (Nat.lt_succ_of_lt hbx1) (congrArg nx e2).symm
  have hk8 : kd _ (nx σ) = (100, 63) := (congrFun (congrArg kd e2) _).trans (up_same _ _ _)
  have hb9 := Nat.lt_of_lt_of_eq (Nat.lt_succ_self _) (congrArg nx e2).symm
  obtain ⟨ga10, h⟩ := h
  obtain ⟨g11, h⟩ := h
  refine E_putR dX3_init_9 fl_X3_9 rfl (Or.inr ⟨rfl, rfl, rfl⟩) hk4 hb5 ga10 g11 ?_
  obtain ⟨τ12, e13⟩ : ∃ τ : AH, τ = (sR τ1 x0 1 (some (nx σ))) := ⟨_, rfl⟩
  replace h := h τ12 e13
  rw [← e13]
  have hk15 : kd _ x0 = (3, NO 3) := (congrFun (congrArg kd e13) _).trans hk4
  have hb16 := Nat.lt_of_lt_of_eq hb5 (congrArg nx e13).symm
  have hk17 : kd _ x1 = (9, NO 9) := (congrFun (congrArg kd e13) _).trans hk6
  have hb18 := Nat.lt_of_lt_of_eq hb7 (congrArg nx e13).symm
  refine E_aload_n 0 dX3_init_12 rfl rfl ?_
  refine E_sipush (384 : Int32) dX3_init_13 (by decide) ?_
  refine E_newaI 384 dX3_init_16 ac_int (by decide) (by decide) (by decide) ?_
  obtain ⟨τ19, e20⟩ : ∃ τ : AH, τ = (aw τ12 100 384) := ⟨_, rfl⟩
  replace h := h τ19 e20
  rw [← e20]
  have hk22 : kd _ x0 = (3, NO 3) := (congrFun (congrArg kd e20) _).trans ((up_ne _ _ _ (Nat.ne_of_lt hb16)).trans hk15)
  have hb23 := Nat.lt_of_lt_of_eq (Nat.lt_succ_of_lt hb16) (congrArg nx e20).symm
  have hk24 : kd _ x1 = (9, NO 9) := (congrFun (congrArg kd e20) _).trans ((up_ne _ _ _ (Nat.ne_of_lt hb18)).trans hk17)
  have hb25 := Nat.lt_of_lt_of_eq (Nat.lt_succ_of_lt hb18) (congrArg nx e20).symm
  have hk26 : kd _ (nx τ12) = (100, 384) := (congrFun (congrArg kd e20) _).trans (up_same _ _ _)
  have hb27 := Nat.lt_of_lt_of_eq (Nat.lt_succ_self _) (congrArg nx e20).symm
  obtain ⟨ga28, h⟩ := h
  obtain ⟨g29, h⟩ := h
  refine E_putR dX3_init_18 fl_X3_15 rfl (Or.inr ⟨rfl, rfl, rfl⟩) hk22 hb23 ga28 g29 ?_
  obtain ⟨τ30, e31⟩ : ∃ τ : AH, τ = (sR τ19 x0 2 (some (nx τ12))) := ⟨_, rfl⟩
  replace h := h τ30 e31
  rw [← e31]
  have hk33 : kd _ x0 = (3, NO 3) := (congrFun (congrArg kd e31) _).trans hk22
  have hb34 := Nat.lt_of_lt_of_eq hb23 (congrArg nx e31).symm
  have hk35 : kd _ x1 = (9, NO 9) := (congrFun (congrArg kd e31) _).trans hk24
  have hb36 := Nat.lt_of_lt_of_eq hb25 (congrArg nx e31).symm
  refine E_aload_n 0 dX3_init_21 rfl rfl ?_
  refine E_bipush (24 : Int32) dX3_init_22 (by decide) ?_
  refine E_newaI 24 dX3_init_24 ac_int (by decide) (by decide) (by decide) ?_
  obtain ⟨τ37, e38⟩ : ∃ τ : AH, τ = (aw τ30 100 24) := ⟨_, rfl⟩
  replace h := h τ37 e38
  rw [← e38]
  have hk40 : kd _ x0 = (3, NO 3) := (congrFun (congrArg kd e38) _).trans ((up_ne _ _ _ (Nat.ne_of_lt hb34)).trans hk33)
  have hb41 := Nat.lt_of_lt_of_eq (Nat.lt_succ_of_lt hb34) (congrArg nx e38).symm
  have hk42 : kd _ x1 = (9, NO 9) := (congrFun (congrArg kd e38) _).trans ((up_ne _ _ _ (Nat.ne_of_lt hb36)).trans hk35)
  have hb43 := Nat.lt_of_lt_of_eq (Nat.lt_succ_of_lt hb36) (congrArg nx e38).symm
  have hk44 : kd _ (nx τ30) = (100, 24) := (congrFun (congrArg kd e38) _).trans (up_same _ _ _)
  have hb45 := Nat.lt_of_lt_of_eq (Nat.lt_succ_self _) (congrArg nx e38).symm
  obtain ⟨ga46, h⟩ := h
  obtain ⟨g47, h⟩ := h
  refine E_putR dX3_init_26 fl_X3_18 rfl (Or.inr ⟨rfl, rfl, rfl⟩) hk40 hb41 ga46 g47 ?_
  obtain ⟨τ48, e49⟩ : ∃ τ : AH, τ = (sR τ37 x0 3 (some (nx τ30))) := ⟨_, rfl⟩
  replace h := h τ48 e49
  rw [← e49]
  have hk51 : kd _ x0 = (3, NO 3) := (congrFun (congrArg kd e49) _).trans hk40
  have hb52 := Nat.lt_of_lt_of_eq hb41 (congrArg nx e49).symm
  have hk53 : kd _ x1 = (9, NO 9) := (congrFun (congrArg kd e49) _).trans hk42
  have hb54 := Nat.lt_of_lt_of_eq hb43 (congrArg nx e49).symm
  refine E_aload_n 0 dX3_init_29 rfl rfl ?_
  refine E_bipush (7 : Int32) dX3_init_30 (by decide) ?_
  refine E_newaI 7 dX3_init_32 ac_int (by decide) (by decide) (by decide) ?_
  obtain ⟨τ55, e56⟩ : ∃ τ : AH, τ = (aw τ48 100 7) := ⟨_, rfl⟩
  replace h := h τ55 e56
  rw [← e56]
  have hk58 : kd _ x0 = (3, NO 3) := (congrFun (congrArg kd e56) _).trans ((up_ne _ _ _ (Nat.ne_of_lt hb52)).trans hk51)
  have hb59 := Nat.lt_of_lt_of_eq (Nat.lt_succ_of_lt hb52) (congrArg nx e56).symm
  have hk60 : kd _ x1 = (9, NO 9) := (congrFun (congrArg kd e56) _).trans ((up_ne _ _ _ (Nat.ne_of_lt hb54)).trans hk53)
  have hb61 := Nat.lt_of_lt_of_eq (Nat.lt_succ_of_lt hb54) (congrArg nx e56).symm
  have hk62 : kd _ (nx τ48) = (100, 7) := (congrFun (congrArg kd e56) _).trans (up_same _ _ _)
  have hb63 := Nat.lt_of_lt_of_eq (Nat.lt_succ_self _) (congrArg nx e56).symm
  obtain ⟨ga64, h⟩ := h
  obtain ⟨g65, h⟩ := h
  refine E_putR dX3_init_34 fl_X3_21 rfl (Or.inr ⟨rfl, rfl, rfl⟩) hk58 hb59 ga64 g65 ?_
  obtain ⟨τ66, e67⟩ : ∃ τ : AH, τ = (sR τ55 x0 4 (some (nx τ48))) := ⟨_, rfl⟩
  replace h := h τ66 e67
  rw [← e67]
  have hk69 : kd _ x0 = (3, NO 3) := (congrFun (congrArg kd e67) _).trans hk58
  have hb70 := Nat.lt_of_lt_of_eq hb59 (congrArg nx e67).symm
  have hk71 : kd _ x1 = (9, NO 9) := (congrFun (congrArg kd e67) _).trans hk60
  have hb72 := Nat.lt_of_lt_of_eq hb61 (congrArg nx e67).symm
  refine E_aload_n 0 dX3_init_37 rfl rfl ?_
  refine E_bipush (64 : Int32) dX3_init_38 (by decide) ?_
  refine E_newaL 64 dX3_init_40 ac_long (by decide) (by decide) (by decide) ?_
  obtain ⟨τ73, e74⟩ : ∃ τ : AH, τ = (aw τ66 102 64) := ⟨_, rfl⟩
  replace h := h τ73 e74
  rw [← e74]
  have hk76 : kd _ x0 = (3, NO 3) := (congrFun (congrArg kd e74) _).trans ((up_ne _ _ _ (Nat.ne_of_lt hb70)).trans hk69)
  have hb77 := Nat.lt_of_lt_of_eq (Nat.lt_succ_of_lt hb70) (congrArg nx e74).symm
  have hk78 : kd _ x1 = (9, NO 9) := (congrFun (congrArg kd e74) _).trans ((up_ne _ _ _ (Nat.ne_of_lt hb72)).trans hk71)
  have hb79 := Nat.lt_of_lt_of_eq (Nat.lt_succ_of_lt hb72) (congrArg nx e74).symm
  have hk80 : kd _ (nx τ66) = (102, 64) := (congrFun (congrArg kd e74) _).trans (up_same _ _ _)
  have hb81 := Nat.lt_of_lt_of_eq (Nat.lt_succ_self _) (congrArg nx e74).symm
  obtain ⟨ga82, h⟩ := h
  obtain ⟨g83, h⟩ := h
  refine E_putR dX3_init_42 fl_X3_24 rfl (Or.inr ⟨rfl, rfl, rfl⟩) hk76 hb77 ga82 g83 ?_
  obtain ⟨τ84, e85⟩ : ∃ τ : AH, τ = (sR τ73 x0 5 (some (nx τ66))) := ⟨_, rfl⟩
  replace h := h τ84 e85
  rw [← e85]
  have hk87 : kd _ x0 = (3, NO 3) := (congrFun (congrArg kd e85) _).trans hk76
  have hb88 := Nat.lt_of_lt_of_eq hb77 (congrArg nx e85).symm
  have hk89 : kd _ x1 = (9, NO 9) := (congrFun (congrArg kd e85) _).trans hk78
  have hb90 := Nat.lt_of_lt_of_eq hb79 (congrArg nx e85).symm
  refine E_aload_n 0 dX3_init_45 rfl rfl ?_
  refine E_iconst (-1 : Int32) dX3_init_46 (by decide) ?_
  obtain ⟨ga91, h⟩ := h
  refine E_putI dX3_init_47 fl_X3_28 rfl (Or.inl rfl) hk87 hb88 ga91 rfl rfl ?_
  refine E_aload_n 0 dX3_init_50 rfl rfl ?_
  refine E_aload_n 1 dX3_init_51 rfl rfl ?_
  obtain ⟨ga92, h⟩ := h
  obtain ⟨g93, h⟩ := h
  refine E_putR dX3_init_52 fl_X3_32 rfl (Or.inr ⟨rfl, rfl, rfl⟩) hk87 hb88 ga92 g93 ?_
  obtain ⟨τ94, e95⟩ : ∃ τ : AH, τ = (sR (sI τ84 x0 6 (-1 : Int32)) x0 0 (some x1)) := ⟨_, rfl⟩
  replace h := h τ94 e95
  rw [← e95]
  have hk97 : kd _ x0 = (3, NO 3) := (congrFun (congrArg kd e95) _).trans hk87
  have hb98 := Nat.lt_of_lt_of_eq hb88 (congrArg nx e95).symm
  have hk99 : kd _ x1 = (9, NO 9) := (congrFun (congrArg kd e95) _).trans hk89
  have hb100 := Nat.lt_of_lt_of_eq hb90 (congrArg nx e95).symm
  refine E_aload_n 0 dX3_init_55 rfl rfl ?_
  obtain ⟨b101, n105, g102, hk103, hb104, h⟩ := h
  refine E_getR b101 dX3_init_56 fl_X3_9 rfl hk97 hb98 g102 ?_
  refine E_iconst (-1 : Int32) dX3_init_59 (by decide) ?_
  obtain ⟨ga107, h⟩ := h
  obtain ⟨g106, h⟩ := h
  obtain ⟨g115, h⟩ := h
  refine E_fill dX3_init_60 ml_X3_36 hk103 hb104 ga107 g106 g115 (Nat.le_of_ble_eq_true rfl) ?_
  obtain ⟨τ108, e109⟩ : ∃ τ : AH, τ = (sA τ94 b101 (filln (gI τ94 b101) n105 (-1 : Int32))) := ⟨_, rfl⟩
  replace h := h τ108 e109
  rw [← e109]
  have hk111 : kd _ x0 = (3, NO 3) := (congrFun (congrArg kd e109) _).trans hk97
  have hb112 := Nat.lt_of_lt_of_eq hb98 (congrArg nx e109).symm
  have hk113 : kd _ x1 = (9, NO 9) := (congrFun (congrArg kd e109) _).trans hk99
  have hb114 := Nat.lt_of_lt_of_eq hb100 (congrArg nx e109).symm
  obtain ⟨rfl, rfl⟩ := h
  exact E_vret dX3_init_63 rfl
def W_X3_reread_0 (X : Sx) (l : Launch) (D : Nat) (σ : AH) (r : Option Value) (σ' : AH) : Prop := 1 ≤ D ∧ (∀ τ2 : AH, τ2 = (sA σ 29 (filln (gI σ 29) 63 (-1 : Int32))) → E X l m_X3_reread D 10 [(0, .ref 28), (1, .int (0 : Int32))] [] τ2 r σ')
set_option maxRecDepth 100000 in
theorem w_X3_reread_0 {X : Sx} {l : Launch} {D : Nat} {σ : AH} {r : Option Value} {σ' : AH} (hs : Sh σ) (h : W_X3_reread_0 X l D σ r σ') : E X l m_X3_reread D 0 [(0, .ref 28)] [] σ r σ' := by
  unfold W_X3_reread_0 at h
  refine E_aload_n 0 dX3_reread_0 rfl rfl ?_
  refine E_getR 29 dX3_reread_1 fl_X3_9 rfl (sk_28 hs) (sn hs (by decide)) (sr_28_1 hs) ?_
  refine E_iconst (-1 : Int32) dX3_reread_4 (by decide) ?_
  obtain ⟨g1, h⟩ := h
  refine E_fill dX3_reread_5 ml_X3_36 (sk_29 hs) (sn hs (by decide)) (Or.inl (by decide)) g1 (by decide) (Nat.le_of_ble_eq_true rfl) ?_
  obtain ⟨τ2, e3⟩ : ∃ τ : AH, τ = (sA σ 29 (filln (gI σ 29) 63 (-1 : Int32))) := ⟨_, rfl⟩
  replace h := h τ2 e3
  rw [← e3]
  have hs4 : Sh τ2 := by rw [e3]; exact hs
  refine E_iconst (0 : Int32) dX3_reread_8 (by decide) ?_
  refine E_istore_n [(1, .int (0 : Int32)), (0, .ref 28)] dX3_reread_9 rfl (by decide) rfl ?_
  exact E_lv [1, 0] rfl h
def W_X3_reread_10 (X : Sx) (l : Launch) (D : Nat) (x1 : Int32) (σ : AH) (r : Option Value) (σ' : AH) : Prop := (if (gI σ 1 1) ≤ x1 then (r = none ∧ σ' = (sI σ 28 6 (-1 : Int32))) else vp_in x1 24 ∧ (gR σ 2 x1.toNatClampNeg = none → E X l m_X3_reread D 33 [(0, .ref 28), (1, .int x1), (2, .null), (3, .int (0 : Int32))] [] σ r σ') ∧ ∀ b5 : Nat, gR σ 2 x1.toNatClampNeg = some b5 → kd σ b5 = (0, NO 0) ∧ b5 < nx σ ∧ E X l m_X3_reread D 33 [(0, .ref 28), (1, .int x1), (2, .ref b5), (3, .int (0 : Int32))] [] σ r σ')
set_option maxRecDepth 100000 in
theorem w_X3_reread_10 {X : Sx} {l : Launch} {D : Nat} {x1 : Int32} {σ : AH} {r : Option Value} {σ' : AH} (hs : Sh σ) (h : W_X3_reread_10 X l D x1 σ r σ') : E X l m_X3_reread D 10 [(0, .ref 28), (1, .int x1)] [] σ r σ' := by
  unfold W_X3_reread_10 at h
  refine E_iload_n 1 dX3_reread_10 rfl rfl ?_
  refine E_aload_n 0 dX3_reread_11 rfl rfl ?_
  refine E_getR 1 dX3_reread_12 fl_X3_32 rfl (sk_28 hs) (sn hs (by decide)) (sr_28_0 hs) ?_
  refine E_getI dX3_reread_15 fl_X3_42 rfl (sk_1 hs) (sn hs (by decide)) ?_
  refine E_icmp_ge 96 dX3_reread_18 (by decide) (fun c => ?_) (fun c => ?_)
  · rw [if_pos c] at h
    refine E_aload_n 0 dX3_reread_96 rfl rfl ?_
    refine E_iconst (-1 : Int32) dX3_reread_97 (by decide) ?_
    refine E_putI dX3_reread_98 fl_X3_28 rfl (Or.inl rfl) (sk_28 hs) (sn hs (by decide)) (Or.inl (by decide)) rfl rfl ?_
    obtain ⟨rfl, rfl⟩ := h
    exact E_vret dX3_reread_101 rfl
  · rw [if_neg c] at h
    refine E_aload_n 0 dX3_reread_21 rfl rfl ?_
    refine E_getR 1 dX3_reread_22 fl_X3_32 rfl (sk_28 hs) (sn hs (by decide)) (sr_28_0 hs) ?_
    refine E_getR 2 dX3_reread_25 fl_X3_47 rfl (sk_1 hs) (sn hs (by decide)) (sr_1_0 hs) ?_
    refine E_iload_n 1 dX3_reread_28 rfl rfl ?_
    obtain ⟨g9, h0, h1⟩ := h
    rcases q10 : gR σ 2 x1.toNatClampNeg with _ | b5
    · have h := h0 q10
      refine E_aaldN dX3_reread_29 (sk_2 hs) (sn hs (by decide)) (Or.inl rfl) g9 q10 ?_
      refine E_astore_nN [(2, .null), (0, .ref 28), (1, .int x1)] dX3_reread_30 rfl (by decide) rfl ?_
      refine E_iconst (0 : Int32) dX3_reread_31 (by decide) ?_
      refine E_istore_n [(3, .int (0 : Int32)), (2, .null), (0, .ref 28), (1, .int x1)] dX3_reread_32 rfl (by decide) rfl ?_
      exact E_lv [2, 3, 1, 0] rfl h
    · obtain ⟨hk7, hb8, h⟩ := h1 b5 q10
      refine E_aald b5 dX3_reread_29 (sk_2 hs) (sn hs (by decide)) (Or.inl rfl) g9 q10 ?_
      refine E_astore_n [(2, .ref b5), (0, .ref 28), (1, .int x1)] dX3_reread_30 rfl (by decide) rfl ?_
      refine E_iconst (0 : Int32) dX3_reread_31 (by decide) ?_
      refine E_istore_n [(3, .int (0 : Int32)), (2, .ref b5), (0, .ref 28), (1, .int x1)] dX3_reread_32 rfl (by decide) rfl ?_
      exact E_lv [2, 3, 1, 0] rfl h
def W_X3_reread_90 (X : Sx) (l : Launch) (D : Nat) (x1 : Int32) (σ : AH) (r : Option Value) (σ' : AH) : Prop := E X l m_X3_reread D 10 [(0, .ref 28), (1, .int (x1 + 1))] [] σ r σ'
set_option maxRecDepth 100000 in
theorem w_X3_reread_90 {X : Sx} {l : Launch} {D : Nat} {x1 : Int32} {σ : AH} {r : Option Value} {σ' : AH} (hs : Sh σ) (h : W_X3_reread_90 X l D x1 σ r σ') : E X l m_X3_reread D 90 [(0, .ref 28), (1, .int x1)] [] σ r σ' := by
  unfold W_X3_reread_90 at h
  refine E_iinc 1 (x1 + 1) [(1, .int (x1 + 1)), (0, .ref 28)] dX3_reread_90 rfl (congrArg (x1 + ·) (by decide : Int32.ofInt 1 = 1)) (by decide) rfl ?_
  refine E_goto 10 dX3_reread_93 (by decide) ?_
  exact E_lv [1, 0] rfl h
def W_X3_reread_33 (X : Sx) (l : Launch) (D : Nat) (x1 : Int32) (x2 : Nat) (x3 : Int32) (σ : AH) (r : Option Value) (σ' : AH) : Prop := kd σ x2 = (0, NO 0) ∧ x2 < nx σ ∧ (if (gI σ x2 2) ≤ x3 then W_X3_reread_90 X l D x1 σ r σ' else ∃ b11 n15 : Nat, gR σ x2 3 = some b11 ∧ kd σ b11 = (100, n15) ∧ b11 < nx σ ∧ vp_in x3 n15 ∧ vp_in (gI σ b11 x3.toNatClampNeg) 63 ∧ vp_in ((x1 * (16 : Int32)) + x3) 384 ∧ ∃ b19 n23 : Nat, gR (sI σ 30 (((x1 * (16 : Int32)) + x3).toNatClampNeg) (gI σ 29 (gI σ b11 x3.toNatClampNeg).toNatClampNeg)) x2 3 = some b19 ∧ kd (sI σ 30 (((x1 * (16 : Int32)) + x3).toNatClampNeg) (gI σ 29 (gI σ b11 x3.toNatClampNeg).toNatClampNeg)) b19 = (100, n23) ∧ b19 < nx (sI σ 30 (((x1 * (16 : Int32)) + x3).toNatClampNeg) (gI σ 29 (gI σ b11 x3.toNatClampNeg).toNatClampNeg)) ∧ vp_in x3 n23 ∧ vp_in (gI (sI σ 30 (((x1 * (16 : Int32)) + x3).toNatClampNeg) (gI σ 29 (gI σ b11 x3.toNatClampNeg).toNatClampNeg)) b19 x3.toNatClampNeg) 63 ∧ (∀ τ26 : AH, τ26 = (sI (sI σ 30 (((x1 * (16 : Int32)) + x3).toNatClampNeg) (gI σ 29 (gI σ b11 x3.toNatClampNeg).toNatClampNeg)) 29 ((gI (sI σ 30 (((x1 * (16 : Int32)) + x3).toNatClampNeg) (gI σ 29 (gI σ b11 x3.toNatClampNeg).toNatClampNeg)) b19 x3.toNatClampNeg).toNatClampNeg) ((x1 * (16 : Int32)) + x3)) → E X l m_X3_reread D 33 [(0, .ref 28), (1, .int x1), (2, .ref x2), (3, .int (x3 + 1))] [] τ26 r σ'))
set_option maxRecDepth 100000 in
theorem w_X3_reread_33 {X : Sx} {l : Launch} {D : Nat} {x1 : Int32} {x2 : Nat} {x3 : Int32} {σ : AH} {r : Option Value} {σ' : AH} (hs : Sh σ) (h : W_X3_reread_33 X l D x1 x2 x3 σ r σ') : E X l m_X3_reread D 33 [(0, .ref 28), (1, .int x1), (2, .ref x2), (3, .int x3)] [] σ r σ' := by
  unfold W_X3_reread_33 at h
  obtain ⟨hkx2, hbx2, h⟩ := h
  refine E_aload_n 2 dX3_reread_33 rfl rfl ?_
  refine E_ifnull dX3_reread_34 ?_
  refine E_iload_n 3 dX3_reread_37 rfl rfl ?_
  refine E_aload_n 2 dX3_reread_38 rfl rfl ?_
  refine E_getI dX3_reread_39 fl_X3_51 rfl hkx2 hbx2 ?_
  refine E_icmp_ge 90 dX3_reread_42 (by decide) (fun c => ?_) (fun c => ?_)
  · rw [if_pos c] at h
    exact E_lv [0, 1] rfl (w_X3_reread_90 hs h)
  · rw [if_neg c] at h
    refine E_iload_n 1 dX3_reread_45 rfl rfl ?_
    refine E_bipush (16 : Int32) dX3_reread_46 (by decide) ?_
    refine E_imul dX3_reread_48 ?_
    refine E_iload_n 3 dX3_reread_49 rfl rfl ?_
    refine E_iadd dX3_reread_50 ?_
    refine E_istore [(4, .int ((x1 * (16 : Int32)) + x3)), (0, .ref 28), (1, .int x1), (2, .ref x2), (3, .int x3)] dX3_reread_51 (by decide) rfl ?_
    refine E_aload_n 1 dX3_reread_53 rfl rfl ?_
    refine E_getR 30 dX3_reread_54 fl_X3_15 rfl (sk_28 hs) (sn hs (by decide)) (sr_28_2 hs) ?_
    refine E_iload 0 dX3_reread_57 rfl ?_
    refine E_aload_n 1 dX3_reread_59 rfl rfl ?_
    refine E_getR 29 dX3_reread_60 fl_X3_9 rfl (sk_28 hs) (sn hs (by decide)) (sr_28_1 hs) ?_
    refine E_aload_n 3 dX3_reread_63 rfl rfl ?_
    obtain ⟨b11, n15, g12, hk13, hb14, h⟩ := h
    refine E_getR b11 dX3_reread_64 fl_X3_56 rfl hkx2 hbx2 g12 ?_
    refine E_iload_n 4 dX3_reread_67 rfl rfl ?_
    obtain ⟨g16, h⟩ := h
    refine E_iald2 (x3.toNatClampNeg) dX3_reread_68 hk13 hb14 g16 rfl ?_
    obtain ⟨g17, h⟩ := h
    refine E_iald2 ((gI σ b11 x3.toNatClampNeg).toNatClampNeg) dX3_reread_69 (sk_29 hs) (sn hs (by decide)) g17 rfl ?_
    obtain ⟨g18, h⟩ := h
    refine E_iast2 (((x1 * (16 : Int32)) + x3).toNatClampNeg) dX3_reread_70 (sk_30 hs) (sn hs (by decide)) (Or.inl (by decide)) g18 rfl ?_
    refine E_aload_n 1 dX3_reread_71 rfl rfl ?_
    refine E_getR 29 dX3_reread_72 fl_X3_9 rfl (sk_28 hs) (sn hs (by decide)) (sr_28_1 hs) ?_
    refine E_aload_n 3 dX3_reread_75 rfl rfl ?_
    obtain ⟨b19, n23, g20, hk21, hb22, h⟩ := h
    refine E_getR b19 dX3_reread_76 fl_X3_56 rfl hkx2 hbx2 g20 ?_
    refine E_iload_n 4 dX3_reread_79 rfl rfl ?_
    obtain ⟨g24, h⟩ := h
    refine E_iald2 (x3.toNatClampNeg) dX3_reread_80 hk21 hb22 g24 rfl ?_
    refine E_iload 0 dX3_reread_81 rfl ?_
    obtain ⟨g25, h⟩ := h
    refine E_iast2 ((gI (sI σ 30 (((x1 * (16 : Int32)) + x3).toNatClampNeg) (gI σ 29 (gI σ b11 x3.toNatClampNeg).toNatClampNeg)) b19 x3.toNatClampNeg).toNatClampNeg) dX3_reread_83 (sk_29 hs) (sn hs (by decide)) (Or.inl (by decide)) g25 rfl ?_
    obtain ⟨τ26, e27⟩ : ∃ τ : AH, τ = (sI (sI σ 30 (((x1 * (16 : Int32)) + x3).toNatClampNeg) (gI σ 29 (gI σ b11 x3.toNatClampNeg).toNatClampNeg)) 29 ((gI (sI σ 30 (((x1 * (16 : Int32)) + x3).toNatClampNeg) (gI σ 29 (gI σ b11 x3.toNatClampNeg).toNatClampNeg)) b19 x3.toNatClampNeg).toNatClampNeg) ((x1 * (16 : Int32)) + x3)) := ⟨_, rfl⟩
    replace h := h τ26 e27
    rw [← e27]
    have hs28 : Sh τ26 := by rw [e27]; exact hs
    have hk29 : kd _ x2 = (0, NO 0) := (congrFun (congrArg kd e27) _).trans hkx2
    have hb30 := Nat.lt_of_lt_of_eq hbx2 (congrArg nx e27).symm
    refine E_iinc 4 (x3 + 1) [(3, .int (x3 + 1)), (4, .int ((x1 * (16 : Int32)) + x3)), (0, .ref 28), (1, .int x1), (2, .ref x2)] dX3_reread_84 rfl (congrArg (x3 + ·) (by decide : Int32.ofInt 1 = 1)) (by decide) rfl ?_
    refine E_goto 33 dX3_reread_87 (by decide) ?_
    exact E_lv [2, 3, 4, 0] rfl h
def W_X3_reread_33b (X : Sx) (l : Launch) (D : Nat) (x1 : Int32) (x3 : Int32) (σ : AH) (r : Option Value) (σ' : AH) : Prop := W_X3_reread_90 X l D x1 σ r σ'
set_option maxRecDepth 100000 in
theorem w_X3_reread_33b {X : Sx} {l : Launch} {D : Nat} {x1 : Int32} {x3 : Int32} {σ : AH} {r : Option Value} {σ' : AH} (hs : Sh σ) (h : W_X3_reread_33b X l D x1 x3 σ r σ') : E X l m_X3_reread D 33 [(0, .ref 28), (1, .int x1), (2, .null), (3, .int x3)] [] σ r σ' := by
  unfold W_X3_reread_33b at h
  refine E_aload_nN 2 dX3_reread_33 rfl rfl ?_
  refine E_ifnullN 90 dX3_reread_34 (by decide) ?_
  exact E_lv [0, 1] rfl (w_X3_reread_90 hs h)
def W_X3_settle_0 (X : Sx) (l : Launch) (D : Nat) (x1 : Int32) (x2 : Int32) (σ : AH) (r : Option Value) (σ' : AH) : Prop := E X l m_X3_settle D 5 [(0, .ref 28), (1, .int x1), (2, .int x2), (3, .int (0 : Int32)), (4, .int (0 : Int32))] [] σ r σ'
set_option maxRecDepth 100000 in
theorem w_X3_settle_0 {X : Sx} {l : Launch} {D : Nat} {x1 : Int32} {x2 : Int32} {σ : AH} {r : Option Value} {σ' : AH} (hs : Sh σ) (h : W_X3_settle_0 X l D x1 x2 σ r σ') : E X l m_X3_settle D 0 [(0, .ref 28), (1, .int x1), (2, .int x2)] [] σ r σ' := by
  unfold W_X3_settle_0 at h
  refine E_iconst (0 : Int32) dX3_settle_0 (by decide) ?_
  refine E_istore_n [(3, .int (0 : Int32)), (0, .ref 28), (1, .int x1), (2, .int x2)] dX3_settle_1 rfl (by decide) rfl ?_
  refine E_iconst (0 : Int32) dX3_settle_2 (by decide) ?_
  refine E_istore [(4, .int (0 : Int32)), (3, .int (0 : Int32)), (0, .ref 28), (1, .int x1), (2, .int x2)] dX3_settle_3 (by decide) rfl ?_
  exact E_lv [2, 3, 4, 1, 0] rfl h
def W_X3_settle_59 (X : Sx) (l : Launch) (D : Nat) (x1 : Int32) (x2 : Int32) (x3 : Int32) (x4 : Int32) (σ : AH) (r : Option Value) (σ' : AH) : Prop := E X l m_X3_settle D 5 [(0, .ref 28), (1, .int x1), (2, .int x2), (3, .int x3), (4, .int (x4 + 1))] [] σ r σ'
set_option maxRecDepth 100000 in
theorem w_X3_settle_59 {X : Sx} {l : Launch} {D : Nat} {x1 : Int32} {x2 : Int32} {x3 : Int32} {x4 : Int32} {σ : AH} {r : Option Value} {σ' : AH} (hs : Sh σ) (h : W_X3_settle_59 X l D x1 x2 x3 x4 σ r σ') : E X l m_X3_settle D 59 [(0, .ref 28), (1, .int x1), (2, .int x2), (3, .int x3), (4, .int x4)] [] σ r σ' := by
  unfold W_X3_settle_59 at h
  refine E_iinc 4 (x4 + 1) [(4, .int (x4 + 1)), (0, .ref 28), (1, .int x1), (2, .int x2), (3, .int x3)] dX3_settle_59 rfl (congrArg (x4 + ·) (by decide : Int32.ofInt 1 = 1)) (by decide) rfl ?_
  refine E_goto 5 dX3_settle_62 (by decide) ?_
  exact E_lv [1, 2, 3, 4, 0] rfl h
def W_X3_settle_5 (X : Sx) (l : Launch) (D : Nat) (x1 : Int32) (x2 : Int32) (x3 : Int32) (x4 : Int32) (σ : AH) (r : Option Value) (σ' : AH) : Prop := (if (gI σ 1 1) ≤ x4 then (if x3 = (gI σ 28 6) then (r = none ∧ σ' = σ) else ∃ d1 : Nat, ∃ σ2 : AH, d1 + 1 ≤ D ∧ Call X l m_X3_findForced d1 [.ref 28, .int x3] (sI σ 28 6 x3) none σ2 ∧ (r = none ∧ σ' = σ2)) else vp_in x4 24 ∧ (gR σ 2 x4.toNatClampNeg = none → W_X3_settle_59 X l D x1 x2 x3 x4 σ r σ') ∧ ∀ b6 : Nat, gR σ 2 x4.toNatClampNeg = some b6 → kd σ b6 = (0, NO 0) ∧ b6 < nx σ ∧ (if x2 < (gI σ b6 1) then W_X3_settle_59 X l D x1 x2 x3 x4 σ r σ' else (if x1 < (gI σ b6 0) then W_X3_settle_59 X l D x1 x2 x3 x4 σ r σ' else W_X3_settle_59 X l D x1 x2 (x3 ||| ((1 : Int32) <<< (x4 &&& 31))) x4 σ r σ')))
set_option maxRecDepth 100000 in
theorem w_X3_settle_5 {X : Sx} {l : Launch} {D : Nat} {x1 : Int32} {x2 : Int32} {x3 : Int32} {x4 : Int32} {σ : AH} {r : Option Value} {σ' : AH} (hs : Sh σ) (h : W_X3_settle_5 X l D x1 x2 x3 x4 σ r σ') : E X l m_X3_settle D 5 [(0, .ref 28), (1, .int x1), (2, .int x2), (3, .int x3), (4, .int x4)] [] σ r σ' := by
  unfold W_X3_settle_5 at h
  refine E_iload 4 dX3_settle_5 rfl ?_
  refine E_aload_n 0 dX3_settle_7 rfl rfl ?_
  refine E_getR 1 dX3_settle_8 fl_X3_32 rfl (sk_28 hs) (sn hs (by decide)) (sr_28_0 hs) ?_
  refine E_getI dX3_settle_11 fl_X3_42 rfl (sk_1 hs) (sn hs (by decide)) ?_
  refine E_icmp_ge 65 dX3_settle_14 (by decide) (fun c => ?_) (fun c => ?_)
  · rw [if_pos c] at h
    refine E_iload_n 3 dX3_settle_65 rfl rfl ?_
    refine E_aload_n 0 dX3_settle_66 rfl rfl ?_
    refine E_getI dX3_settle_67 fl_X3_28 rfl (sk_28 hs) (sn hs (by decide)) ?_
    refine E_icmp_eq 83 dX3_settle_70 (by decide) (fun c => ?_) (fun c => ?_)
    · rw [if_pos c] at h
      obtain ⟨rfl, rfl⟩ := h
      exact E_vret dX3_settle_83 rfl
    · rw [if_neg c] at h
      refine E_aload_n 0 dX3_settle_73 rfl rfl ?_
      refine E_iload_n 3 dX3_settle_74 rfl rfl ?_
      refine E_putI dX3_settle_75 fl_X3_28 rfl (Or.inl rfl) (sk_28 hs) (sn hs (by decide)) (Or.inl (by decide)) rfl rfl ?_
      refine E_aload_n 0 dX3_settle_78 rfl rfl ?_
      refine E_iload_n 3 dX3_settle_79 rfl rfl ?_
      obtain ⟨d1, σ2, hD3, hC4, h⟩ := h
      have hs5 := hC4.1.2.2.2.1 hs
      refine E_callV (As := [.int x3]) (rest := []) (r1 := none) (b := 28) dX3_settle_80 ok_X3_findForced in_X3_findForced se_X3_findForced ml_X3_65 hD3 rfl rfl (Nat.le_of_ble_eq_true rfl) (sk_28 hs) (sn hs (by decide)) (by decide) rfl (by decide +kernel) hC4 ?_
      obtain ⟨rfl, rfl⟩ := h
      exact E_vret dX3_settle_83 rfl
  · rw [if_neg c] at h
    refine E_aload_n 0 dX3_settle_17 rfl rfl ?_
    refine E_getR 1 dX3_settle_18 fl_X3_32 rfl (sk_28 hs) (sn hs (by decide)) (sr_28_0 hs) ?_
    refine E_getR 2 dX3_settle_21 fl_X3_47 rfl (sk_1 hs) (sn hs (by decide)) (sr_1_0 hs) ?_
    refine E_iload 4 dX3_settle_24 rfl ?_
    obtain ⟨g10, h0, h1⟩ := h
    rcases q11 : gR σ 2 x4.toNatClampNeg with _ | b6
    · have h := h0 q11
      refine E_aaldN dX3_settle_26 (sk_2 hs) (sn hs (by decide)) (Or.inl rfl) g10 q11 ?_
      refine E_astoreN [(5, .null), (0, .ref 28), (1, .int x1), (2, .int x2), (3, .int x3), (4, .int x4)] dX3_settle_27 (by decide) rfl ?_
      refine E_aloadN 0 dX3_settle_29 rfl ?_
      refine E_ifnullN 59 dX3_settle_31 (by decide) ?_
      exact E_lv [1, 2, 3, 4, 5] rfl (w_X3_settle_59 hs h)
    · obtain ⟨hk8, hb9, h⟩ := h1 b6 q11
      refine E_aald b6 dX3_settle_26 (sk_2 hs) (sn hs (by decide)) (Or.inl rfl) g10 q11 ?_
      refine E_astore [(5, .ref b6), (0, .ref 28), (1, .int x1), (2, .int x2), (3, .int x3), (4, .int x4)] dX3_settle_27 (by decide) rfl ?_
      refine E_aload 0 dX3_settle_29 rfl ?_
      refine E_ifnull dX3_settle_31 ?_
      refine E_aload 0 dX3_settle_34 rfl ?_
      refine E_getI dX3_settle_36 fl_X3_59 rfl hk8 hb9 ?_
      refine E_iload_n 3 dX3_settle_39 rfl rfl ?_
      refine E_icmp_gt 59 dX3_settle_40 (by decide) (fun c => ?_) (fun c => ?_)
      · rw [if_pos c] at h
        exact E_lv [1, 2, 3, 4, 5] rfl (w_X3_settle_59 hs h)
      · rw [if_neg c] at h
        refine E_aload 0 dX3_settle_43 rfl ?_
        refine E_getI dX3_settle_45 fl_X3_62 rfl hk8 hb9 ?_
        refine E_iload_n 2 dX3_settle_48 rfl rfl ?_
        refine E_icmp_gt 59 dX3_settle_49 (by decide) (fun c => ?_) (fun c => ?_)
        · rw [if_pos c] at h
          exact E_lv [1, 2, 3, 4, 5] rfl (w_X3_settle_59 hs h)
        · rw [if_neg c] at h
          refine E_iload_n 4 dX3_settle_52 rfl rfl ?_
          refine E_iconst (1 : Int32) dX3_settle_53 (by decide) ?_
          refine E_iload 5 dX3_settle_54 rfl ?_
          refine E_ishl dX3_settle_56 ?_
          refine E_ior dX3_settle_57 ?_
          refine E_istore_n [(3, .int (x3 ||| ((1 : Int32) <<< (x4 &&& 31)))), (5, .ref b6), (0, .ref 28), (1, .int x1), (2, .int x2), (4, .int x4)] dX3_settle_58 rfl (by decide) rfl ?_
          exact E_lv [2, 3, 4, 0, 5] rfl (w_X3_settle_59 hs h)
def W_X3_findForced_0 (X : Sx) (l : Launch) (D : Nat) (x1 : Int32) (σ : AH) (r : Option Value) (σ' : AH) : Prop := 1 ≤ D ∧ (∀ τ2 : AH, τ2 = (sA σ 31 (filln (gI σ 31) 24 (65535 : Int32))) → E X l m_X3_findForced D 19 [(0, .ref 28), (1, .int x1), (2, .int ((gI τ2 1 1) - (1 : Int32)))] [] τ2 r σ')
set_option maxRecDepth 100000 in
theorem w_X3_findForced_0 {X : Sx} {l : Launch} {D : Nat} {x1 : Int32} {σ : AH} {r : Option Value} {σ' : AH} (hs : Sh σ) (h : W_X3_findForced_0 X l D x1 σ r σ') : E X l m_X3_findForced D 0 [(0, .ref 28), (1, .int x1)] [] σ r σ' := by
  unfold W_X3_findForced_0 at h
  refine E_aload_n 0 dX3_findForced_0 rfl rfl ?_
  refine E_getR 31 dX3_findForced_1 fl_X3_18 rfl (sk_28 hs) (sn hs (by decide)) (sr_28_3 hs) ?_
  refine E_ldc (65535 : Int32) dX3_findForced_4 ct_X3_69 ?_
  obtain ⟨g1, h⟩ := h
  refine E_fill dX3_findForced_6 ml_X3_36 (sk_31 hs) (sn hs (by decide)) (Or.inl (by decide)) g1 (by decide) (Nat.le_of_ble_eq_true rfl) ?_
  obtain ⟨τ2, e3⟩ : ∃ τ : AH, τ = (sA σ 31 (filln (gI σ 31) 24 (65535 : Int32))) := ⟨_, rfl⟩
  replace h := h τ2 e3
  rw [← e3]
  have hs4 : Sh τ2 := by rw [e3]; exact hs
  refine E_aload_n 0 dX3_findForced_9 rfl rfl ?_
  refine E_getR 1 dX3_findForced_10 fl_X3_32 rfl (sk_28 hs4) (sn hs4 (by decide)) (sr_28_0 hs4) ?_
  refine E_getI dX3_findForced_13 fl_X3_42 rfl (sk_1 hs4) (sn hs4 (by decide)) ?_
  refine E_iconst (1 : Int32) dX3_findForced_16 (by decide) ?_
  refine E_isub dX3_findForced_17 ?_
  refine E_istore_n [(2, .int ((gI τ2 1 1) - (1 : Int32))), (0, .ref 28), (1, .int x1)] dX3_findForced_18 rfl (by decide) rfl ?_
  exact E_lv [1, 2, 0] rfl h
def W_X3_findForced_137 (X : Sx) (l : Launch) (D : Nat) (x1 : Int32) (x2 : Int32) (σ : AH) (r : Option Value) (σ' : AH) : Prop := E X l m_X3_findForced D 19 [(0, .ref 28), (1, .int x1), (2, .int (x2 + (-1)))] [] σ r σ'
set_option maxRecDepth 100000 in
theorem w_X3_findForced_137 {X : Sx} {l : Launch} {D : Nat} {x1 : Int32} {x2 : Int32} {σ : AH} {r : Option Value} {σ' : AH} (hs : Sh σ) (h : W_X3_findForced_137 X l D x1 x2 σ r σ') : E X l m_X3_findForced D 137 [(0, .ref 28), (1, .int x1), (2, .int x2)] [] σ r σ' := by
  unfold W_X3_findForced_137 at h
  refine E_iinc 2 (x2 + (-1)) [(2, .int (x2 + (-1))), (0, .ref 28), (1, .int x1)] dX3_findForced_137 rfl (congrArg (x2 + ·) (by decide : Int32.ofInt (-1) = -1)) (by decide) rfl ?_
  refine E_goto 19 dX3_findForced_140 (by decide) ?_
  exact E_lv [1, 2, 0] rfl h
def W_X3_findForced_45 (X : Sx) (l : Launch) (D : Nat) (x1 : Int32) (x2 : Int32) (σ : AH) (r : Option Value) (σ' : AH) : Prop := vp_in x2 24 ∧ W_X3_findForced_137 X l D x1 x2 (sI σ 31 x2.toNatClampNeg (0 : Int32)) r σ'
set_option maxRecDepth 100000 in
theorem w_X3_findForced_45 {X : Sx} {l : Launch} {D : Nat} {x1 : Int32} {x2 : Int32} {σ : AH} {r : Option Value} {σ' : AH} (hs : Sh σ) (h : W_X3_findForced_45 X l D x1 x2 σ r σ') : E X l m_X3_findForced D 45 [(0, .ref 28), (1, .int x1), (2, .int x2)] [] σ r σ' := by
  unfold W_X3_findForced_45 at h
  refine E_aload_n 0 dX3_findForced_45 rfl rfl ?_
  refine E_getR 31 dX3_findForced_46 fl_X3_18 rfl (sk_28 hs) (sn hs (by decide)) (sr_28_3 hs) ?_
  refine E_iload_n 2 dX3_findForced_49 rfl rfl ?_
  refine E_iconst (0 : Int32) dX3_findForced_50 (by decide) ?_
  obtain ⟨g44, h⟩ := h
  refine E_iast2 (x2.toNatClampNeg) dX3_findForced_51 (sk_31 hs) (sn hs (by decide)) (Or.inl (by decide)) g44 rfl ?_
  refine E_goto 137 dX3_findForced_52 (by decide) ?_
  exact E_lv [0, 1, 2] rfl (w_X3_findForced_137 hs h)
def W_X3_findForced_19 (X : Sx) (l : Launch) (D : Nat) (x1 : Int32) (x2 : Int32) (σ : AH) (r : Option Value) (σ' : AH) : Prop := (if x2 < 0 then (r = none ∧ σ' = σ) else vp_in x2 24 ∧ (gR σ 2 x2.toNatClampNeg = none → W_X3_findForced_45 X l D x1 x2 σ r σ') ∧ ∀ b5 : Nat, gR σ 2 x2.toNatClampNeg = some b5 → kd σ b5 = (0, NO 0) ∧ b5 < nx σ ∧ (if ((x1 >>> (x2 &&& 31)) &&& (1 : Int32)) = 0 then W_X3_findForced_45 X l D x1 x2 σ r σ' else E X l m_X3_findForced D 58 [(0, .ref 28), (1, .int x1), (2, .int x2), (3, .ref b5), (4, .int (0 : Int32))] [] σ r σ'))
set_option maxRecDepth 100000 in
theorem w_X3_findForced_19 {X : Sx} {l : Launch} {D : Nat} {x1 : Int32} {x2 : Int32} {σ : AH} {r : Option Value} {σ' : AH} (hs : Sh σ) (h : W_X3_findForced_19 X l D x1 x2 σ r σ') : E X l m_X3_findForced D 19 [(0, .ref 28), (1, .int x1), (2, .int x2)] [] σ r σ' := by
  unfold W_X3_findForced_19 at h
  refine E_iload_n 2 dX3_findForced_19 rfl rfl ?_
  refine E_if_lt 143 dX3_findForced_20 (by decide) (fun c => ?_) (fun c => ?_)
  · rw [if_pos c] at h
    obtain ⟨rfl, rfl⟩ := h
    exact E_vret dX3_findForced_143 rfl
  · rw [if_neg c] at h
    refine E_aload_n 0 dX3_findForced_23 rfl rfl ?_
    refine E_getR 1 dX3_findForced_24 fl_X3_32 rfl (sk_28 hs) (sn hs (by decide)) (sr_28_0 hs) ?_
    refine E_getR 2 dX3_findForced_27 fl_X3_47 rfl (sk_1 hs) (sn hs (by decide)) (sr_1_0 hs) ?_
    refine E_iload_n 2 dX3_findForced_30 rfl rfl ?_
    obtain ⟨g9, h0, h1⟩ := h
    rcases q10 : gR σ 2 x2.toNatClampNeg with _ | b5
    · have h := h0 q10
      refine E_aaldN dX3_findForced_31 (sk_2 hs) (sn hs (by decide)) (Or.inl rfl) g9 q10 ?_
      refine E_astore_nN [(3, .null), (0, .ref 28), (1, .int x1), (2, .int x2)] dX3_findForced_32 rfl (by decide) rfl ?_
      refine E_aload_nN 0 dX3_findForced_33 rfl rfl ?_
      refine E_ifnullN 45 dX3_findForced_34 (by decide) ?_
      exact E_lv [1, 2, 3] rfl (w_X3_findForced_45 hs h)
    · obtain ⟨hk7, hb8, h⟩ := h1 b5 q10
      refine E_aald b5 dX3_findForced_31 (sk_2 hs) (sn hs (by decide)) (Or.inl rfl) g9 q10 ?_
      refine E_astore_n [(3, .ref b5), (0, .ref 28), (1, .int x1), (2, .int x2)] dX3_findForced_32 rfl (by decide) rfl ?_
      refine E_aload_n 0 dX3_findForced_33 rfl rfl ?_
      refine E_ifnull dX3_findForced_34 ?_
      refine E_iload_n 2 dX3_findForced_37 rfl rfl ?_
      refine E_iload_n 3 dX3_findForced_38 rfl rfl ?_
      refine E_ishr dX3_findForced_39 ?_
      refine E_iconst (1 : Int32) dX3_findForced_40 (by decide) ?_
      refine E_iand dX3_findForced_41 ?_
      refine E_if_ne 55 dX3_findForced_42 (by decide) (fun c => ?_) (fun c => ?_)
      · rw [if_neg c] at h
        refine E_iconst (0 : Int32) dX3_findForced_55 (by decide) ?_
        refine E_istore [(4, .int (0 : Int32)), (3, .ref b5), (0, .ref 28), (1, .int x1), (2, .int x2)] dX3_findForced_56 (by decide) rfl ?_
        exact E_lv [2, 3, 4, 1, 0] rfl h
      · rw [if_pos c] at h
        exact E_lv [1, 2, 3] rfl (w_X3_findForced_45 hs h)
def W_X3_findForced_131 (X : Sx) (l : Launch) (D : Nat) (x1 : Int32) (x2 : Int32) (x3 : Nat) (x4 : Int32) (σ : AH) (r : Option Value) (σ' : AH) : Prop := kd σ x3 = (0, NO 0) ∧ x3 < nx σ ∧ E X l m_X3_findForced D 58 [(0, .ref 28), (1, .int x1), (2, .int x2), (3, .ref x3), (4, .int (x4 + 1))] [] σ r σ'
set_option maxRecDepth 100000 in
theorem w_X3_findForced_131 {X : Sx} {l : Launch} {D : Nat} {x1 : Int32} {x2 : Int32} {x3 : Nat} {x4 : Int32} {σ : AH} {r : Option Value} {σ' : AH} (hs : Sh σ) (h : W_X3_findForced_131 X l D x1 x2 x3 x4 σ r σ') : E X l m_X3_findForced D 131 [(0, .ref 28), (1, .int x1), (2, .int x2), (3, .ref x3), (4, .int x4)] [] σ r σ' := by
  unfold W_X3_findForced_131 at h
  obtain ⟨hkx3, hbx3, h⟩ := h
  refine E_iinc 4 (x4 + 1) [(4, .int (x4 + 1)), (0, .ref 28), (1, .int x1), (2, .int x2), (3, .ref x3)] dX3_findForced_131 rfl (congrArg (x4 + ·) (by decide : Int32.ofInt 1 = 1)) (by decide) rfl ?_
  refine E_goto 58 dX3_findForced_134 (by decide) ?_
  exact E_lv [1, 2, 3, 4, 0] rfl h
def W_X3_findForced_58 (X : Sx) (l : Launch) (D : Nat) (x1 : Int32) (x2 : Int32) (x3 : Nat) (x4 : Int32) (σ : AH) (r : Option Value) (σ' : AH) : Prop := kd σ x3 = (0, NO 0) ∧ x3 < nx σ ∧ (if (gI σ x3 2) ≤ x4 then W_X3_findForced_137 X l D x1 x2 σ r σ' else ∃ b11 n15 : Nat, gR σ x3 4 = some b11 ∧ kd σ b11 = (100, n15) ∧ b11 < nx σ ∧ vp_in x4 n15 ∧ ∃ b17 n21 : Nat, gR σ x3 3 = some b17 ∧ kd σ b17 = (100, n21) ∧ b17 < nx σ ∧ vp_in x4 n21 ∧ (if (gI σ b17 x4.toNatClampNeg) = (62 : Int32) then ∃ d23 : Nat, ∃ v28 : Int32, ∃ σ24 : AH, d23 + 1 ≤ D ∧ Call X l m_X3_isForced d23 [.ref 28, .int x2, .int x4] σ (some (.int v28)) σ24 ∧ (if v28 = 0 then W_X3_findForced_131 X l D x1 x2 x3 x4 σ24 r σ' else (if x2 ≤ ((gI σ b11 x4.toNatClampNeg) / (16 : Int32)) then W_X3_findForced_131 X l D x1 x2 x3 x4 σ24 r σ' else vp_in ((gI σ b11 x4.toNatClampNeg) / (16 : Int32)) 24 ∧ ∃ b32 n36 : Nat, gR σ24 x3 4 = some b32 ∧ kd σ24 b32 = (100, n36) ∧ b32 < nx σ24 ∧ vp_in x4 n36 ∧ vp_in ((gI σ b11 x4.toNatClampNeg) / (16 : Int32)) 24 ∧ (∀ τ39 : AH, τ39 = (sI σ24 31 (((gI σ b11 x4.toNatClampNeg) / (16 : Int32)).toNatClampNeg) ((gI σ24 31 ((gI σ b11 x4.toNatClampNeg) / (16 : Int32)).toNatClampNeg) &&& (((1 : Int32) <<< (((gI σ24 b32 x4.toNatClampNeg) - (gI σ24 b32 x4.toNatClampNeg) / (16 : Int32) * (16 : Int32)) &&& 31)) ^^^ (-1 : Int32)))) → W_X3_findForced_131 X l D x1 x2 x3 x4 τ39 r σ'))) else W_X3_findForced_131 X l D x1 x2 x3 x4 σ r σ'))
set_option maxRecDepth 100000 in
theorem w_X3_findForced_58 {X : Sx} {l : Launch} {D : Nat} {x1 : Int32} {x2 : Int32} {x3 : Nat} {x4 : Int32} {σ : AH} {r : Option Value} {σ' : AH} (hs : Sh σ) (h : W_X3_findForced_58 X l D x1 x2 x3 x4 σ r σ') : E X l m_X3_findForced D 58 [(0, .ref 28), (1, .int x1), (2, .int x2), (3, .ref x3), (4, .int x4)] [] σ r σ' := by
  unfold W_X3_findForced_58 at h
  obtain ⟨hkx3, hbx3, h⟩ := h
  refine E_iload 4 dX3_findForced_58 rfl ?_
  refine E_aload_n 3 dX3_findForced_60 rfl rfl ?_
  refine E_getI dX3_findForced_61 fl_X3_51 rfl hkx3 hbx3 ?_
  refine E_icmp_ge 137 dX3_findForced_64 (by decide) (fun c => ?_) (fun c => ?_)
  · rw [if_pos c] at h
    exact E_lv [0, 1, 2] rfl (w_X3_findForced_137 hs h)
  · rw [if_neg c] at h
    refine E_aload_n 3 dX3_findForced_67 rfl rfl ?_
    obtain ⟨b11, n15, g12, hk13, hb14, h⟩ := h
    refine E_getR b11 dX3_findForced_68 fl_X3_70 rfl hkx3 hbx3 g12 ?_
    refine E_iload 4 dX3_findForced_71 rfl ?_
    obtain ⟨g16, h⟩ := h
    refine E_iald2 (x4.toNatClampNeg) dX3_findForced_73 hk13 hb14 g16 rfl ?_
    refine E_bipush (16 : Int32) dX3_findForced_74 (by decide) ?_
    refine E_idiv dX3_findForced_76 (by decide) ?_
    refine E_istore [(5, .int ((gI σ b11 x4.toNatClampNeg) / (16 : Int32))), (0, .ref 28), (1, .int x1), (2, .int x2), (3, .ref x3), (4, .int x4)] dX3_findForced_77 (by decide) rfl ?_
    refine E_aload_n 4 dX3_findForced_79 rfl rfl ?_
    obtain ⟨b17, n21, g18, hk19, hb20, h⟩ := h
    refine E_getR b17 dX3_findForced_80 fl_X3_56 rfl hkx3 hbx3 g18 ?_
    refine E_iload 5 dX3_findForced_83 rfl ?_
    obtain ⟨g22, h⟩ := h
    refine E_iald2 (x4.toNatClampNeg) dX3_findForced_85 hk19 hb20 g22 rfl ?_
    refine E_bipush (62 : Int32) dX3_findForced_86 (by decide) ?_
    refine E_icmp_ne 131 dX3_findForced_88 (by decide) (fun c => ?_) (fun c => ?_)
    · rw [if_neg c] at h
      exact E_lv [1, 2, 3, 4, 5] rfl (w_X3_findForced_131 hs h)
    · rw [if_pos c] at h
      refine E_aload_n 1 dX3_findForced_91 rfl rfl ?_
      refine E_iload_n 3 dX3_findForced_92 rfl rfl ?_
      refine E_iload 5 dX3_findForced_93 rfl ?_
      obtain ⟨d23, v28, σ24, hD25, hC26, h⟩ := h
      have hs27 := hC26.1.2.2.2.1 hs
      have hk29 := (hC26.1.2.2.1 _ hbx3).trans hkx3
      have hb30 := Nat.lt_of_lt_of_le hbx3 hC26.1.1
      refine E_callV (As := [.int x2, .int x4]) (rest := []) (r1 := (some (.int v28))) (b := 28) dX3_findForced_95 ok_X3_isForced in_X3_isForced se_X3_isForced ml_X3_73 hD25 rfl rfl (Nat.le_of_ble_eq_true rfl) (sk_28 hs) (sn hs (by decide)) (by decide) rfl (by decide +kernel) hC26 ?_
      refine E_if_eq 131 dX3_findForced_98 (by decide) (fun c => ?_) (fun c => ?_)
      · rw [if_pos c] at h
        exact E_lv [1, 2, 3, 4, 5] rfl (w_X3_findForced_131 hs27 h)
      · rw [if_neg c] at h
        refine E_iload 0 dX3_findForced_101 rfl ?_
        refine E_iload_n 3 dX3_findForced_103 rfl rfl ?_
        refine E_icmp_ge 131 dX3_findForced_104 (by decide) (fun c => ?_) (fun c => ?_)
        · rw [if_pos c] at h
          exact E_lv [1, 2, 3, 4, 5] rfl (w_X3_findForced_131 hs27 h)
        · rw [if_neg c] at h
          refine E_aload_n 1 dX3_findForced_107 rfl rfl ?_
          refine E_getR 31 dX3_findForced_108 fl_X3_18 rfl (sk_28 hs27) (sn hs27 (by decide)) (sr_28_3 hs27) ?_
          refine E_iload 0 dX3_findForced_111 rfl ?_
          refine E_dup2 dX3_findForced_113 rfl rfl ?_
          obtain ⟨g31, h⟩ := h
          refine E_iald2 (((gI σ b11 x4.toNatClampNeg) / (16 : Int32)).toNatClampNeg) dX3_findForced_114 (sk_31 hs27) (sn hs27 (by decide)) g31 rfl ?_
          refine E_iconst (1 : Int32) dX3_findForced_115 (by decide) ?_
          refine E_aload_n 4 dX3_findForced_116 rfl rfl ?_
          obtain ⟨b32, n36, g33, hk34, hb35, h⟩ := h
          refine E_getR b32 dX3_findForced_117 fl_X3_70 rfl hk29 hb30 g33 ?_
          refine E_iload 5 dX3_findForced_120 rfl ?_
          obtain ⟨g37, h⟩ := h
          refine E_iald2 (x4.toNatClampNeg) dX3_findForced_122 hk34 hb35 g37 rfl ?_
          refine E_bipush (16 : Int32) dX3_findForced_123 (by decide) ?_
          refine E_irem dX3_findForced_125 (by decide) ?_
          refine E_ishl dX3_findForced_126 ?_
          refine E_iconst (-1 : Int32) dX3_findForced_127 (by decide) ?_
          refine E_ixor dX3_findForced_128 ?_
          refine E_iand dX3_findForced_129 ?_
          obtain ⟨g38, h⟩ := h
          refine E_iast2 (((gI σ b11 x4.toNatClampNeg) / (16 : Int32)).toNatClampNeg) dX3_findForced_130 (sk_31 hs27) (sn hs27 (by decide)) (Or.inl (by decide)) g38 rfl ?_
          obtain ⟨τ39, e40⟩ : ∃ τ : AH, τ = (sI σ24 31 (((gI σ b11 x4.toNatClampNeg) / (16 : Int32)).toNatClampNeg) ((gI σ24 31 ((gI σ b11 x4.toNatClampNeg) / (16 : Int32)).toNatClampNeg) &&& (((1 : Int32) <<< (((gI σ24 b32 x4.toNatClampNeg) - (gI σ24 b32 x4.toNatClampNeg) / (16 : Int32) * (16 : Int32)) &&& 31)) ^^^ (-1 : Int32)))) := ⟨_, rfl⟩
          replace h := h τ39 e40
          rw [← e40]
          have hs41 : Sh τ39 := by rw [e40]; exact hs27
          have hk42 : kd _ x3 = (0, NO 0) := (congrFun (congrArg kd e40) _).trans hk29
          have hb43 := Nat.lt_of_lt_of_eq hb30 (congrArg nx e40).symm
          exact E_lv [1, 2, 3, 4, 5] rfl (w_X3_findForced_131 hs41 h)
def W_X3_isForced_0 (X : Sx) (l : Launch) (D : Nat) (x1 : Int32) (x2 : Int32) (σ : AH) (r : Option Value) (σ' : AH) : Prop := vp_in x1 24 ∧ (if (((gI σ 31 x1.toNatClampNeg) >>> (x2 &&& 31)) &&& (1 : Int32)) = 0 then (r = some (.int (0 : Int32)) ∧ σ' = σ) else (r = some (.int (1 : Int32)) ∧ σ' = σ))
set_option maxRecDepth 100000 in
theorem w_X3_isForced_0 {X : Sx} {l : Launch} {D : Nat} {x1 : Int32} {x2 : Int32} {σ : AH} {r : Option Value} {σ' : AH} (hs : Sh σ) (h : W_X3_isForced_0 X l D x1 x2 σ r σ') : E X l m_X3_isForced D 0 [(0, .ref 28), (1, .int x1), (2, .int x2)] [] σ r σ' := by
  unfold W_X3_isForced_0 at h
  refine E_aload_n 0 dX3_isForced_0 rfl rfl ?_
  refine E_getR 31 dX3_isForced_1 fl_X3_18 rfl (sk_28 hs) (sn hs (by decide)) (sr_28_3 hs) ?_
  refine E_iload_n 1 dX3_isForced_4 rfl rfl ?_
  obtain ⟨g1, h⟩ := h
  refine E_iald2 (x1.toNatClampNeg) dX3_isForced_5 (sk_31 hs) (sn hs (by decide)) g1 rfl ?_
  refine E_iload_n 2 dX3_isForced_6 rfl rfl ?_
  refine E_ishr dX3_isForced_7 ?_
  refine E_iconst (1 : Int32) dX3_isForced_8 (by decide) ?_
  refine E_iand dX3_isForced_9 ?_
  refine E_if_eq 17 dX3_isForced_10 (by decide) (fun c => ?_) (fun c => ?_)
  · rw [if_pos c] at h
    refine E_iconst (0 : Int32) dX3_isForced_17 (by decide) ?_
    obtain ⟨rfl, rfl⟩ := h
    exact E_zret dX3_isForced_18 rfl (Or.inl rfl)
  · rw [if_neg c] at h
    refine E_iconst (1 : Int32) dX3_isForced_13 (by decide) ?_
    refine E_goto 18 dX3_isForced_14 (by decide) ?_
    obtain ⟨rfl, rfl⟩ := h
    exact E_zret dX3_isForced_18 rfl (Or.inr rfl)
def W_X3_ask_0 (X : Sx) (l : Launch) (D : Nat) (x1 : Int32) (x2 : Int32) (σ : AH) (r : Option Value) (σ' : AH) : Prop := 1 ≤ D ∧ (∀ τ2 : AH, τ2 = (sA σ 32 (filln (gI σ 32) 7 (0 : Int32))) → (r = none ∧ σ' = (sI (sI τ2 32 0 x1) 32 6 x2)))
set_option maxRecDepth 100000 in
theorem w_X3_ask_0 {X : Sx} {l : Launch} {D : Nat} {x1 : Int32} {x2 : Int32} {σ : AH} {r : Option Value} {σ' : AH} (hs : Sh σ) (h : W_X3_ask_0 X l D x1 x2 σ r σ') : E X l m_X3_ask D 0 [(0, .ref 28), (1, .int x1), (2, .int x2)] [] σ r σ' := by
  unfold W_X3_ask_0 at h
  refine E_aload_n 0 dX3_ask_0 rfl rfl ?_
  refine E_getR 32 dX3_ask_1 fl_X3_21 rfl (sk_28 hs) (sn hs (by decide)) (sr_28_4 hs) ?_
  refine E_iconst (0 : Int32) dX3_ask_4 (by decide) ?_
  obtain ⟨g1, h⟩ := h
  refine E_fill dX3_ask_5 ml_X3_36 (sk_32 hs) (sn hs (by decide)) (Or.inl (by decide)) g1 (by decide) (Nat.le_of_ble_eq_true rfl) ?_
  obtain ⟨τ2, e3⟩ : ∃ τ : AH, τ = (sA σ 32 (filln (gI σ 32) 7 (0 : Int32))) := ⟨_, rfl⟩
  replace h := h τ2 e3
  rw [← e3]
  have hs4 : Sh τ2 := by rw [e3]; exact hs
  refine E_aload_n 0 dX3_ask_8 rfl rfl ?_
  refine E_getR 32 dX3_ask_9 fl_X3_21 rfl (sk_28 hs4) (sn hs4 (by decide)) (sr_28_4 hs4) ?_
  refine E_iconst (0 : Int32) dX3_ask_12 (by decide) ?_
  refine E_iload_n 1 dX3_ask_13 rfl rfl ?_
  refine E_iast2 0 dX3_ask_14 (sk_32 hs4) (sn hs4 (by decide)) (Or.inl (by decide)) (vp_lit (by decide)) (by decide) ?_
  refine E_aload_n 0 dX3_ask_15 rfl rfl ?_
  refine E_getR 32 dX3_ask_16 fl_X3_21 rfl (sk_28 hs4) (sn hs4 (by decide)) (sr_28_4 hs4) ?_
  refine E_bipush (6 : Int32) dX3_ask_19 (by decide) ?_
  refine E_iload_n 2 dX3_ask_21 rfl rfl ?_
  refine E_iast2 6 dX3_ask_22 (sk_32 hs4) (sn hs4 (by decide)) (Or.inl (by decide)) (vp_lit (by decide)) (by decide) ?_
  obtain ⟨rfl, rfl⟩ := h
  exact E_vret dX3_ask_23 rfl
def W_X3_askOf_0 (X : Sx) (l : Launch) (D : Nat) (x1 : Int32) (x2 : Int32) (σ : AH) (r : Option Value) (σ' : AH) : Prop := ∃ d1 : Nat, ∃ v6 : Int32, ∃ σ2 : AH, d1 + 1 ≤ D ∧ Call X l m_X8_at d1 [.ref 13, .int x1, .int (2 : Int32)] σ (some (.int v6)) σ2 ∧ ∃ d7 : Nat, ∃ v12 : Int32, ∃ σ8 : AH, d7 + 1 ≤ D ∧ Call X l m_X8_at d7 [.ref 13, .int x1, .int (3 : Int32)] (sI σ2 32 1 v6) (some (.int v12)) σ8 ∧ ∃ d13 : Nat, ∃ v18 : Int32, ∃ σ14 : AH, d13 + 1 ≤ D ∧ Call X l m_X8_at d13 [.ref 13, .int x1, .int (5 : Int32)] (sI σ8 32 2 v12) (some (.int v18)) σ14 ∧ ∃ d19 : Nat, ∃ v24 : Int32, ∃ σ20 : AH, d19 + 1 ≤ D ∧ Call X l m_X8_at d19 [.ref 13, .int x1, .int (4 : Int32)] (sI σ14 32 3 v18) (some (.int v24)) σ20 ∧ (r = none ∧ σ' = (sI (sI σ20 32 5 v24) 32 4 x2))
set_option maxRecDepth 100000 in
theorem w_X3_askOf_0 {X : Sx} {l : Launch} {D : Nat} {x1 : Int32} {x2 : Int32} {σ : AH} {r : Option Value} {σ' : AH} (hs : Sh σ) (h : W_X3_askOf_0 X l D x1 x2 σ r σ') : E X l m_X3_askOf D 0 [(0, .ref 28), (1, .int x1), (2, .int x2)] [] σ r σ' := by
  unfold W_X3_askOf_0 at h
  refine E_aload_n 0 dX3_askOf_0 rfl rfl ?_
  refine E_getR 32 dX3_askOf_1 fl_X3_21 rfl (sk_28 hs) (sn hs (by decide)) (sr_28_4 hs) ?_
  refine E_iconst (1 : Int32) dX3_askOf_4 (by decide) ?_
  refine E_aload_n 0 dX3_askOf_5 rfl rfl ?_
  refine E_getR 1 dX3_askOf_6 fl_X3_32 rfl (sk_28 hs) (sn hs (by decide)) (sr_28_0 hs) ?_
  refine E_getR 13 dX3_askOf_9 fl_X3_77 rfl (sk_1 hs) (sn hs (by decide)) (sr_1_7 hs) ?_
  refine E_iload_n 1 dX3_askOf_12 rfl rfl ?_
  refine E_iconst (2 : Int32) dX3_askOf_13 (by decide) ?_
  obtain ⟨d1, v6, σ2, hD3, hC4, h⟩ := h
  have hs5 := hC4.1.2.2.2.1 hs
  refine E_callV (As := [.int x1, .int (2 : Int32)]) (rest := [.int (1 : Int32), .ref 32]) (r1 := (some (.int v6))) (b := 13) dX3_askOf_14 ok_X8_at in_X8_at se_X8_at ml_X3_81 hD3 rfl rfl (Nat.le_of_ble_eq_true rfl) (sk_13 hs) (sn hs (by decide)) (by decide) rfl (by decide +kernel) hC4 ?_
  refine E_iast2 1 dX3_askOf_17 (sk_32 hs5) (sn hs5 (by decide)) (Or.inl (by decide)) (vp_lit (by decide)) (by decide) ?_
  refine E_aload_n 0 dX3_askOf_18 rfl rfl ?_
  refine E_getR 32 dX3_askOf_19 fl_X3_21 rfl (sk_28 hs5) (sn hs5 (by decide)) (sr_28_4 hs5) ?_
  refine E_iconst (2 : Int32) dX3_askOf_22 (by decide) ?_
  refine E_aload_n 0 dX3_askOf_23 rfl rfl ?_
  refine E_getR 1 dX3_askOf_24 fl_X3_32 rfl (sk_28 hs5) (sn hs5 (by decide)) (sr_28_0 hs5) ?_
  refine E_getR 13 dX3_askOf_27 fl_X3_77 rfl (sk_1 hs5) (sn hs5 (by decide)) (sr_1_7 hs5) ?_
  refine E_iload_n 1 dX3_askOf_30 rfl rfl ?_
  refine E_iconst (3 : Int32) dX3_askOf_31 (by decide) ?_
  obtain ⟨d7, v12, σ8, hD9, hC10, h⟩ := h
  have hs11 := hC10.1.2.2.2.1 hs5
  refine E_callV (As := [.int x1, .int (3 : Int32)]) (rest := [.int (2 : Int32), .ref 32]) (r1 := (some (.int v12))) (b := 13) dX3_askOf_32 ok_X8_at in_X8_at se_X8_at ml_X3_81 hD9 rfl rfl (Nat.le_of_ble_eq_true rfl) (sk_13 hs5) (sn hs5 (by decide)) (by decide) rfl (by decide +kernel) hC10 ?_
  refine E_iast2 2 dX3_askOf_35 (sk_32 hs11) (sn hs11 (by decide)) (Or.inl (by decide)) (vp_lit (by decide)) (by decide) ?_
  refine E_aload_n 0 dX3_askOf_36 rfl rfl ?_
  refine E_getR 32 dX3_askOf_37 fl_X3_21 rfl (sk_28 hs11) (sn hs11 (by decide)) (sr_28_4 hs11) ?_
  refine E_iconst (3 : Int32) dX3_askOf_40 (by decide) ?_
  refine E_aload_n 0 dX3_askOf_41 rfl rfl ?_
  refine E_getR 1 dX3_askOf_42 fl_X3_32 rfl (sk_28 hs11) (sn hs11 (by decide)) (sr_28_0 hs11) ?_
  refine E_getR 13 dX3_askOf_45 fl_X3_77 rfl (sk_1 hs11) (sn hs11 (by decide)) (sr_1_7 hs11) ?_
  refine E_iload_n 1 dX3_askOf_48 rfl rfl ?_
  refine E_iconst (5 : Int32) dX3_askOf_49 (by decide) ?_
  obtain ⟨d13, v18, σ14, hD15, hC16, h⟩ := h
  have hs17 := hC16.1.2.2.2.1 hs11
  refine E_callV (As := [.int x1, .int (5 : Int32)]) (rest := [.int (3 : Int32), .ref 32]) (r1 := (some (.int v18))) (b := 13) dX3_askOf_50 ok_X8_at in_X8_at se_X8_at ml_X3_81 hD15 rfl rfl (Nat.le_of_ble_eq_true rfl) (sk_13 hs11) (sn hs11 (by decide)) (by decide) rfl (by decide +kernel) hC16 ?_
  refine E_iast2 3 dX3_askOf_53 (sk_32 hs17) (sn hs17 (by decide)) (Or.inl (by decide)) (vp_lit (by decide)) (by decide) ?_
  refine E_aload_n 0 dX3_askOf_54 rfl rfl ?_
  refine E_getR 32 dX3_askOf_55 fl_X3_21 rfl (sk_28 hs17) (sn hs17 (by decide)) (sr_28_4 hs17) ?_
  refine E_iconst (5 : Int32) dX3_askOf_58 (by decide) ?_
  refine E_aload_n 0 dX3_askOf_59 rfl rfl ?_
  refine E_getR 1 dX3_askOf_60 fl_X3_32 rfl (sk_28 hs17) (sn hs17 (by decide)) (sr_28_0 hs17) ?_
  refine E_getR 13 dX3_askOf_63 fl_X3_77 rfl (sk_1 hs17) (sn hs17 (by decide)) (sr_1_7 hs17) ?_
  refine E_iload_n 1 dX3_askOf_66 rfl rfl ?_
  refine E_iconst (4 : Int32) dX3_askOf_67 (by decide) ?_
  obtain ⟨d19, v24, σ20, hD21, hC22, h⟩ := h
  have hs23 := hC22.1.2.2.2.1 hs17
  refine E_callV (As := [.int x1, .int (4 : Int32)]) (rest := [.int (5 : Int32), .ref 32]) (r1 := (some (.int v24))) (b := 13) dX3_askOf_68 ok_X8_at in_X8_at se_X8_at ml_X3_81 hD21 rfl rfl (Nat.le_of_ble_eq_true rfl) (sk_13 hs17) (sn hs17 (by decide)) (by decide) rfl (by decide +kernel) hC22 ?_
  refine E_iast2 5 dX3_askOf_71 (sk_32 hs23) (sn hs23 (by decide)) (Or.inl (by decide)) (vp_lit (by decide)) (by decide) ?_
  refine E_aload_n 0 dX3_askOf_72 rfl rfl ?_
  refine E_getR 32 dX3_askOf_73 fl_X3_21 rfl (sk_28 hs23) (sn hs23 (by decide)) (sr_28_4 hs23) ?_
  refine E_iconst (4 : Int32) dX3_askOf_76 (by decide) ?_
  refine E_iload_n 2 dX3_askOf_77 rfl rfl ?_
  refine E_iast2 4 dX3_askOf_78 (sk_32 hs23) (sn hs23 (by decide)) (Or.inl (by decide)) (vp_lit (by decide)) (by decide) ?_
  obtain ⟨rfl, rfl⟩ := h
  exact E_vret dX3_askOf_79 rfl
def W_X3_counted_0 (X : Sx) (l : Launch) (D : Nat) (x1 : Int32) (σ : AH) (r : Option Value) (σ' : AH) : Prop := vp_in x1 63 ∧ E X l m_X3_counted D 9 [(0, .ref 28), (2, .int (gI σ 29 x1.toNatClampNeg)), (3, .int (0 : Int32))] [] σ r σ'
set_option maxRecDepth 100000 in
theorem w_X3_counted_0 {X : Sx} {l : Launch} {D : Nat} {x1 : Int32} {σ : AH} {r : Option Value} {σ' : AH} (hs : Sh σ) (h : W_X3_counted_0 X l D x1 σ r σ') : E X l m_X3_counted D 0 [(0, .ref 28), (1, .int x1)] [] σ r σ' := by
  unfold W_X3_counted_0 at h
  refine E_aload_n 0 dX3_counted_0 rfl rfl ?_
  refine E_getR 29 dX3_counted_1 fl_X3_9 rfl (sk_28 hs) (sn hs (by decide)) (sr_28_1 hs) ?_
  refine E_iload_n 1 dX3_counted_4 rfl rfl ?_
  obtain ⟨g1, h⟩ := h
  refine E_iald2 (x1.toNatClampNeg) dX3_counted_5 (sk_29 hs) (sn hs (by decide)) g1 rfl ?_
  refine E_istore_n [(2, .int (gI σ 29 x1.toNatClampNeg)), (0, .ref 28), (1, .int x1)] dX3_counted_6 rfl (by decide) rfl ?_
  refine E_iconst (0 : Int32) dX3_counted_7 (by decide) ?_
  refine E_istore_n [(3, .int (0 : Int32)), (2, .int (gI σ 29 x1.toNatClampNeg)), (0, .ref 28), (1, .int x1)] dX3_counted_8 rfl (by decide) rfl ?_
  exact E_lv [2, 1, 0] rfl h
def W_X3_counted_9 (X : Sx) (l : Launch) (D : Nat) (x2 : Int32) (x3 : Int32) (σ : AH) (r : Option Value) (σ' : AH) : Prop := (if (384 : Int32) ≤ x3 then (r = some (.int (-1 : Int32)) ∧ σ' = σ) else (if x2 < 0 then (r = some (.int (-1 : Int32)) ∧ σ' = σ) else ∃ d2 : Nat, ∃ v7 : Int64, ∃ σ3 : AH, d2 + 1 ≤ D ∧ Call X l m_X3_evaluate d2 [.ref 28, .int x2] σ (some (.long v7)) σ3 ∧ ((v7 = BRK → vp_in x2 384 ∧ E X l m_X3_counted D 9 [(0, .ref 28), (2, .int (gI σ3 30 x2.toNatClampNeg)), (3, .int (x3 + 1))] [] σ3 r σ') ∧ (¬ v7 = BRK → (if (0 : Int64) ≤ v7 then (r = some (.int (v7).toInt32) ∧ σ' = σ3) else (r = some (.int (0 : Int32)) ∧ σ' = σ3))))))
set_option maxRecDepth 100000 in
theorem w_X3_counted_9 {X : Sx} {l : Launch} {D : Nat} {x2 : Int32} {x3 : Int32} {σ : AH} {r : Option Value} {σ' : AH} (hs : Sh σ) (h : W_X3_counted_9 X l D x2 x3 σ r σ') : E X l m_X3_counted D 9 [(0, .ref 28), (2, .int x2), (3, .int x3)] [] σ r σ' := by
  unfold W_X3_counted_9 at h
  refine E_iload_n 2 dX3_counted_9 rfl rfl ?_
  refine E_aload_n 0 dX3_counted_10 rfl rfl ?_
  refine E_getR 30 dX3_counted_11 fl_X3_15 rfl (sk_28 hs) (sn hs (by decide)) (sr_28_2 hs) ?_
  refine E_alen2 (384 : Int32) dX3_counted_14 (sk_30 hs) (sn hs (by decide)) (by decide) (by decide) (by decide) ?_
  refine E_icmp_ge 66 dX3_counted_15 (by decide) (fun c => ?_) (fun c => ?_)
  · rw [if_pos c] at h
    refine E_iconst (-1 : Int32) dX3_counted_66 (by decide) ?_
    obtain ⟨rfl, rfl⟩ := h
    exact E_iret dX3_counted_67 rfl
  · rw [if_neg c] at h
    refine E_iload_n 1 dX3_counted_18 rfl rfl ?_
    refine E_if_lt 66 dX3_counted_19 (by decide) (fun c => ?_) (fun c => ?_)
    · rw [if_pos c] at h
      refine E_iconst (-1 : Int32) dX3_counted_66 (by decide) ?_
      obtain ⟨rfl, rfl⟩ := h
      exact E_iret dX3_counted_67 rfl
    · rw [if_neg c] at h
      refine E_aload_n 0 dX3_counted_22 rfl rfl ?_
      refine E_iload_n 1 dX3_counted_23 rfl rfl ?_
      obtain ⟨d2, v7, σ3, hD4, hC5, h⟩ := h
      have hs6 := hC5.1.2.2.2.1 hs
      refine E_callV (As := [.int x2]) (rest := []) (r1 := (some (.long v7))) (b := 28) dX3_counted_24 ok_X3_evaluate in_X3_evaluate se_X3_evaluate ml_X3_87 hD4 rfl rfl (Nat.le_of_ble_eq_true rfl) (sk_28 hs) (sn hs (by decide)) (by decide) rfl (by decide +kernel) hC5 ?_
      refine E_lstore [(4, .long v7), (0, .ref 28), (2, .int x2), (3, .int x3)] dX3_counted_27 (by decide) rfl ?_
      refine E_lload 0 dX3_counted_29 rfl ?_
      refine E_ldc2 BRK dX3_counted_31 cl_X3_91 ?_
      refine E_lcmp dX3_counted_34 ?_
      refine E_if_eq 53 dX3_counted_35 (by decide) (fun c => ?_) (fun c => ?_)
      · replace h := h.1 ((lc_eq _ _).mp c)
        refine E_aload_n 1 dX3_counted_53 rfl rfl ?_
        refine E_getR 30 dX3_counted_54 fl_X3_15 rfl (sk_28 hs6) (sn hs6 (by decide)) (sr_28_2 hs6) ?_
        refine E_iload_n 2 dX3_counted_57 rfl rfl ?_
        obtain ⟨g8, h⟩ := h
        refine E_iald2 (x2.toNatClampNeg) dX3_counted_58 (sk_30 hs6) (sn hs6 (by decide)) g8 rfl ?_
        refine E_istore_n [(2, .int (gI σ3 30 x2.toNatClampNeg)), (4, .long v7), (0, .ref 28), (3, .int x3)] dX3_counted_59 rfl (by decide) rfl ?_
        refine E_iinc 3 (x3 + 1) [(3, .int (x3 + 1)), (2, .int (gI σ3 30 x2.toNatClampNeg)), (4, .long v7), (0, .ref 28)] dX3_counted_60 rfl (congrArg (x3 + ·) (by decide : Int32.ofInt 1 = 1)) (by decide) rfl ?_
        refine E_goto 9 dX3_counted_63 (by decide) ?_
        exact E_lv [3, 1, 0] rfl h
      · replace h := h.2 (fun q => c ((lc_eq _ _).mpr q))
        refine E_lload 0 dX3_counted_38 rfl ?_
        refine E_lconst (0 : Int64) dX3_counted_40 (by decide) ?_
        refine E_lcmp dX3_counted_41 ?_
        refine E_if_ge 49 dX3_counted_42 (by decide) (fun c => ?_) (fun c => ?_)
        · rw [if_pos ((lc_ge _ _).mp c)] at h
          refine E_lload 0 dX3_counted_49 rfl ?_
          refine E_l2i dX3_counted_51 ?_
          obtain ⟨rfl, rfl⟩ := h
          exact E_iret dX3_counted_52 rfl
        · rw [if_neg (fun q => c ((lc_ge _ _).mpr q))] at h
          refine E_iconst (0 : Int32) dX3_counted_45 (by decide) ?_
          refine E_goto 52 dX3_counted_46 (by decide) ?_
          obtain ⟨rfl, rfl⟩ := h
          exact E_iret dX3_counted_52 rfl
def W_X3_total_0 (X : Sx) (l : Launch) (D : Nat) (x1 : Int32) (σ : AH) (r : Option Value) (σ' : AH) : Prop := vp_in x1 63 ∧ E X l m_X3_total D 13 [(0, .ref 28), (2, .long (0 : Int64)), (4, .int (gI σ 29 x1.toNatClampNeg)), (5, .int (0 : Int32))] [] σ r σ'
set_option maxRecDepth 100000 in
theorem w_X3_total_0 {X : Sx} {l : Launch} {D : Nat} {x1 : Int32} {σ : AH} {r : Option Value} {σ' : AH} (hs : Sh σ) (h : W_X3_total_0 X l D x1 σ r σ') : E X l m_X3_total D 0 [(0, .ref 28), (1, .int x1)] [] σ r σ' := by
  unfold W_X3_total_0 at h
  refine E_lconst (0 : Int64) dX3_total_0 (by decide) ?_
  refine E_lstore_n [(2, .long (0 : Int64)), (0, .ref 28), (1, .int x1)] dX3_total_1 rfl (by decide) rfl ?_
  refine E_aload_n 1 dX3_total_2 rfl rfl ?_
  refine E_getR 29 dX3_total_3 fl_X3_9 rfl (sk_28 hs) (sn hs (by decide)) (sr_28_1 hs) ?_
  refine E_iload_n 2 dX3_total_6 rfl rfl ?_
  obtain ⟨g1, h⟩ := h
  refine E_iald2 (x1.toNatClampNeg) dX3_total_7 (sk_29 hs) (sn hs (by decide)) g1 rfl ?_
  refine E_istore [(4, .int (gI σ 29 x1.toNatClampNeg)), (2, .long (0 : Int64)), (0, .ref 28), (1, .int x1)] dX3_total_8 (by decide) rfl ?_
  refine E_iconst (0 : Int32) dX3_total_10 (by decide) ?_
  refine E_istore [(5, .int (0 : Int32)), (4, .int (gI σ 29 x1.toNatClampNeg)), (2, .long (0 : Int64)), (0, .ref 28), (1, .int x1)] dX3_total_11 (by decide) rfl ?_
  exact E_lv [3, 2, 1, 0] rfl h
def W_X3_total_50 (X : Sx) (l : Launch) (D : Nat) (x2 : Int64) (x4 : Int32) (x5 : Int32) (σ : AH) (r : Option Value) (σ' : AH) : Prop := vp_in x4 384 ∧ E X l m_X3_total D 13 [(0, .ref 28), (2, .long x2), (4, .int (gI σ 30 x4.toNatClampNeg)), (5, .int (x5 + 1))] [] σ r σ'
set_option maxRecDepth 100000 in
theorem w_X3_total_50 {X : Sx} {l : Launch} {D : Nat} {x2 : Int64} {x4 : Int32} {x5 : Int32} {σ : AH} {r : Option Value} {σ' : AH} (hs : Sh σ) (h : W_X3_total_50 X l D x2 x4 x5 σ r σ') : E X l m_X3_total D 50 [(0, .ref 28), (2, .long x2), (4, .int x4), (5, .int x5)] [] σ r σ' := by
  unfold W_X3_total_50 at h
  refine E_aload_n 0 dX3_total_50 rfl rfl ?_
  refine E_getR 30 dX3_total_51 fl_X3_15 rfl (sk_28 hs) (sn hs (by decide)) (sr_28_2 hs) ?_
  refine E_iload 2 dX3_total_54 rfl ?_
  obtain ⟨g8, h⟩ := h
  refine E_iald2 (x4.toNatClampNeg) dX3_total_56 (sk_30 hs) (sn hs (by decide)) g8 rfl ?_
  refine E_istore [(4, .int (gI σ 30 x4.toNatClampNeg)), (0, .ref 28), (2, .long x2), (5, .int x5)] dX3_total_57 (by decide) rfl ?_
  refine E_iinc 3 (x5 + 1) [(5, .int (x5 + 1)), (4, .int (gI σ 30 x4.toNatClampNeg)), (0, .ref 28), (2, .long x2)] dX3_total_59 rfl (congrArg (x5 + ·) (by decide : Int32.ofInt 1 = 1)) (by decide) rfl ?_
  refine E_goto 13 dX3_total_62 (by decide) ?_
  exact E_lv [2, 3, 1, 0] rfl h
def W_X3_total_13 (X : Sx) (l : Launch) (D : Nat) (x2 : Int64) (x4 : Int32) (x5 : Int32) (σ : AH) (r : Option Value) (σ' : AH) : Prop := (if (384 : Int32) ≤ x5 then (r = some (.long x2) ∧ σ' = σ) else (if x4 < 0 then (r = some (.long x2) ∧ σ' = σ) else ∃ d2 : Nat, ∃ v7 : Int64, ∃ σ3 : AH, d2 + 1 ≤ D ∧ Call X l m_X3_evaluate d2 [.ref 28, .int x4] σ (some (.long v7)) σ3 ∧ ((v7 = BRK → W_X3_total_50 X l D x2 x4 x5 σ3 r σ') ∧ (¬ v7 = BRK → W_X3_total_50 X l D (x2 + v7) x4 x5 σ3 r σ'))))
set_option maxRecDepth 100000 in
theorem w_X3_total_13 {X : Sx} {l : Launch} {D : Nat} {x2 : Int64} {x4 : Int32} {x5 : Int32} {σ : AH} {r : Option Value} {σ' : AH} (hs : Sh σ) (h : W_X3_total_13 X l D x2 x4 x5 σ r σ') : E X l m_X3_total D 13 [(0, .ref 28), (2, .long x2), (4, .int x4), (5, .int x5)] [] σ r σ' := by
  unfold W_X3_total_13 at h
  refine E_iload 3 dX3_total_13 rfl ?_
  refine E_aload_n 0 dX3_total_15 rfl rfl ?_
  refine E_getR 30 dX3_total_16 fl_X3_15 rfl (sk_28 hs) (sn hs (by decide)) (sr_28_2 hs) ?_
  refine E_alen2 (384 : Int32) dX3_total_19 (sk_30 hs) (sn hs (by decide)) (by decide) (by decide) (by decide) ?_
  refine E_icmp_ge 65 dX3_total_20 (by decide) (fun c => ?_) (fun c => ?_)
  · rw [if_pos c] at h
    refine E_lload_n 1 dX3_total_65 rfl rfl ?_
    obtain ⟨rfl, rfl⟩ := h
    exact E_lret dX3_total_66 rfl
  · rw [if_neg c] at h
    refine E_iload 2 dX3_total_23 rfl ?_
    refine E_if_lt 65 dX3_total_25 (by decide) (fun c => ?_) (fun c => ?_)
    · rw [if_pos c] at h
      refine E_lload_n 1 dX3_total_65 rfl rfl ?_
      obtain ⟨rfl, rfl⟩ := h
      exact E_lret dX3_total_66 rfl
    · rw [if_neg c] at h
      refine E_aload_n 0 dX3_total_28 rfl rfl ?_
      refine E_iload 2 dX3_total_29 rfl ?_
      obtain ⟨d2, v7, σ3, hD4, hC5, h⟩ := h
      have hs6 := hC5.1.2.2.2.1 hs
      refine E_callV (As := [.int x4]) (rest := []) (r1 := (some (.long v7))) (b := 28) dX3_total_31 ok_X3_evaluate in_X3_evaluate se_X3_evaluate ml_X3_87 hD4 rfl rfl (Nat.le_of_ble_eq_true rfl) (sk_28 hs) (sn hs (by decide)) (by decide) rfl (by decide +kernel) hC5 ?_
      refine E_lstore [(6, .long v7), (0, .ref 28), (2, .long x2), (4, .int x4), (5, .int x5)] dX3_total_34 (by decide) rfl ?_
      refine E_lload 0 dX3_total_36 rfl ?_
      refine E_ldc2 BRK dX3_total_38 cl_X3_91 ?_
      refine E_lcmp dX3_total_41 ?_
      refine E_if_eq 50 dX3_total_42 (by decide) (fun c => ?_) (fun c => ?_)
      · replace h := h.1 ((lc_eq _ _).mp c)
        exact E_lv [1, 2, 3, 4] rfl (w_X3_total_50 hs6 h)
      · replace h := h.2 (fun q => c ((lc_eq _ _).mpr q))
        refine E_lload_n 2 dX3_total_45 rfl rfl ?_
        refine E_lload 0 dX3_total_46 rfl ?_
        refine E_ladd dX3_total_48 ?_
        refine E_lstore_n [(2, .long (x2 + v7)), (6, .long v7), (0, .ref 28), (4, .int x4), (5, .int x5)] dX3_total_49 rfl (by decide) rfl ?_
        exact E_lv [2, 0, 3, 4] rfl (w_X3_total_50 hs6 h)
def W_X3_evaluate_0 (X : Sx) (l : Launch) (D : Nat) (x1 : Int32) (σ : AH) (r : Option Value) (σ' : AH) : Prop := vp_in (x1 / (16 : Int32)) 24 ∧ (gR σ 2 (x1 / (16 : Int32)).toNatClampNeg = none → (r = some (.long BRK) ∧ σ' = σ)) ∧ ∀ b1 : Nat, gR σ 2 (x1 / (16 : Int32)).toNatClampNeg = some b1 → kd σ b1 = (0, NO 0) ∧ b1 < nx σ ∧ ∃ d7 : Nat, ∃ v12 : Int32, ∃ σ8 : AH, d7 + 1 ≤ D ∧ Call X l m_X3_isForced d7 [.ref 28, .int (x1 / (16 : Int32)), .int (x1 - x1 / (16 : Int32) * (16 : Int32))] σ (some (.int v12)) σ8 ∧ (if v12 = 0 then (r = some (.long BRK) ∧ σ' = σ8) else ∃ b15 n19 : Nat, gR σ8 b1 6 = some b15 ∧ kd σ8 b15 = (100, n19) ∧ b15 < nx σ8 ∧ ∃ b20 n24 : Nat, gR σ8 b1 5 = some b20 ∧ kd σ8 b20 = (100, n24) ∧ b20 < nx σ8 ∧ vp_in (x1 - x1 / (16 : Int32) * (16 : Int32)) n24 ∧ E X l m_X3_evaluate D 55 [(0, .ref 28), (3, .ref b15), (4, .int (0 : Int32)), (5, .int (gI σ8 b20 (x1 - x1 / (16 : Int32) * (16 : Int32)).toNatClampNeg))] [] σ8 r σ')
set_option maxRecDepth 100000 in
theorem w_X3_evaluate_0 {X : Sx} {l : Launch} {D : Nat} {x1 : Int32} {σ : AH} {r : Option Value} {σ' : AH} (hs : Sh σ) (h : W_X3_evaluate_0 X l D x1 σ r σ') : E X l m_X3_evaluate D 0 [(0, .ref 28), (1, .int x1)] [] σ r σ' := by
  unfold W_X3_evaluate_0 at h
  refine E_aload_n 0 dX3_evaluate_0 rfl rfl ?_
  refine E_getR 1 dX3_evaluate_1 fl_X3_32 rfl (sk_28 hs) (sn hs (by decide)) (sr_28_0 hs) ?_
  refine E_getR 2 dX3_evaluate_4 fl_X3_47 rfl (sk_1 hs) (sn hs (by decide)) (sr_1_0 hs) ?_
  refine E_iload_n 1 dX3_evaluate_7 rfl rfl ?_
  refine E_bipush (16 : Int32) dX3_evaluate_8 (by decide) ?_
  refine E_idiv dX3_evaluate_10 (by decide) ?_
  obtain ⟨g5, h0, h1⟩ := h
  rcases q6 : gR σ 2 (x1 / (16 : Int32)).toNatClampNeg with _ | b1
  · have h := h0 q6
    refine E_aaldN dX3_evaluate_11 (sk_2 hs) (sn hs (by decide)) (Or.inl rfl) g5 q6 ?_
    refine E_astore_nN [(2, .null), (0, .ref 28), (1, .int x1)] dX3_evaluate_12 rfl (by decide) rfl ?_
    refine E_aload_nN 0 dX3_evaluate_13 rfl rfl ?_
    refine E_ifnullN 32 dX3_evaluate_14 (by decide) ?_
    refine E_ldc2 BRK dX3_evaluate_32 cl_X3_91 ?_
    obtain ⟨rfl, rfl⟩ := h
    exact E_lret dX3_evaluate_35 rfl
  · obtain ⟨hk3, hb4, h⟩ := h1 b1 q6
    refine E_aald b1 dX3_evaluate_11 (sk_2 hs) (sn hs (by decide)) (Or.inl rfl) g5 q6 ?_
    refine E_astore_n [(2, .ref b1), (0, .ref 28), (1, .int x1)] dX3_evaluate_12 rfl (by decide) rfl ?_
    refine E_aload_n 0 dX3_evaluate_13 rfl rfl ?_
    refine E_ifnull dX3_evaluate_14 ?_
    refine E_aload_n 1 dX3_evaluate_17 rfl rfl ?_
    refine E_iload_n 2 dX3_evaluate_18 rfl rfl ?_
    refine E_bipush (16 : Int32) dX3_evaluate_19 (by decide) ?_
    refine E_idiv dX3_evaluate_21 (by decide) ?_
    refine E_iload_n 2 dX3_evaluate_22 rfl rfl ?_
    refine E_bipush (16 : Int32) dX3_evaluate_23 (by decide) ?_
    refine E_irem dX3_evaluate_25 (by decide) ?_
    obtain ⟨d7, v12, σ8, hD9, hC10, h⟩ := h
    have hs11 := hC10.1.2.2.2.1 hs
    have hk13 := (hC10.1.2.2.1 _ hb4).trans hk3
    have hb14 := Nat.lt_of_lt_of_le hb4 hC10.1.1
    refine E_callV (As := [.int (x1 / (16 : Int32)), .int (x1 - x1 / (16 : Int32) * (16 : Int32))]) (rest := []) (r1 := (some (.int v12))) (b := 28) dX3_evaluate_26 ok_X3_isForced in_X3_isForced se_X3_isForced ml_X3_73 hD9 rfl rfl (Nat.le_of_ble_eq_true rfl) (sk_28 hs) (sn hs (by decide)) (by decide) rfl (by decide +kernel) hC10 ?_
    refine E_if_ne 36 dX3_evaluate_29 (by decide) (fun c => ?_) (fun c => ?_)
    · rw [if_neg c] at h
      refine E_aload_n 0 dX3_evaluate_36 rfl rfl ?_
      obtain ⟨b15, n19, g16, hk17, hb18, h⟩ := h
      refine E_getR b15 dX3_evaluate_37 fl_X3_93 rfl hk13 hb14 g16 ?_
      refine E_astore_n [(3, .ref b15), (2, .ref b1), (0, .ref 28), (1, .int x1)] dX3_evaluate_40 rfl (by decide) rfl ?_
      refine E_iconst (0 : Int32) dX3_evaluate_41 (by decide) ?_
      refine E_istore [(4, .int (0 : Int32)), (3, .ref b15), (2, .ref b1), (0, .ref 28), (1, .int x1)] dX3_evaluate_42 (by decide) rfl ?_
      refine E_aload_n 2 dX3_evaluate_44 rfl rfl ?_
      obtain ⟨b20, n24, g21, hk22, hb23, h⟩ := h
      refine E_getR b20 dX3_evaluate_45 fl_X3_96 rfl hk13 hb14 g21 ?_
      refine E_iload_n 4 dX3_evaluate_48 rfl rfl ?_
      refine E_bipush (16 : Int32) dX3_evaluate_49 (by decide) ?_
      refine E_irem dX3_evaluate_51 (by decide) ?_
      obtain ⟨g25, h⟩ := h
      refine E_iald2 ((x1 - x1 / (16 : Int32) * (16 : Int32)).toNatClampNeg) dX3_evaluate_52 hk22 hb23 g25 rfl ?_
      refine E_istore [(5, .int (gI σ8 b20 (x1 - x1 / (16 : Int32) * (16 : Int32)).toNatClampNeg)), (4, .int (0 : Int32)), (3, .ref b15), (2, .ref b1), (0, .ref 28), (1, .int x1)] dX3_evaluate_53 (by decide) rfl ?_
      exact E_lv [4, 2, 1, 0] rfl h
    · rw [if_pos c] at h
      refine E_ldc2 BRK dX3_evaluate_32 cl_X3_91 ?_
      obtain ⟨rfl, rfl⟩ := h
      exact E_lret dX3_evaluate_35 rfl
def W_X3_evaluate_350 (X : Sx) (l : Launch) (D : Nat) (x3 : Nat) (x4 : Int32) (x5 : Int32) (σ : AH) (r : Option Value) (σ' : AH) : Prop := ∃ nx3 : Nat, kd σ x3 = (100, nx3) ∧ x3 < nx σ ∧ E X l m_X3_evaluate D 55 [(0, .ref 28), (3, .ref x3), (4, .int x4), (5, .int (x5 + 1))] [] σ r σ'
set_option maxRecDepth 100000 in
theorem w_X3_evaluate_350 {X : Sx} {l : Launch} {D : Nat} {x3 : Nat} {x4 : Int32} {x5 : Int32} {σ : AH} {r : Option Value} {σ' : AH} (hs : Sh σ) (h : W_X3_evaluate_350 X l D x3 x4 x5 σ r σ') : E X l m_X3_evaluate D 350 [(0, .ref 28), (3, .ref x3), (4, .int x4), (5, .int x5)] [] σ r σ' := by
  unfold W_X3_evaluate_350 at h
  obtain ⟨nx3, hkx3, hbx3, h⟩ := h
  refine E_iinc 3 (x5 + 1) [(5, .int (x5 + 1)), (0, .ref 28), (3, .ref x3), (4, .int x4)] dX3_evaluate_350 rfl (congrArg (x5 + ·) (by decide : Int32.ofInt 1 = 1)) (by decide) rfl ?_
  refine E_goto 55 dX3_evaluate_353 (by decide) ?_
  exact E_lv [1, 2, 3, 0] rfl h
def W_X3_evaluate_129 (X : Sx) (l : Launch) (D : Nat) (x3 : Nat) (x4 : Int32) (x5 : Int32) (y0 : Int64) (y1 : Int32) (σ : AH) (r : Option Value) (σ' : AH) : Prop := ∃ nx3 : Nat, kd σ x3 = (100, nx3) ∧ x3 < nx σ ∧ vp_in y1 64 ∧ W_X3_evaluate_350 X l D x3 (x4 + 1) x5 (sL σ 33 y1.toNatClampNeg y0) r σ'
set_option maxRecDepth 100000 in
theorem w_X3_evaluate_129 {X : Sx} {l : Launch} {D : Nat} {x3 : Nat} {x4 : Int32} {x5 : Int32} {y0 : Int64} {y1 : Int32} {σ : AH} {r : Option Value} {σ' : AH} (hs : Sh σ) (h : W_X3_evaluate_129 X l D x3 x4 x5 y0 y1 σ r σ') : E X l m_X3_evaluate D 129 [(0, .ref 28), (3, .ref x3), (4, .int x4), (5, .int x5)] [.long y0, .int y1, .ref 33] σ r σ' := by
  unfold W_X3_evaluate_129 at h
  obtain ⟨nx3, hkx3, hbx3, h⟩ := h
  obtain ⟨g45, h⟩ := h
  refine E_last2 (y1.toNatClampNeg) dX3_evaluate_129 (sk_33 hs) (sn hs (by decide)) (Or.inl (by decide)) g45 rfl ?_
  refine E_iinc 2 (x4 + 1) [(4, .int (x4 + 1)), (0, .ref 28), (3, .ref x3), (5, .int x5)] dX3_evaluate_130 rfl (congrArg (x4 + ·) (by decide : Int32.ofInt 1 = 1)) (by decide) rfl ?_
  refine E_goto 350 dX3_evaluate_133 (by decide) ?_
  exact E_lv [1, 2, 0, 3] rfl (w_X3_evaluate_350 hs h)
def W_X3_evaluate_342 (X : Sx) (l : Launch) (D : Nat) (x3 : Nat) (x4 : Int32) (y0 : Int32) (σ : AH) (r : Option Value) (σ' : AH) : Prop := ∃ nx3 : Nat, kd σ x3 = (100, nx3) ∧ x3 < nx σ ∧ W_X3_evaluate_350 X l D x3 x4 y0 σ r σ'
set_option maxRecDepth 100000 in
theorem w_X3_evaluate_342 {X : Sx} {l : Launch} {D : Nat} {x3 : Nat} {x4 : Int32} {y0 : Int32} {σ : AH} {r : Option Value} {σ' : AH} (hs : Sh σ) (h : W_X3_evaluate_342 X l D x3 x4 y0 σ r σ') : E X l m_X3_evaluate D 342 [(0, .ref 28), (3, .ref x3), (4, .int x4)] [.int y0] σ r σ' := by
  unfold W_X3_evaluate_342 at h
  obtain ⟨nx3, hkx3, hbx3, h⟩ := h
  refine E_istore [(5, .int y0), (0, .ref 28), (3, .ref x3), (4, .int x4)] dX3_evaluate_342 (by decide) rfl ?_
  refine E_goto 350 dX3_evaluate_344 (by decide) ?_
  exact E_lv [1, 2, 3, 0] rfl (w_X3_evaluate_350 hs h)
def W_X3_evaluate_347 (X : Sx) (l : Launch) (D : Nat) (x3 : Nat) (x4 : Int32) (x5 : Int32) (σ : AH) (r : Option Value) (σ' : AH) : Prop := ∃ nx3 : Nat, kd σ x3 = (100, nx3) ∧ x3 < nx σ ∧ W_X3_evaluate_350 X l D x3 (x4 + (-1)) x5 σ r σ'
set_option maxRecDepth 100000 in
theorem w_X3_evaluate_347 {X : Sx} {l : Launch} {D : Nat} {x3 : Nat} {x4 : Int32} {x5 : Int32} {σ : AH} {r : Option Value} {σ' : AH} (hs : Sh σ) (h : W_X3_evaluate_347 X l D x3 x4 x5 σ r σ') : E X l m_X3_evaluate D 347 [(0, .ref 28), (3, .ref x3), (4, .int x4), (5, .int x5)] [] σ r σ' := by
  unfold W_X3_evaluate_347 at h
  obtain ⟨nx3, hkx3, hbx3, h⟩ := h
  refine E_iinc 2 (x4 + (-1)) [(4, .int (x4 + (-1))), (0, .ref 28), (3, .ref x3), (5, .int x5)] dX3_evaluate_347 rfl (congrArg (x4 + ·) (by decide : Int32.ofInt (-1) = -1)) (by decide) rfl ?_
  exact E_lv [1, 2, 0, 3] rfl (w_X3_evaluate_350 hs h)
def W_X3_evaluate_323 (X : Sx) (l : Launch) (D : Nat) (x3 : Nat) (x4 : Int32) (x5 : Int32) (x7 : Int32) (y0 : Int32) (y1 : Int32) (σ : AH) (r : Option Value) (σ' : AH) : Prop := ∃ nx3 : Nat, kd σ x3 = (100, nx3) ∧ x3 < nx σ ∧ (if y1 = y0 then (if x7 ≤ x5 then W_X3_evaluate_342 X l D x3 x4 x5 σ r σ' else W_X3_evaluate_342 X l D x3 x4 (x7 - (1 : Int32)) σ r σ') else W_X3_evaluate_347 X l D x3 x4 x5 σ r σ')
set_option maxRecDepth 100000 in
theorem w_X3_evaluate_323 {X : Sx} {l : Launch} {D : Nat} {x3 : Nat} {x4 : Int32} {x5 : Int32} {x7 : Int32} {y0 : Int32} {y1 : Int32} {σ : AH} {r : Option Value} {σ' : AH} (hs : Sh σ) (h : W_X3_evaluate_323 X l D x3 x4 x5 x7 y0 y1 σ r σ') : E X l m_X3_evaluate D 323 [(0, .ref 28), (3, .ref x3), (4, .int x4), (5, .int x5), (7, .int x7)] [.int y0, .int y1] σ r σ' := by
  unfold W_X3_evaluate_323 at h
  obtain ⟨nx3, hkx3, hbx3, h⟩ := h
  refine E_icmp_ne 347 dX3_evaluate_323 (by decide) (fun c => ?_) (fun c => ?_)
  · rw [if_neg c] at h
    exact E_lv [0, 1, 2, 3] rfl (w_X3_evaluate_347 hs h)
  · rw [if_pos c] at h
    refine E_iload 4 dX3_evaluate_326 rfl ?_
    refine E_iload 3 dX3_evaluate_328 rfl ?_
    refine E_icmp_le 340 dX3_evaluate_330 (by decide) (fun c => ?_) (fun c => ?_)
    · rw [if_pos c] at h
      refine E_iload 3 dX3_evaluate_340 rfl ?_
      exact E_lv [0, 1, 2] rfl (w_X3_evaluate_342 hs h)
    · rw [if_neg c] at h
      refine E_iload 4 dX3_evaluate_333 rfl ?_
      refine E_iconst (1 : Int32) dX3_evaluate_335 (by decide) ?_
      refine E_isub dX3_evaluate_336 ?_
      refine E_goto 342 dX3_evaluate_337 (by decide) ?_
      exact E_lv [0, 1, 2] rfl (w_X3_evaluate_342 hs h)
def W_X3_evaluate_311 (X : Sx) (l : Launch) (D : Nat) (x3 : Nat) (x4 : Int32) (x5 : Int32) (x6 : Int32) (x7 : Int32) (y0 : Int32) (σ : AH) (r : Option Value) (σ' : AH) : Prop := ∃ nx3 : Nat, kd σ x3 = (100, nx3) ∧ x3 < nx σ ∧ (if x6 = (13 : Int32) then W_X3_evaluate_323 X l D x3 x4 x5 x7 (1 : Int32) y0 σ r σ' else W_X3_evaluate_323 X l D x3 x4 x5 x7 (0 : Int32) y0 σ r σ')
set_option maxRecDepth 100000 in
theorem w_X3_evaluate_311 {X : Sx} {l : Launch} {D : Nat} {x3 : Nat} {x4 : Int32} {x5 : Int32} {x6 : Int32} {x7 : Int32} {y0 : Int32} {σ : AH} {r : Option Value} {σ' : AH} (hs : Sh σ) (h : W_X3_evaluate_311 X l D x3 x4 x5 x6 x7 y0 σ r σ') : E X l m_X3_evaluate D 311 [(0, .ref 28), (3, .ref x3), (4, .int x4), (5, .int x5), (6, .int x6), (7, .int x7)] [.int y0] σ r σ' := by
  unfold W_X3_evaluate_311 at h
  obtain ⟨nx3, hkx3, hbx3, h⟩ := h
  refine E_iload 4 dX3_evaluate_311 rfl ?_
  refine E_bipush (13 : Int32) dX3_evaluate_313 (by decide) ?_
  refine E_icmp_ne 322 dX3_evaluate_315 (by decide) (fun c => ?_) (fun c => ?_)
  · rw [if_neg c] at h
    refine E_iconst (0 : Int32) dX3_evaluate_322 (by decide) ?_
    exact E_lv [0, 1, 2, 3, 5] rfl (w_X3_evaluate_323 hs h)
  · rw [if_pos c] at h
    refine E_iconst (1 : Int32) dX3_evaluate_318 (by decide) ?_
    refine E_goto 323 dX3_evaluate_319 (by decide) ?_
    exact E_lv [0, 1, 2, 3, 5] rfl (w_X3_evaluate_323 hs h)
def W_X3_evaluate_285 (X : Sx) (l : Launch) (D : Nat) (x3 : Nat) (x4 : Int32) (x5 : Int32) (x6 : Int32) (x7 : Int32) (σ : AH) (r : Option Value) (σ' : AH) : Prop := ∃ nx3 : Nat, kd σ x3 = (100, nx3) ∧ x3 < nx σ ∧ (if x6 = (14 : Int32) then W_X3_evaluate_347 X l D x3 x4 x5 σ r σ' else vp_in (x4 - (1 : Int32)) 64 ∧ (if (gL σ 33 (x4 - (1 : Int32)).toNatClampNeg) = (0 : Int64) then W_X3_evaluate_311 X l D x3 x4 x5 x6 x7 (0 : Int32) σ r σ' else W_X3_evaluate_311 X l D x3 x4 x5 x6 x7 (1 : Int32) σ r σ'))
set_option maxRecDepth 100000 in
theorem w_X3_evaluate_285 {X : Sx} {l : Launch} {D : Nat} {x3 : Nat} {x4 : Int32} {x5 : Int32} {x6 : Int32} {x7 : Int32} {σ : AH} {r : Option Value} {σ' : AH} (hs : Sh σ) (h : W_X3_evaluate_285 X l D x3 x4 x5 x6 x7 σ r σ') : E X l m_X3_evaluate D 285 [(0, .ref 28), (3, .ref x3), (4, .int x4), (5, .int x5), (6, .int x6), (7, .int x7)] [] σ r σ' := by
  unfold W_X3_evaluate_285 at h
  obtain ⟨nx3, hkx3, hbx3, h⟩ := h
  refine E_iload 4 dX3_evaluate_285 rfl ?_
  refine E_bipush (14 : Int32) dX3_evaluate_287 (by decide) ?_
  refine E_icmp_eq 347 dX3_evaluate_289 (by decide) (fun c => ?_) (fun c => ?_)
  · rw [if_pos c] at h
    exact E_lv [0, 1, 2, 3] rfl (w_X3_evaluate_347 hs h)
  · rw [if_neg c] at h
    refine E_aload_n 0 dX3_evaluate_292 rfl rfl ?_
    refine E_getR 33 dX3_evaluate_293 fl_X3_24 rfl (sk_28 hs) (sn hs (by decide)) (sr_28_5 hs) ?_
    refine E_iload 2 dX3_evaluate_296 rfl ?_
    refine E_iconst (1 : Int32) dX3_evaluate_298 (by decide) ?_
    refine E_isub dX3_evaluate_299 ?_
    obtain ⟨g43, h⟩ := h
    refine E_lald2 ((x4 - (1 : Int32)).toNatClampNeg) dX3_evaluate_300 (sk_33 hs) (sn hs (by decide)) g43 rfl ?_
    refine E_lconst (0 : Int64) dX3_evaluate_301 (by decide) ?_
    refine E_lcmp dX3_evaluate_302 ?_
    refine E_if_eq 310 dX3_evaluate_303 (by decide) (fun c => ?_) (fun c => ?_)
    · rw [if_pos ((lc_eq _ _).mp c)] at h
      refine E_iconst (0 : Int32) dX3_evaluate_310 (by decide) ?_
      exact E_lv [0, 1, 2, 3, 4, 5] rfl (w_X3_evaluate_311 hs h)
    · rw [if_neg (fun q => c ((lc_eq _ _).mpr q))] at h
      refine E_iconst (1 : Int32) dX3_evaluate_306 (by decide) ?_
      refine E_goto 311 dX3_evaluate_307 (by decide) ?_
      exact E_lv [0, 1, 2, 3, 4, 5] rfl (w_X3_evaluate_311 hs h)
def W_X3_evaluate_267 (X : Sx) (l : Launch) (D : Nat) (x3 : Nat) (x4 : Int32) (x5 : Int32) (x6 : Int32) (x7 : Int32) (σ : AH) (r : Option Value) (σ' : AH) : Prop := ∃ nx3 : Nat, kd σ x3 = (100, nx3) ∧ x3 < nx σ ∧ vp_in (x4 - (1 : Int32)) 64 ∧ (if (gL σ 33 (x4 - (1 : Int32)).toNatClampNeg) = (0 : Int64) then (r = some (.long BRK) ∧ σ' = σ) else W_X3_evaluate_285 X l D x3 x4 x5 x6 x7 σ r σ')
set_option maxRecDepth 100000 in
theorem w_X3_evaluate_267 {X : Sx} {l : Launch} {D : Nat} {x3 : Nat} {x4 : Int32} {x5 : Int32} {x6 : Int32} {x7 : Int32} {σ : AH} {r : Option Value} {σ' : AH} (hs : Sh σ) (h : W_X3_evaluate_267 X l D x3 x4 x5 x6 x7 σ r σ') : E X l m_X3_evaluate D 267 [(0, .ref 28), (3, .ref x3), (4, .int x4), (5, .int x5), (6, .int x6), (7, .int x7)] [] σ r σ' := by
  unfold W_X3_evaluate_267 at h
  obtain ⟨nx3, hkx3, hbx3, h⟩ := h
  refine E_aload_n 0 dX3_evaluate_267 rfl rfl ?_
  refine E_getR 33 dX3_evaluate_268 fl_X3_24 rfl (sk_28 hs) (sn hs (by decide)) (sr_28_5 hs) ?_
  refine E_iload 2 dX3_evaluate_271 rfl ?_
  refine E_iconst (1 : Int32) dX3_evaluate_273 (by decide) ?_
  refine E_isub dX3_evaluate_274 ?_
  obtain ⟨g44, h⟩ := h
  refine E_lald2 ((x4 - (1 : Int32)).toNatClampNeg) dX3_evaluate_275 (sk_33 hs) (sn hs (by decide)) g44 rfl ?_
  refine E_lconst (0 : Int64) dX3_evaluate_276 (by decide) ?_
  refine E_lcmp dX3_evaluate_277 ?_
  refine E_if_ne 285 dX3_evaluate_278 (by decide) (fun c => ?_) (fun c => ?_)
  · rw [if_neg (fun q => c ((lc_eq _ _).mpr q))] at h
    exact E_lv [0, 1, 2, 3, 4, 5] rfl (w_X3_evaluate_285 hs h)
  · rw [if_pos ((lc_eq _ _).mp c)] at h
    refine E_ldc2 BRK dX3_evaluate_281 cl_X3_91 ?_
    obtain ⟨rfl, rfl⟩ := h
    exact E_lret dX3_evaluate_284 rfl
def W_X3_evaluate_55 (X : Sx) (l : Launch) (D : Nat) (x3 : Nat) (x4 : Int32) (x5 : Int32) (σ : AH) (r : Option Value) (σ' : AH) : Prop := ∃ nx3 : Nat, kd σ x3 = (100, nx3) ∧ x3 < nx σ ∧ (if x5 < 0 then (r = some (.long BRK) ∧ σ' = σ) else (if (Int32.ofNat nx3) ≤ x5 then (r = some (.long BRK) ∧ σ' = σ) else vp_in x5 nx3 ∧ vp_in x5 nx3 ∧ (if (1 : Int32) < ((gI σ x3 x5.toNatClampNeg) &&& (15 : Int32)) then (if (11 : Int32) ≤ ((gI σ x3 x5.toNatClampNeg) &&& (15 : Int32)) then (if (1 : Int32) ≤ x4 then (if ((gI σ x3 x5.toNatClampNeg) &&& (15 : Int32)) = (15 : Int32) then (r = some (.long (gL σ 33 0)) ∧ σ' = σ) else (if ((gI σ x3 x5.toNatClampNeg) &&& (15 : Int32)) = (11 : Int32) then vp_in (x4 - (1 : Int32)) 64 ∧ vp_in (x4 - (1 : Int32)) 64 ∧ W_X3_evaluate_350 X l D x3 x4 x5 (sL σ 33 ((x4 - (1 : Int32)).toNatClampNeg) ((1 : Int64) - (gL σ 33 (x4 - (1 : Int32)).toNatClampNeg))) r σ' else (if ((gI σ x3 x5.toNatClampNeg) &&& (15 : Int32)) = (14 : Int32) then W_X3_evaluate_267 X l D x3 x4 x5 ((gI σ x3 x5.toNatClampNeg) &&& (15 : Int32)) ((gI σ x3 x5.toNatClampNeg) >>> ((4 : Int32) &&& 31)) σ r σ' else W_X3_evaluate_285 X l D x3 x4 x5 ((gI σ x3 x5.toNatClampNeg) &&& (15 : Int32)) ((gI σ x3 x5.toNatClampNeg) >>> ((4 : Int32) &&& 31)) σ r σ'))) else (r = some (.long BRK) ∧ σ' = σ)) else (if (2 : Int32) ≤ x4 then vp_in ((x4 + (-1)) - (1 : Int32)) 64 ∧ vp_in (x4 + (-1)) 64 ∧ ∃ d32 : Nat, ∃ v37 : Int64, ∃ σ33 : AH, d32 + 1 ≤ D ∧ Call X l m_X3_joined d32 [.int ((gI σ x3 x5.toNatClampNeg) &&& (15 : Int32)), .long (gL σ 33 ((x4 + (-1)) - (1 : Int32)).toNatClampNeg), .long (gL σ 33 (x4 + (-1)).toNatClampNeg)] σ (some (.long v37)) σ33 ∧ vp_in ((x4 + (-1)) - (1 : Int32)) 64 ∧ vp_in ((x4 + (-1)) - (1 : Int32)) 64 ∧ (((gL (sL σ33 33 (((x4 + (-1)) - (1 : Int32)).toNatClampNeg) v37) 33 ((x4 + (-1)) - (1 : Int32)).toNatClampNeg) = BRK → (r = some (.long BRK) ∧ σ' = (sL σ33 33 (((x4 + (-1)) - (1 : Int32)).toNatClampNeg) v37))) ∧ (¬ (gL (sL σ33 33 (((x4 + (-1)) - (1 : Int32)).toNatClampNeg) v37) 33 ((x4 + (-1)) - (1 : Int32)).toNatClampNeg) = BRK → W_X3_evaluate_350 X l D x3 (x4 + (-1)) x5 (sL σ33 33 (((x4 + (-1)) - (1 : Int32)).toNatClampNeg) v37) r σ')) else (r = some (.long BRK) ∧ σ' = σ))) else (if x4 < (64 : Int32) then (if ((gI σ x3 x5.toNatClampNeg) &&& (15 : Int32)) = 0 then W_X3_evaluate_129 X l D x3 x4 x5 ((((gI σ x3 x5.toNatClampNeg) >>> ((4 : Int32) &&& 31))).toInt64) x4 σ r σ' else vp_in ((gI σ x3 x5.toNatClampNeg) >>> ((4 : Int32) &&& 31)) 7 ∧ W_X3_evaluate_129 X l D x3 x4 x5 (((gI σ 32 ((gI σ x3 x5.toNatClampNeg) >>> ((4 : Int32) &&& 31)).toNatClampNeg)).toInt64) x4 σ r σ') else (r = some (.long BRK) ∧ σ' = σ)))))
set_option maxRecDepth 100000 in
theorem w_X3_evaluate_55 {X : Sx} {l : Launch} {D : Nat} {x3 : Nat} {x4 : Int32} {x5 : Int32} {σ : AH} {r : Option Value} {σ' : AH} (hs : Sh σ) (h : W_X3_evaluate_55 X l D x3 x4 x5 σ r σ') : E X l m_X3_evaluate D 55 [(0, .ref 28), (3, .ref x3), (4, .int x4), (5, .int x5)] [] σ r σ' := by
  unfold W_X3_evaluate_55 at h
  obtain ⟨nx3, hkx3, hbx3, h⟩ := h
  refine E_iload 3 dX3_evaluate_55 rfl ?_
  refine E_if_lt 356 dX3_evaluate_57 (by decide) (fun c => ?_) (fun c => ?_)
  · rw [if_pos c] at h
    refine E_ldc2 BRK dX3_evaluate_356 cl_X3_91 ?_
    obtain ⟨rfl, rfl⟩ := h
    exact E_lret dX3_evaluate_359 rfl
  · rw [if_neg c] at h
    refine E_iload 3 dX3_evaluate_60 rfl ?_
    refine E_aload_n 1 dX3_evaluate_62 rfl rfl ?_
    refine E_alen dX3_evaluate_63 hkx3 hbx3 (by decide) (by decide) ?_
    refine E_icmp_ge 356 dX3_evaluate_64 (by decide) (fun c => ?_) (fun c => ?_)
    · rw [if_pos c] at h
      refine E_ldc2 BRK dX3_evaluate_356 cl_X3_91 ?_
      obtain ⟨rfl, rfl⟩ := h
      exact E_lret dX3_evaluate_359 rfl
    · rw [if_neg c] at h
      refine E_aload_n 1 dX3_evaluate_67 rfl rfl ?_
      refine E_iload 3 dX3_evaluate_68 rfl ?_
      obtain ⟨g26, h⟩ := h
      refine E_iald2 (x5.toNatClampNeg) dX3_evaluate_70 hkx3 hbx3 g26 rfl ?_
      refine E_bipush (15 : Int32) dX3_evaluate_71 (by decide) ?_
      refine E_iand dX3_evaluate_73 ?_
      refine E_istore [(6, .int ((gI σ x3 x5.toNatClampNeg) &&& (15 : Int32))), (0, .ref 28), (3, .ref x3), (4, .int x4), (5, .int x5)] dX3_evaluate_74 (by decide) rfl ?_
      refine E_aload_n 2 dX3_evaluate_76 rfl rfl ?_
      refine E_iload 4 dX3_evaluate_77 rfl ?_
      obtain ⟨g27, h⟩ := h
      refine E_iald2 (x5.toNatClampNeg) dX3_evaluate_79 hkx3 hbx3 g27 rfl ?_
      refine E_iconst (4 : Int32) dX3_evaluate_80 (by decide) ?_
      refine E_ishr dX3_evaluate_81 ?_
      refine E_istore [(7, .int ((gI σ x3 x5.toNatClampNeg) >>> ((4 : Int32) &&& 31))), (6, .int ((gI σ x3 x5.toNatClampNeg) &&& (15 : Int32))), (0, .ref 28), (3, .ref x3), (4, .int x4), (5, .int x5)] dX3_evaluate_82 (by decide) rfl ?_
      refine E_iload 1 dX3_evaluate_84 rfl ?_
      refine E_iconst (1 : Int32) dX3_evaluate_86 (by decide) ?_
      refine E_icmp_gt 136 dX3_evaluate_87 (by decide) (fun c => ?_) (fun c => ?_)
      · rw [if_pos c] at h
        refine E_iload 1 dX3_evaluate_136 rfl ?_
        refine E_bipush (11 : Int32) dX3_evaluate_138 (by decide) ?_
        refine E_icmp_ge 206 dX3_evaluate_140 (by decide) (fun c => ?_) (fun c => ?_)
        · rw [if_pos c] at h
          refine E_iload 4 dX3_evaluate_206 rfl ?_
          refine E_iconst (1 : Int32) dX3_evaluate_208 (by decide) ?_
          refine E_icmp_ge 216 dX3_evaluate_209 (by decide) (fun c => ?_) (fun c => ?_)
          · rw [if_pos c] at h
            refine E_iload 1 dX3_evaluate_216 rfl ?_
            refine E_bipush (15 : Int32) dX3_evaluate_218 (by decide) ?_
            refine E_icmp_ne 230 dX3_evaluate_220 (by decide) (fun c => ?_) (fun c => ?_)
            · rw [if_neg c] at h
              refine E_iload 1 dX3_evaluate_230 rfl ?_
              refine E_bipush (11 : Int32) dX3_evaluate_232 (by decide) ?_
              refine E_icmp_ne 260 dX3_evaluate_234 (by decide) (fun c => ?_) (fun c => ?_)
              · rw [if_neg c] at h
                refine E_iload 1 dX3_evaluate_260 rfl ?_
                refine E_bipush (14 : Int32) dX3_evaluate_262 (by decide) ?_
                refine E_icmp_ne 285 dX3_evaluate_264 (by decide) (fun c => ?_) (fun c => ?_)
                · rw [if_neg c] at h
                  exact E_lv [2, 3, 4, 5, 1, 0] rfl (w_X3_evaluate_285 hs h)
                · rw [if_pos c] at h
                  exact E_lv [2, 3, 4, 5, 1, 0] rfl (w_X3_evaluate_267 hs h)
              · rw [if_pos c] at h
                refine E_aload_n 2 dX3_evaluate_237 rfl rfl ?_
                refine E_getR 33 dX3_evaluate_238 fl_X3_24 rfl (sk_28 hs) (sn hs (by decide)) (sr_28_5 hs) ?_
                refine E_iload 4 dX3_evaluate_241 rfl ?_
                refine E_iconst (1 : Int32) dX3_evaluate_243 (by decide) ?_
                refine E_isub dX3_evaluate_244 ?_
                refine E_lconst (1 : Int64) dX3_evaluate_245 (by decide) ?_
                refine E_aload_n 2 dX3_evaluate_246 rfl rfl ?_
                refine E_getR 33 dX3_evaluate_247 fl_X3_24 rfl (sk_28 hs) (sn hs (by decide)) (sr_28_5 hs) ?_
                refine E_iload 4 dX3_evaluate_250 rfl ?_
                refine E_iconst (1 : Int32) dX3_evaluate_252 (by decide) ?_
                refine E_isub dX3_evaluate_253 ?_
                obtain ⟨g28, h⟩ := h
                refine E_lald2 ((x4 - (1 : Int32)).toNatClampNeg) dX3_evaluate_254 (sk_33 hs) (sn hs (by decide)) g28 rfl ?_
                refine E_lsub dX3_evaluate_255 ?_
                obtain ⟨g29, h⟩ := h
                refine E_last2 ((x4 - (1 : Int32)).toNatClampNeg) dX3_evaluate_256 (sk_33 hs) (sn hs (by decide)) (Or.inl (by decide)) g29 rfl ?_
                refine E_goto 350 dX3_evaluate_257 (by decide) ?_
                exact E_lv [2, 3, 4, 5] rfl (w_X3_evaluate_350 hs h)
            · rw [if_pos c] at h
              refine E_aload_n 2 dX3_evaluate_223 rfl rfl ?_
              refine E_getR 33 dX3_evaluate_224 fl_X3_24 rfl (sk_28 hs) (sn hs (by decide)) (sr_28_5 hs) ?_
              refine E_iconst (0 : Int32) dX3_evaluate_227 (by decide) ?_
              refine E_lald2 0 dX3_evaluate_228 (sk_33 hs) (sn hs (by decide)) (vp_lit (by decide)) (by decide) ?_
              obtain ⟨rfl, rfl⟩ := h
              exact E_lret dX3_evaluate_229 rfl
          · rw [if_neg c] at h
            refine E_ldc2 BRK dX3_evaluate_212 cl_X3_91 ?_
            obtain ⟨rfl, rfl⟩ := h
            exact E_lret dX3_evaluate_215 rfl
        · rw [if_neg c] at h
          refine E_iload 4 dX3_evaluate_143 rfl ?_
          refine E_iconst (2 : Int32) dX3_evaluate_145 (by decide) ?_
          refine E_icmp_ge 153 dX3_evaluate_146 (by decide) (fun c => ?_) (fun c => ?_)
          · rw [if_pos c] at h
            refine E_iinc 4 (x4 + (-1)) [(4, .int (x4 + (-1))), (7, .int ((gI σ x3 x5.toNatClampNeg) >>> ((4 : Int32) &&& 31))), (6, .int ((gI σ x3 x5.toNatClampNeg) &&& (15 : Int32))), (0, .ref 28), (3, .ref x3), (5, .int x5)] dX3_evaluate_153 rfl (congrArg (x4 + ·) (by decide : Int32.ofInt (-1) = -1)) (by decide) rfl ?_
            refine E_aload_n 3 dX3_evaluate_156 rfl rfl ?_
            refine E_getR 33 dX3_evaluate_157 fl_X3_24 rfl (sk_28 hs) (sn hs (by decide)) (sr_28_5 hs) ?_
            refine E_iload 0 dX3_evaluate_160 rfl ?_
            refine E_iconst (1 : Int32) dX3_evaluate_162 (by decide) ?_
            refine E_isub dX3_evaluate_163 ?_
            refine E_iload 2 dX3_evaluate_164 rfl ?_
            refine E_aload_n 3 dX3_evaluate_166 rfl rfl ?_
            refine E_getR 33 dX3_evaluate_167 fl_X3_24 rfl (sk_28 hs) (sn hs (by decide)) (sr_28_5 hs) ?_
            refine E_iload 0 dX3_evaluate_170 rfl ?_
            refine E_iconst (1 : Int32) dX3_evaluate_172 (by decide) ?_
            refine E_isub dX3_evaluate_173 ?_
            obtain ⟨g30, h⟩ := h
            refine E_lald2 (((x4 + (-1)) - (1 : Int32)).toNatClampNeg) dX3_evaluate_174 (sk_33 hs) (sn hs (by decide)) g30 rfl ?_
            refine E_aload_n 3 dX3_evaluate_175 rfl rfl ?_
            refine E_getR 33 dX3_evaluate_176 fl_X3_24 rfl (sk_28 hs) (sn hs (by decide)) (sr_28_5 hs) ?_
            refine E_iload 0 dX3_evaluate_179 rfl ?_
            obtain ⟨g31, h⟩ := h
            refine E_lald2 ((x4 + (-1)).toNatClampNeg) dX3_evaluate_181 (sk_33 hs) (sn hs (by decide)) g31 rfl ?_
            obtain ⟨d32, v37, σ33, hD34, hC35, h⟩ := h
            have hs36 := hC35.1.2.2.2.1 hs
            have hk38 := (hC35.1.2.2.1 _ hbx3).trans hkx3
            have hb39 := Nat.lt_of_lt_of_le hbx3 hC35.1.1
            refine E_callS (As := [.int ((gI σ x3 x5.toNatClampNeg) &&& (15 : Int32)), .long (gL σ 33 ((x4 + (-1)) - (1 : Int32)).toNatClampNeg), .long (gL σ 33 (x4 + (-1)).toNatClampNeg)]) (rest := [.int ((x4 + (-1)) - (1 : Int32)), .ref 33]) (r1 := (some (.long v37))) dX3_evaluate_182 ok_X3_joined is_X3_joined ml_X3_99 hD34 rfl rfl (Nat.le_of_ble_eq_true rfl) (by decide +kernel) hC35 ?_
            obtain ⟨g40, h⟩ := h
            refine E_last2 (((x4 + (-1)) - (1 : Int32)).toNatClampNeg) dX3_evaluate_185 (sk_33 hs36) (sn hs36 (by decide)) (Or.inl (by decide)) g40 rfl ?_
            refine E_aload_n 3 dX3_evaluate_186 rfl rfl ?_
            refine E_getR 33 dX3_evaluate_187 fl_X3_24 rfl (sk_28 hs36) (sn hs36 (by decide)) (sr_28_5 hs36) ?_
            refine E_iload 0 dX3_evaluate_190 rfl ?_
            refine E_iconst (1 : Int32) dX3_evaluate_192 (by decide) ?_
            refine E_isub dX3_evaluate_193 ?_
            obtain ⟨g41, h⟩ := h
            refine E_lald2 (((x4 + (-1)) - (1 : Int32)).toNatClampNeg) dX3_evaluate_194 (sk_33 hs36) (sn hs36 (by decide)) g41 rfl ?_
            refine E_ldc2 BRK dX3_evaluate_195 cl_X3_91 ?_
            refine E_lcmp dX3_evaluate_198 ?_
            refine E_if_ne 350 dX3_evaluate_199 (by decide) (fun c => ?_) (fun c => ?_)
            · replace h := h.2 (fun q => c ((lc_eq _ _).mpr q))
              exact E_lv [3, 4, 0, 5] rfl (w_X3_evaluate_350 hs36 h)
            · replace h := h.1 ((lc_eq _ _).mp c)
              refine E_ldc2 BRK dX3_evaluate_202 cl_X3_91 ?_
              obtain ⟨rfl, rfl⟩ := h
              exact E_lret dX3_evaluate_205 rfl
          · rw [if_neg c] at h
            refine E_ldc2 BRK dX3_evaluate_149 cl_X3_91 ?_
            obtain ⟨rfl, rfl⟩ := h
            exact E_lret dX3_evaluate_152 rfl
      · rw [if_neg c] at h
        refine E_iload 4 dX3_evaluate_90 rfl ?_
        refine E_aload_n 2 dX3_evaluate_92 rfl rfl ?_
        refine E_getR 33 dX3_evaluate_93 fl_X3_24 rfl (sk_28 hs) (sn hs (by decide)) (sr_28_5 hs) ?_
        refine E_alen2 (64 : Int32) dX3_evaluate_96 (sk_33 hs) (sn hs (by decide)) (by decide) (by decide) (by decide) ?_
        refine E_icmp_lt 104 dX3_evaluate_97 (by decide) (fun c => ?_) (fun c => ?_)
        · rw [if_pos c] at h
          refine E_aload_n 2 dX3_evaluate_104 rfl rfl ?_
          refine E_getR 33 dX3_evaluate_105 fl_X3_24 rfl (sk_28 hs) (sn hs (by decide)) (sr_28_5 hs) ?_
          refine E_iload 4 dX3_evaluate_108 rfl ?_
          refine E_iload 1 dX3_evaluate_110 rfl ?_
          refine E_if_ne 121 dX3_evaluate_112 (by decide) (fun c => ?_) (fun c => ?_)
          · rw [if_neg c] at h
            refine E_aload_n 2 dX3_evaluate_121 rfl rfl ?_
            refine E_getR 32 dX3_evaluate_122 fl_X3_21 rfl (sk_28 hs) (sn hs (by decide)) (sr_28_4 hs) ?_
            refine E_iload 0 dX3_evaluate_125 rfl ?_
            obtain ⟨g42, h⟩ := h
            refine E_iald2 (((gI σ x3 x5.toNatClampNeg) >>> ((4 : Int32) &&& 31)).toNatClampNeg) dX3_evaluate_127 (sk_32 hs) (sn hs (by decide)) g42 rfl ?_
            refine E_i2l dX3_evaluate_128 ?_
            exact E_lv [2, 3, 4, 5] rfl (w_X3_evaluate_129 hs h)
          · rw [if_pos c] at h
            refine E_iload 0 dX3_evaluate_115 rfl ?_
            refine E_i2l dX3_evaluate_117 ?_
            refine E_goto 129 dX3_evaluate_118 (by decide) ?_
            exact E_lv [2, 3, 4, 5] rfl (w_X3_evaluate_129 hs h)
        · rw [if_neg c] at h
          refine E_ldc2 BRK dX3_evaluate_100 cl_X3_91 ?_
          obtain ⟨rfl, rfl⟩ := h
          exact E_lret dX3_evaluate_103 rfl
def W_X3_joined_187 (X : Sx) (l : Launch) (D : Nat) (σ : AH) (r : Option Value) (σ' : AH) : Prop := (r = some (.long BRK) ∧ σ' = σ)
set_option maxRecDepth 100000 in
theorem w_X3_joined_187 {X : Sx} {l : Launch} {D : Nat} {σ : AH} {r : Option Value} {σ' : AH} (hs : Sh σ) (h : W_X3_joined_187 X l D σ r σ') : E X l m_X3_joined D 187 [] [] σ r σ' := by
  unfold W_X3_joined_187 at h
  refine E_ldc2 BRK dX3_joined_187 cl_X3_91 ?_
  refine E_goto 195 dX3_joined_190 (by decide) ?_
  obtain ⟨rfl, rfl⟩ := h
  exact E_lret dX3_joined_195 rfl
def W_X3_joined_169 (X : Sx) (l : Launch) (D : Nat) (x5 : Int64) (σ : AH) (r : Option Value) (σ' : AH) : Prop := (if (1000000000 : Int64) < x5 then W_X3_joined_187 X l D σ r σ' else (if (-1000000000 : Int64) ≤ x5 then (r = some (.long x5) ∧ σ' = σ) else W_X3_joined_187 X l D σ r σ'))
set_option maxRecDepth 100000 in
theorem w_X3_joined_169 {X : Sx} {l : Launch} {D : Nat} {x5 : Int64} {σ : AH} {r : Option Value} {σ' : AH} (hs : Sh σ) (h : W_X3_joined_169 X l D x5 σ r σ') : E X l m_X3_joined D 169 [(5, .long x5)] [] σ r σ' := by
  unfold W_X3_joined_169 at h
  refine E_lload 0 dX3_joined_169 rfl ?_
  refine E_ldc2 (1000000000 : Int64) dX3_joined_171 cl_X3_103 ?_
  refine E_lcmp dX3_joined_174 ?_
  refine E_if_gt 187 dX3_joined_175 (by decide) (fun c => ?_) (fun c => ?_)
  · rw [if_pos ((lc_gt _ _).mp c)] at h
    exact E_lv [] rfl (w_X3_joined_187 hs h)
  · rw [if_neg (fun q => c ((lc_gt _ _).mpr q))] at h
    refine E_lload 0 dX3_joined_178 rfl ?_
    refine E_ldc2 (-1000000000 : Int64) dX3_joined_180 cl_X3_105 ?_
    refine E_lcmp dX3_joined_183 ?_
    refine E_if_ge 193 dX3_joined_184 (by decide) (fun c => ?_) (fun c => ?_)
    · rw [if_pos ((lc_ge _ _).mp c)] at h
      refine E_lload 0 dX3_joined_193 rfl ?_
      obtain ⟨rfl, rfl⟩ := h
      exact E_lret dX3_joined_195 rfl
    · rw [if_neg (fun q => c ((lc_ge _ _).mpr q))] at h
      exact E_lv [] rfl (w_X3_joined_187 hs h)
def W_X3_joined_103 (X : Sx) (l : Launch) (D : Nat) (y0 : Int64) (σ : AH) (r : Option Value) (σ' : AH) : Prop := W_X3_joined_169 X l D y0 σ r σ'
set_option maxRecDepth 100000 in
theorem w_X3_joined_103 {X : Sx} {l : Launch} {D : Nat} {y0 : Int64} {σ : AH} {r : Option Value} {σ' : AH} (hs : Sh σ) (h : W_X3_joined_103 X l D y0 σ r σ') : E X l m_X3_joined D 103 [] [.long y0] σ r σ' := by
  unfold W_X3_joined_103 at h
  refine E_lstore [(5, .long y0)] dX3_joined_103 (by decide) rfl ?_
  refine E_goto 169 dX3_joined_105 (by decide) ?_
  exact E_lv [0] rfl (w_X3_joined_169 hs h)
def W_X3_joined_119 (X : Sx) (l : Launch) (D : Nat) (y0 : Int64) (σ : AH) (r : Option Value) (σ' : AH) : Prop := W_X3_joined_169 X l D y0 σ r σ'
set_option maxRecDepth 100000 in
theorem w_X3_joined_119 {X : Sx} {l : Launch} {D : Nat} {y0 : Int64} {σ : AH} {r : Option Value} {σ' : AH} (hs : Sh σ) (h : W_X3_joined_119 X l D y0 σ r σ') : E X l m_X3_joined D 119 [] [.long y0] σ r σ' := by
  unfold W_X3_joined_119 at h
  refine E_lstore [(5, .long y0)] dX3_joined_119 (by decide) rfl ?_
  refine E_goto 169 dX3_joined_121 (by decide) ?_
  exact E_lv [0] rfl (w_X3_joined_169 hs h)
def W_X3_joined_135 (X : Sx) (l : Launch) (D : Nat) (y0 : Int64) (σ : AH) (r : Option Value) (σ' : AH) : Prop := W_X3_joined_169 X l D y0 σ r σ'
set_option maxRecDepth 100000 in
theorem w_X3_joined_135 {X : Sx} {l : Launch} {D : Nat} {y0 : Int64} {σ : AH} {r : Option Value} {σ' : AH} (hs : Sh σ) (h : W_X3_joined_135 X l D y0 σ r σ') : E X l m_X3_joined D 135 [] [.long y0] σ r σ' := by
  unfold W_X3_joined_135 at h
  refine E_lstore [(5, .long y0)] dX3_joined_135 (by decide) rfl ?_
  refine E_goto 169 dX3_joined_137 (by decide) ?_
  exact E_lv [0] rfl (w_X3_joined_169 hs h)
def W_X3_joined_151 (X : Sx) (l : Launch) (D : Nat) (y0 : Int64) (σ : AH) (r : Option Value) (σ' : AH) : Prop := W_X3_joined_169 X l D y0 σ r σ'
set_option maxRecDepth 100000 in
theorem w_X3_joined_151 {X : Sx} {l : Launch} {D : Nat} {y0 : Int64} {σ : AH} {r : Option Value} {σ' : AH} (hs : Sh σ) (h : W_X3_joined_151 X l D y0 σ r σ') : E X l m_X3_joined D 151 [] [.long y0] σ r σ' := by
  unfold W_X3_joined_151 at h
  refine E_lstore [(5, .long y0)] dX3_joined_151 (by decide) rfl ?_
  refine E_goto 169 dX3_joined_153 (by decide) ?_
  exact E_lv [0] rfl (w_X3_joined_169 hs h)
def W_X3_joined_167 (X : Sx) (l : Launch) (D : Nat) (y0 : Int64) (σ : AH) (r : Option Value) (σ' : AH) : Prop := W_X3_joined_169 X l D y0 σ r σ'
set_option maxRecDepth 100000 in
theorem w_X3_joined_167 {X : Sx} {l : Launch} {D : Nat} {y0 : Int64} {σ : AH} {r : Option Value} {σ' : AH} (hs : Sh σ) (h : W_X3_joined_167 X l D y0 σ r σ') : E X l m_X3_joined D 167 [] [.long y0] σ r σ' := by
  unfold W_X3_joined_167 at h
  refine E_lstore [(5, .long y0)] dX3_joined_167 (by decide) rfl ?_
  exact E_lv [0] rfl (w_X3_joined_169 hs h)
def W_X3_joined_87 (X : Sx) (l : Launch) (D : Nat) (y0 : Int64) (σ : AH) (r : Option Value) (σ' : AH) : Prop := W_X3_joined_169 X l D y0 σ r σ'
set_option maxRecDepth 100000 in
theorem w_X3_joined_87 {X : Sx} {l : Launch} {D : Nat} {y0 : Int64} {σ : AH} {r : Option Value} {σ' : AH} (hs : Sh σ) (h : W_X3_joined_87 X l D y0 σ r σ') : E X l m_X3_joined D 87 [] [.long y0] σ r σ' := by
  unfold W_X3_joined_87 at h
  refine E_lstore [(5, .long y0)] dX3_joined_87 (by decide) rfl ?_
  refine E_goto 169 dX3_joined_89 (by decide) ?_
  exact E_lv [0] rfl (w_X3_joined_169 hs h)
def W_X3_joined_0 (X : Sx) (l : Launch) (D : Nat) (x0 : Int32) (x1 : Int64) (x3 : Int64) (σ : AH) (r : Option Value) (σ' : AH) : Prop := (if x0 = 2 then W_X3_joined_169 X l D (x1 + x3) σ r σ' else (if x0 = 3 then W_X3_joined_169 X l D (x1 - x3) σ r σ' else (if x0 = 4 then W_X3_joined_169 X l D (x1 * x3) σ r σ' else (if x0 = 5 then (if x3 = (0 : Int64) then W_X3_joined_87 X l D BRK σ r σ' else ¬ x3 = 0 ∧ W_X3_joined_87 X l D (x1 / x3) σ r σ') else (if x0 = 6 then (if x3 ≤ x1 then W_X3_joined_103 X l D x3 σ r σ' else W_X3_joined_103 X l D x1 σ r σ') else (if x0 = 7 then (if x1 ≤ x3 then W_X3_joined_119 X l D x3 σ r σ' else W_X3_joined_119 X l D x1 σ r σ') else (if x0 = 8 then (if x3 ≤ x1 then W_X3_joined_135 X l D (0 : Int64) σ r σ' else W_X3_joined_135 X l D (1 : Int64) σ r σ') else (if x0 = 9 then (if x1 ≤ x3 then W_X3_joined_151 X l D (0 : Int64) σ r σ' else W_X3_joined_151 X l D (1 : Int64) σ r σ') else (if x1 = x3 then W_X3_joined_167 X l D (1 : Int64) σ r σ' else W_X3_joined_167 X l D (0 : Int64) σ r σ')))))))))
set_option maxRecDepth 100000 in
theorem w_X3_joined_0 {X : Sx} {l : Launch} {D : Nat} {x0 : Int32} {x1 : Int64} {x3 : Int64} {σ : AH} {r : Option Value} {σ' : AH} (hs : Sh σ) (h : W_X3_joined_0 X l D x0 x1 x3 σ r σ') : E X l m_X3_joined D 0 [(0, .int x0), (1, .long x1), (3, .long x3)] [] σ r σ' := by
  unfold W_X3_joined_0 at h
  refine E_iload_n 0 dX3_joined_0 rfl rfl ?_
  by_cases c2 : x0 = 2
  · rw [if_pos c2] at h
    refine E_tabIn (off := 47) 48 dX3_joined_1 (by rw [c2]; decide) (by rw [c2]; decide) (by rw [c2]; rfl) (by decide) ?_
    refine E_lload_n 1 dX3_joined_48 rfl rfl ?_
    refine E_lload_n 2 dX3_joined_49 rfl rfl ?_
    refine E_ladd dX3_joined_50 ?_
    refine E_lstore [(5, .long (x1 + x3)), (0, .int x0), (1, .long x1), (3, .long x3)] dX3_joined_51 (by decide) rfl ?_
    refine E_goto 169 dX3_joined_53 (by decide) ?_
    exact E_lv [0] rfl (w_X3_joined_169 hs h)
  rw [if_neg c2] at h
  by_cases c3 : x0 = 3
  · rw [if_pos c3] at h
    refine E_tabIn (off := 55) 56 dX3_joined_1 (by rw [c3]; decide) (by rw [c3]; decide) (by rw [c3]; rfl) (by decide) ?_
    refine E_lload_n 1 dX3_joined_56 rfl rfl ?_
    refine E_lload_n 2 dX3_joined_57 rfl rfl ?_
    refine E_lsub dX3_joined_58 ?_
    refine E_lstore [(5, .long (x1 - x3)), (0, .int x0), (1, .long x1), (3, .long x3)] dX3_joined_59 (by decide) rfl ?_
    refine E_goto 169 dX3_joined_61 (by decide) ?_
    exact E_lv [0] rfl (w_X3_joined_169 hs h)
  rw [if_neg c3] at h
  by_cases c4 : x0 = 4
  · rw [if_pos c4] at h
    refine E_tabIn (off := 63) 64 dX3_joined_1 (by rw [c4]; decide) (by rw [c4]; decide) (by rw [c4]; rfl) (by decide) ?_
    refine E_lload_n 1 dX3_joined_64 rfl rfl ?_
    refine E_lload_n 2 dX3_joined_65 rfl rfl ?_
    refine E_lmul dX3_joined_66 ?_
    refine E_lstore [(5, .long (x1 * x3)), (0, .int x0), (1, .long x1), (3, .long x3)] dX3_joined_67 (by decide) rfl ?_
    refine E_goto 169 dX3_joined_69 (by decide) ?_
    exact E_lv [0] rfl (w_X3_joined_169 hs h)
  rw [if_neg c4] at h
  by_cases c5 : x0 = 5
  · rw [if_pos c5] at h
    refine E_tabIn (off := 71) 72 dX3_joined_1 (by rw [c5]; decide) (by rw [c5]; decide) (by rw [c5]; rfl) (by decide) ?_
    refine E_lload_n 2 dX3_joined_72 rfl rfl ?_
    refine E_lconst (0 : Int64) dX3_joined_73 (by decide) ?_
    refine E_lcmp dX3_joined_74 ?_
    refine E_if_ne 84 dX3_joined_75 (by decide) (fun c => ?_) (fun c => ?_)
    · rw [if_neg (fun q => c ((lc_eq _ _).mpr q))] at h
      refine E_lload_n 1 dX3_joined_84 rfl rfl ?_
      refine E_lload_n 2 dX3_joined_85 rfl rfl ?_
      obtain ⟨g1, h⟩ := h
      refine E_ldiv dX3_joined_86 g1 ?_
      exact E_lv [] rfl (w_X3_joined_87 hs h)
    · rw [if_pos ((lc_eq _ _).mp c)] at h
      refine E_ldc2 BRK dX3_joined_78 cl_X3_91 ?_
      refine E_goto 87 dX3_joined_81 (by decide) ?_
      exact E_lv [] rfl (w_X3_joined_87 hs h)
  rw [if_neg c5] at h
  by_cases c6 : x0 = 6
  · rw [if_pos c6] at h
    refine E_tabIn (off := 91) 92 dX3_joined_1 (by rw [c6]; decide) (by rw [c6]; decide) (by rw [c6]; rfl) (by decide) ?_
    refine E_lload_n 1 dX3_joined_92 rfl rfl ?_
    refine E_lload_n 2 dX3_joined_93 rfl rfl ?_
    refine E_lcmp dX3_joined_94 ?_
    refine E_if_ge 102 dX3_joined_95 (by decide) (fun c => ?_) (fun c => ?_)
    · rw [if_pos ((lc_ge _ _).mp c)] at h
      refine E_lload_n 2 dX3_joined_102 rfl rfl ?_
      exact E_lv [] rfl (w_X3_joined_103 hs h)
    · rw [if_neg (fun q => c ((lc_ge _ _).mpr q))] at h
      refine E_lload_n 1 dX3_joined_98 rfl rfl ?_
      refine E_goto 103 dX3_joined_99 (by decide) ?_
      exact E_lv [] rfl (w_X3_joined_103 hs h)
  rw [if_neg c6] at h
  by_cases c7 : x0 = 7
  · rw [if_pos c7] at h
    refine E_tabIn (off := 107) 108 dX3_joined_1 (by rw [c7]; decide) (by rw [c7]; decide) (by rw [c7]; rfl) (by decide) ?_
    refine E_lload_n 1 dX3_joined_108 rfl rfl ?_
    refine E_lload_n 2 dX3_joined_109 rfl rfl ?_
    refine E_lcmp dX3_joined_110 ?_
    refine E_if_le 118 dX3_joined_111 (by decide) (fun c => ?_) (fun c => ?_)
    · rw [if_pos ((lc_le _ _).mp c)] at h
      refine E_lload_n 2 dX3_joined_118 rfl rfl ?_
      exact E_lv [] rfl (w_X3_joined_119 hs h)
    · rw [if_neg (fun q => c ((lc_le _ _).mpr q))] at h
      refine E_lload_n 1 dX3_joined_114 rfl rfl ?_
      refine E_goto 119 dX3_joined_115 (by decide) ?_
      exact E_lv [] rfl (w_X3_joined_119 hs h)
  rw [if_neg c7] at h
  by_cases c8 : x0 = 8
  · rw [if_pos c8] at h
    refine E_tabIn (off := 123) 124 dX3_joined_1 (by rw [c8]; decide) (by rw [c8]; decide) (by rw [c8]; rfl) (by decide) ?_
    refine E_lload_n 1 dX3_joined_124 rfl rfl ?_
    refine E_lload_n 2 dX3_joined_125 rfl rfl ?_
    refine E_lcmp dX3_joined_126 ?_
    refine E_if_ge 134 dX3_joined_127 (by decide) (fun c => ?_) (fun c => ?_)
    · rw [if_pos ((lc_ge _ _).mp c)] at h
      refine E_lconst (0 : Int64) dX3_joined_134 (by decide) ?_
      exact E_lv [] rfl (w_X3_joined_135 hs h)
    · rw [if_neg (fun q => c ((lc_ge _ _).mpr q))] at h
      refine E_lconst (1 : Int64) dX3_joined_130 (by decide) ?_
      refine E_goto 135 dX3_joined_131 (by decide) ?_
      exact E_lv [] rfl (w_X3_joined_135 hs h)
  rw [if_neg c8] at h
  by_cases c9 : x0 = 9
  · rw [if_pos c9] at h
    refine E_tabIn (off := 139) 140 dX3_joined_1 (by rw [c9]; decide) (by rw [c9]; decide) (by rw [c9]; rfl) (by decide) ?_
    refine E_lload_n 1 dX3_joined_140 rfl rfl ?_
    refine E_lload_n 2 dX3_joined_141 rfl rfl ?_
    refine E_lcmp dX3_joined_142 ?_
    refine E_if_le 150 dX3_joined_143 (by decide) (fun c => ?_) (fun c => ?_)
    · rw [if_pos ((lc_le _ _).mp c)] at h
      refine E_lconst (0 : Int64) dX3_joined_150 (by decide) ?_
      exact E_lv [] rfl (w_X3_joined_151 hs h)
    · rw [if_neg (fun q => c ((lc_le _ _).mpr q))] at h
      refine E_lconst (1 : Int64) dX3_joined_146 (by decide) ?_
      refine E_goto 151 dX3_joined_147 (by decide) ?_
      exact E_lv [] rfl (w_X3_joined_151 hs h)
  rw [if_neg c9] at h
  refine E_tabOut 156 dX3_joined_1 (i32_out (x := x0) 2 9 (fun k h1 h2 => by
      rcases (show k = 2 ∨ k = 3 ∨ k = 4 ∨ k = 5 ∨ k = 6 ∨ k = 7 ∨ k = 8 ∨ k = 9 by omega) with rfl | rfl | rfl | rfl | rfl | rfl | rfl | rfl
      · exact c2
      · exact c3
      · exact c4
      · exact c5
      · exact c6
      · exact c7
      · exact c8
      · exact c9
      )) (by decide) ?_
  refine E_lload_n 1 dX3_joined_156 rfl rfl ?_
  refine E_lload_n 2 dX3_joined_157 rfl rfl ?_
  refine E_lcmp dX3_joined_158 ?_
  refine E_if_ne 166 dX3_joined_159 (by decide) (fun c => ?_) (fun c => ?_)
  · rw [if_neg (fun q => c ((lc_eq _ _).mpr q))] at h
    refine E_lconst (0 : Int64) dX3_joined_166 (by decide) ?_
    exact E_lv [] rfl (w_X3_joined_167 hs h)
  · rw [if_pos ((lc_eq _ _).mp c)] at h
    refine E_lconst (1 : Int64) dX3_joined_162 (by decide) ?_
    refine E_goto 167 dX3_joined_163 (by decide) ?_
    exact E_lv [] rfl (w_X3_joined_167 hs h)
def W_X4_init_0 (X : Sx) (l : Launch) (D : Nat) (x0 : Nat) (x1 : Nat) (x2 : Nat) (σ : AH) (r : Option Value) (σ' : AH) : Prop := kd σ x0 = (4, NO 4) ∧ x0 < nx σ ∧ kd σ x1 = (9, NO 9) ∧ x1 < nx σ ∧ 1 ≤ D ∧ (∀ τ1 : AH, τ1 = (aw σ 100 60) → al m_X4_init x0 ∧ (Sh τ1 → Sh (sR τ1 x0 2 (some (nx σ)))) ∧ (∀ τ12 : AH, τ12 = (sR τ1 x0 2 (some (nx σ))) → al m_X4_init x0 ∧ al m_X4_init x0 ∧ (∀ τ21 : AH, τ21 = (aw (sI (sI τ12 x0 3 (-1 : Int32)) x0 4 (-1 : Int32)) 100 360) → al m_X4_init x0 ∧ (Sh τ21 → Sh (sR τ21 x0 5 (some (nx (sI (sI τ12 x0 3 (-1 : Int32)) x0 4 (-1 : Int32)))))) ∧ (∀ τ32 : AH, τ32 = (sR τ21 x0 5 (some (nx (sI (sI τ12 x0 3 (-1 : Int32)) x0 4 (-1 : Int32))))) → (∀ τ39 : AH, τ39 = (aw τ32 100 6) → al m_X4_init x0 ∧ (Sh τ39 → Sh (sR τ39 x0 6 (some (nx τ32)))) ∧ (∀ τ50 : AH, τ50 = (sR τ39 x0 6 (some (nx τ32))) → (∀ τ57 : AH, τ57 = (aw τ50 102 60) → al m_X4_init x0 ∧ (Sh τ57 → Sh (sR τ57 x0 7 (some (nx τ50)))) ∧ (∀ τ68 : AH, τ68 = (sR τ57 x0 7 (some (nx τ50))) → (∀ τ75 : AH, τ75 = (aw τ68 100 60) → al m_X4_init x0 ∧ (Sh τ75 → Sh (sR τ75 x0 8 (some (nx τ68)))) ∧ (∀ τ86 : AH, τ86 = (sR τ75 x0 8 (some (nx τ68))) → al m_X4_init x0 ∧ (Sh τ86 → Sh (sR τ86 x0 0 (some x1))) ∧ (∀ τ95 : AH, τ95 = (sR τ86 x0 0 (some x1)) → al m_X4_init x0 ∧ (Sh τ95 → Sh (sR τ95 x0 1 (some x2))) ∧ (∀ τ104 : AH, τ104 = (sR τ95 x0 1 (some x2)) → (r = none ∧ σ' = τ104)))))))))))))
set_option maxRecDepth 100000 in
theorem w_X4_init_0 {X : Sx} {l : Launch} {D : Nat} {x0 : Nat} {x1 : Nat} {x2 : Nat} {σ : AH} {r : Option Value} {σ' : AH} (h : W_X4_init_0 X l D x0 x1 x2 σ r σ') : E X l m_X4_init D 0 [(0, .ref x0), (1, .ref x1), (2, .ref x2)] [] σ r σ' := by
  unfold W_X4_init_0 at h
  obtain ⟨hkx0, hbx0, h⟩ := h
  obtain ⟨hkx1, hbx1, h⟩ := h
  refine E_aload_n 0 dX4_init_0 rfl rfl ?_
  obtain ⟨g111, h⟩ := h
  refine E_objInit dX4_init_1 mo_X4_3 g111 (Nat.le_of_ble_eq_true rfl) ?_
  refine E_aload_n 0 dX4_init_4 rfl rfl ?_
  refine E_bipush (60 : Int32) dX4_init_5 (by decide) ?_
  refine E_newaI 60 dX4_init_7 ac_int (by decide) (by decide) (by decide) ?_
  obtain ⟨τ1, e2⟩ : ∃ τ : AH, τ = (aw σ 100 60) := ⟨_, rfl⟩
  replace h := h τ1 e2
  rw [← e2]
  have hk4 : kd _ x0 = (4, NO 4) := (congrFun (congrArg kd e2) _).trans ((up_ne _ _ _ (Nat.ne_of_lt hbx0)).trans hkx0)
  have hb5 := Nat.lt_of_lt_of_eq (Nat.lt_succ_of_lt hbx0) (congrArg nx e2).symm
  have hk6 : kd _ x1 = (9, NO 9) := (congrFun (congrArg kd e2) _).trans ((up_ne _ _ _ (Nat.ne_of_lt hbx1)).trans hkx1)
  have hb7 := Nat.lt_of_lt_of_eq (Nat.lt_succ_of_lt hbx1) (congrArg nx e2).symm
  have hk8 : kd _ (nx σ) = (100, 60) := (congrFun (congrArg kd e2) _).trans (up_same _ _ _)
  have hb9 := Nat.lt_of_lt_of_eq (Nat.lt_succ_self _) (congrArg nx e2).symm
  obtain ⟨ga10, h⟩ := h
  obtain ⟨g11, h⟩ := h
  refine E_putR dX4_init_9 fl_X4_9 rfl (Or.inr ⟨rfl, rfl, rfl⟩) hk4 hb5 ga10 g11 ?_
  obtain ⟨τ12, e13⟩ : ∃ τ : AH, τ = (sR τ1 x0 2 (some (nx σ))) := ⟨_, rfl⟩
  replace h := h τ12 e13
  rw [← e13]
  have hk15 : kd _ x0 = (4, NO 4) := (congrFun (congrArg kd e13) _).trans hk4
  have hb16 := Nat.lt_of_lt_of_eq hb5 (congrArg nx e13).symm
  have hk17 : kd _ x1 = (9, NO 9) := (congrFun (congrArg kd e13) _).trans hk6
  have hb18 := Nat.lt_of_lt_of_eq hb7 (congrArg nx e13).symm
  refine E_aload_n 0 dX4_init_12 rfl rfl ?_
  refine E_iconst (-1 : Int32) dX4_init_13 (by decide) ?_
  obtain ⟨ga19, h⟩ := h
  refine E_putI dX4_init_14 fl_X4_15 rfl (Or.inl rfl) hk15 hb16 ga19 rfl rfl ?_
  refine E_aload_n 0 dX4_init_17 rfl rfl ?_
  refine E_iconst (-1 : Int32) dX4_init_18 (by decide) ?_
  obtain ⟨ga20, h⟩ := h
  refine E_putI dX4_init_19 fl_X4_19 rfl (Or.inl rfl) hk15 hb16 ga20 rfl rfl ?_
  refine E_aload_n 0 dX4_init_22 rfl rfl ?_
  refine E_sipush (360 : Int32) dX4_init_23 (by decide) ?_
  refine E_newaI 360 dX4_init_26 ac_int (by decide) (by decide) (by decide) ?_
  obtain ⟨τ21, e22⟩ : ∃ τ : AH, τ = (aw (sI (sI τ12 x0 3 (-1 : Int32)) x0 4 (-1 : Int32)) 100 360) := ⟨_, rfl⟩
  replace h := h τ21 e22
  rw [← e22]
  have hk24 : kd _ x0 = (4, NO 4) := (congrFun (congrArg kd e22) _).trans ((up_ne _ _ _ (Nat.ne_of_lt hb16)).trans hk15)
  have hb25 := Nat.lt_of_lt_of_eq (Nat.lt_succ_of_lt hb16) (congrArg nx e22).symm
  have hk26 : kd _ x1 = (9, NO 9) := (congrFun (congrArg kd e22) _).trans ((up_ne _ _ _ (Nat.ne_of_lt hb18)).trans hk17)
  have hb27 := Nat.lt_of_lt_of_eq (Nat.lt_succ_of_lt hb18) (congrArg nx e22).symm
  have hk28 : kd _ (nx (sI (sI τ12 x0 3 (-1 : Int32)) x0 4 (-1 : Int32))) = (100, 360) := (congrFun (congrArg kd e22) _).trans (up_same _ _ _)
  have hb29 := Nat.lt_of_lt_of_eq (Nat.lt_succ_self _) (congrArg nx e22).symm
  obtain ⟨ga30, h⟩ := h
  obtain ⟨g31, h⟩ := h
  refine E_putR dX4_init_28 fl_X4_22 rfl (Or.inr ⟨rfl, rfl, rfl⟩) hk24 hb25 ga30 g31 ?_
  obtain ⟨τ32, e33⟩ : ∃ τ : AH, τ = (sR τ21 x0 5 (some (nx (sI (sI τ12 x0 3 (-1 : Int32)) x0 4 (-1 : Int32))))) := ⟨_, rfl⟩
  replace h := h τ32 e33
  rw [← e33]
  have hk35 : kd _ x0 = (4, NO 4) := (congrFun (congrArg kd e33) _).trans hk24
  have hb36 := Nat.lt_of_lt_of_eq hb25 (congrArg nx e33).symm
  have hk37 : kd _ x1 = (9, NO 9) := (congrFun (congrArg kd e33) _).trans hk26
  have hb38 := Nat.lt_of_lt_of_eq hb27 (congrArg nx e33).symm
  refine E_aload_n 0 dX4_init_31 rfl rfl ?_
  refine E_bipush (6 : Int32) dX4_init_32 (by decide) ?_
  refine E_newaI 6 dX4_init_34 ac_int (by decide) (by decide) (by decide) ?_
  obtain ⟨τ39, e40⟩ : ∃ τ : AH, τ = (aw τ32 100 6) := ⟨_, rfl⟩
  replace h := h τ39 e40
  rw [← e40]
  have hk42 : kd _ x0 = (4, NO 4) := (congrFun (congrArg kd e40) _).trans ((up_ne _ _ _ (Nat.ne_of_lt hb36)).trans hk35)
  have hb43 := Nat.lt_of_lt_of_eq (Nat.lt_succ_of_lt hb36) (congrArg nx e40).symm
  have hk44 : kd _ x1 = (9, NO 9) := (congrFun (congrArg kd e40) _).trans ((up_ne _ _ _ (Nat.ne_of_lt hb38)).trans hk37)
  have hb45 := Nat.lt_of_lt_of_eq (Nat.lt_succ_of_lt hb38) (congrArg nx e40).symm
  have hk46 : kd _ (nx τ32) = (100, 6) := (congrFun (congrArg kd e40) _).trans (up_same _ _ _)
  have hb47 := Nat.lt_of_lt_of_eq (Nat.lt_succ_self _) (congrArg nx e40).symm
  obtain ⟨ga48, h⟩ := h
  obtain ⟨g49, h⟩ := h
  refine E_putR dX4_init_36 fl_X4_25 rfl (Or.inr ⟨rfl, rfl, rfl⟩) hk42 hb43 ga48 g49 ?_
  obtain ⟨τ50, e51⟩ : ∃ τ : AH, τ = (sR τ39 x0 6 (some (nx τ32))) := ⟨_, rfl⟩
  replace h := h τ50 e51
  rw [← e51]
  have hk53 : kd _ x0 = (4, NO 4) := (congrFun (congrArg kd e51) _).trans hk42
  have hb54 := Nat.lt_of_lt_of_eq hb43 (congrArg nx e51).symm
  have hk55 : kd _ x1 = (9, NO 9) := (congrFun (congrArg kd e51) _).trans hk44
  have hb56 := Nat.lt_of_lt_of_eq hb45 (congrArg nx e51).symm
  refine E_aload_n 0 dX4_init_39 rfl rfl ?_
  refine E_bipush (60 : Int32) dX4_init_40 (by decide) ?_
  refine E_newaL 60 dX4_init_42 ac_long (by decide) (by decide) (by decide) ?_
  obtain ⟨τ57, e58⟩ : ∃ τ : AH, τ = (aw τ50 102 60) := ⟨_, rfl⟩
  replace h := h τ57 e58
  rw [← e58]
  have hk60 : kd _ x0 = (4, NO 4) := (congrFun (congrArg kd e58) _).trans ((up_ne _ _ _ (Nat.ne_of_lt hb54)).trans hk53)
  have hb61 := Nat.lt_of_lt_of_eq (Nat.lt_succ_of_lt hb54) (congrArg nx e58).symm
  have hk62 : kd _ x1 = (9, NO 9) := (congrFun (congrArg kd e58) _).trans ((up_ne _ _ _ (Nat.ne_of_lt hb56)).trans hk55)
  have hb63 := Nat.lt_of_lt_of_eq (Nat.lt_succ_of_lt hb56) (congrArg nx e58).symm
  have hk64 : kd _ (nx τ50) = (102, 60) := (congrFun (congrArg kd e58) _).trans (up_same _ _ _)
  have hb65 := Nat.lt_of_lt_of_eq (Nat.lt_succ_self _) (congrArg nx e58).symm
  obtain ⟨ga66, h⟩ := h
  obtain ⟨g67, h⟩ := h
  refine E_putR dX4_init_44 fl_X4_28 rfl (Or.inr ⟨rfl, rfl, rfl⟩) hk60 hb61 ga66 g67 ?_
  obtain ⟨τ68, e69⟩ : ∃ τ : AH, τ = (sR τ57 x0 7 (some (nx τ50))) := ⟨_, rfl⟩
  replace h := h τ68 e69
  rw [← e69]
  have hk71 : kd _ x0 = (4, NO 4) := (congrFun (congrArg kd e69) _).trans hk60
  have hb72 := Nat.lt_of_lt_of_eq hb61 (congrArg nx e69).symm
  have hk73 : kd _ x1 = (9, NO 9) := (congrFun (congrArg kd e69) _).trans hk62
  have hb74 := Nat.lt_of_lt_of_eq hb63 (congrArg nx e69).symm
  refine E_aload_n 0 dX4_init_47 rfl rfl ?_
  refine E_bipush (60 : Int32) dX4_init_48 (by decide) ?_
  refine E_newaI 60 dX4_init_50 ac_int (by decide) (by decide) (by decide) ?_
  obtain ⟨τ75, e76⟩ : ∃ τ : AH, τ = (aw τ68 100 60) := ⟨_, rfl⟩
  replace h := h τ75 e76
  rw [← e76]
  have hk78 : kd _ x0 = (4, NO 4) := (congrFun (congrArg kd e76) _).trans ((up_ne _ _ _ (Nat.ne_of_lt hb72)).trans hk71)
  have hb79 := Nat.lt_of_lt_of_eq (Nat.lt_succ_of_lt hb72) (congrArg nx e76).symm
  have hk80 : kd _ x1 = (9, NO 9) := (congrFun (congrArg kd e76) _).trans ((up_ne _ _ _ (Nat.ne_of_lt hb74)).trans hk73)
  have hb81 := Nat.lt_of_lt_of_eq (Nat.lt_succ_of_lt hb74) (congrArg nx e76).symm
  have hk82 : kd _ (nx τ68) = (100, 60) := (congrFun (congrArg kd e76) _).trans (up_same _ _ _)
  have hb83 := Nat.lt_of_lt_of_eq (Nat.lt_succ_self _) (congrArg nx e76).symm
  obtain ⟨ga84, h⟩ := h
  obtain ⟨g85, h⟩ := h
  refine E_putR dX4_init_52 fl_X4_32 rfl (Or.inr ⟨rfl, rfl, rfl⟩) hk78 hb79 ga84 g85 ?_
  obtain ⟨τ86, e87⟩ : ∃ τ : AH, τ = (sR τ75 x0 8 (some (nx τ68))) := ⟨_, rfl⟩
  replace h := h τ86 e87
  rw [← e87]
  have hk89 : kd _ x0 = (4, NO 4) := (congrFun (congrArg kd e87) _).trans hk78
  have hb90 := Nat.lt_of_lt_of_eq hb79 (congrArg nx e87).symm
  have hk91 : kd _ x1 = (9, NO 9) := (congrFun (congrArg kd e87) _).trans hk80
  have hb92 := Nat.lt_of_lt_of_eq hb81 (congrArg nx e87).symm
  refine E_aload_n 0 dX4_init_55 rfl rfl ?_
  refine E_aload_n 1 dX4_init_56 rfl rfl ?_
  obtain ⟨ga93, h⟩ := h
  obtain ⟨g94, h⟩ := h
  refine E_putR dX4_init_57 fl_X4_35 rfl (Or.inr ⟨rfl, rfl, rfl⟩) hk89 hb90 ga93 g94 ?_
  obtain ⟨τ95, e96⟩ : ∃ τ : AH, τ = (sR τ86 x0 0 (some x1)) := ⟨_, rfl⟩
  replace h := h τ95 e96
  rw [← e96]
  have hk98 : kd _ x0 = (4, NO 4) := (congrFun (congrArg kd e96) _).trans hk89
  have hb99 := Nat.lt_of_lt_of_eq hb90 (congrArg nx e96).symm
  have hk100 : kd _ x1 = (9, NO 9) := (congrFun (congrArg kd e96) _).trans hk91
  have hb101 := Nat.lt_of_lt_of_eq hb92 (congrArg nx e96).symm
  refine E_aload_n 0 dX4_init_60 rfl rfl ?_
  refine E_aload_n 2 dX4_init_61 rfl rfl ?_
  obtain ⟨ga102, h⟩ := h
  obtain ⟨g103, h⟩ := h
  refine E_putR dX4_init_62 fl_X4_39 rfl (Or.inr ⟨rfl, rfl, rfl⟩) hk98 hb99 ga102 g103 ?_
  obtain ⟨τ104, e105⟩ : ∃ τ : AH, τ = (sR τ95 x0 1 (some x2)) := ⟨_, rfl⟩
  replace h := h τ104 e105
  rw [← e105]
  have hk107 : kd _ x0 = (4, NO 4) := (congrFun (congrArg kd e105) _).trans hk98
  have hb108 := Nat.lt_of_lt_of_eq hb99 (congrArg nx e105).symm
  have hk109 : kd _ x1 = (9, NO 9) := (congrFun (congrArg kd e105) _).trans hk100
  have hb110 := Nat.lt_of_lt_of_eq hb101 (congrArg nx e105).symm
  obtain ⟨rfl, rfl⟩ := h
  exact E_vret dX4_init_65 rfl
def W_X4_join_17 (X : Sx) (l : Launch) (D : Nat) (x1 : Int32) (x2 : Int32) (σ : AH) (r : Option Value) (σ' : AH) : Prop := E X l m_X4_join D 29 [(0, .ref 113), (1, .int x1), (3, .int (0 : Int32))] [] (sI (sI σ 113 3 x1) 113 4 x2) r σ'
set_option maxRecDepth 100000 in
theorem w_X4_join_17 {X : Sx} {l : Launch} {D : Nat} {x1 : Int32} {x2 : Int32} {σ : AH} {r : Option Value} {σ' : AH} (hs : Sh σ) (h : W_X4_join_17 X l D x1 x2 σ r σ') : E X l m_X4_join D 17 [(0, .ref 113), (1, .int x1), (2, .int x2)] [] σ r σ' := by
  unfold W_X4_join_17 at h
  refine E_aload_n 0 dX4_join_17 rfl rfl ?_
  refine E_iload_n 1 dX4_join_18 rfl rfl ?_
  refine E_putI dX4_join_19 fl_X4_15 rfl (Or.inl rfl) (sk_113 hs) (sn hs (by decide)) (Or.inl (by decide)) rfl rfl ?_
  refine E_aload_n 0 dX4_join_22 rfl rfl ?_
  refine E_iload_n 2 dX4_join_23 rfl rfl ?_
  refine E_putI dX4_join_24 fl_X4_19 rfl (Or.inl rfl) (sk_113 hs) (sn hs (by decide)) (Or.inl (by decide)) rfl rfl ?_
  refine E_iconst (0 : Int32) dX4_join_27 (by decide) ?_
  refine E_istore_n [(3, .int (0 : Int32)), (0, .ref 113), (1, .int x1), (2, .int x2)] dX4_join_28 rfl (by decide) rfl ?_
  exact E_lv [1, 2, 0] rfl h
def W_X4_join_0 (X : Sx) (l : Launch) (D : Nat) (x1 : Int32) (x2 : Int32) (σ : AH) (r : Option Value) (σ' : AH) : Prop := (if (gI σ 113 3) = x1 then (if (gI σ 113 4) = x2 then (r = none ∧ σ' = σ) else W_X4_join_17 X l D x1 x2 σ r σ') else W_X4_join_17 X l D x1 x2 σ r σ')
set_option maxRecDepth 100000 in
theorem w_X4_join_0 {X : Sx} {l : Launch} {D : Nat} {x1 : Int32} {x2 : Int32} {σ : AH} {r : Option Value} {σ' : AH} (hs : Sh σ) (h : W_X4_join_0 X l D x1 x2 σ r σ') : E X l m_X4_join D 0 [(0, .ref 113), (1, .int x1), (2, .int x2)] [] σ r σ' := by
  unfold W_X4_join_0 at h
  refine E_aload_n 0 dX4_join_0 rfl rfl ?_
  refine E_getI dX4_join_1 fl_X4_15 rfl (sk_113 hs) (sn hs (by decide)) ?_
  refine E_iload_n 1 dX4_join_4 rfl rfl ?_
  refine E_icmp_ne 17 dX4_join_5 (by decide) (fun c => ?_) (fun c => ?_)
  · rw [if_neg c] at h
    exact E_lv [0, 1, 2] rfl (w_X4_join_17 hs h)
  · rw [if_pos c] at h
    refine E_aload_n 0 dX4_join_8 rfl rfl ?_
    refine E_getI dX4_join_9 fl_X4_19 rfl (sk_113 hs) (sn hs (by decide)) ?_
    refine E_iload_n 2 dX4_join_12 rfl rfl ?_
    refine E_icmp_ne 17 dX4_join_13 (by decide) (fun c => ?_) (fun c => ?_)
    · rw [if_neg c] at h
      exact E_lv [0, 1, 2] rfl (w_X4_join_17 hs h)
    · rw [if_pos c] at h
      obtain ⟨rfl, rfl⟩ := h
      exact E_vret dX4_join_16 rfl
def W_X4_join_70 (X : Sx) (l : Launch) (D : Nat) (x1 : Int32) (x3 : Int32) (y0 : Int32) (y1 : Int32) (σ : AH) (r : Option Value) (σ' : AH) : Prop := vp_in y1 60 ∧ E X l m_X4_join D 74 [(0, .ref 113), (1, .int x1), (3, .int x3), (4, .int (0 : Int32))] [] (sI σ 114 y1.toNatClampNeg y0) r σ'
set_option maxRecDepth 100000 in
theorem w_X4_join_70 {X : Sx} {l : Launch} {D : Nat} {x1 : Int32} {x3 : Int32} {y0 : Int32} {y1 : Int32} {σ : AH} {r : Option Value} {σ' : AH} (hs : Sh σ) (h : W_X4_join_70 X l D x1 x3 y0 y1 σ r σ') : E X l m_X4_join D 70 [(0, .ref 113), (1, .int x1), (3, .int x3)] [.int y0, .int y1, .ref 114] σ r σ' := by
  unfold W_X4_join_70 at h
  obtain ⟨g13, h⟩ := h
  refine E_iast2 (y1.toNatClampNeg) dX4_join_70 (sk_114 hs) (sn hs (by decide)) (Or.inl (by decide)) g13 rfl ?_
  refine E_iconst (0 : Int32) dX4_join_71 (by decide) ?_
  refine E_istore [(4, .int (0 : Int32)), (0, .ref 113), (1, .int x1), (3, .int x3)] dX4_join_72 (by decide) rfl ?_
  exact E_lv [1, 2, 3, 0] rfl h
def W_X4_join_29 (X : Sx) (l : Launch) (D : Nat) (x1 : Int32) (x3 : Int32) (σ : AH) (r : Option Value) (σ' : AH) : Prop := ∃ d1 : Nat, ∃ v6 : Int32, ∃ σ2 : AH, d1 + 1 ≤ D ∧ Call X l m_X8_rows d1 [.ref 13] σ (some (.int v6)) σ2 ∧ (if v6 ≤ x3 then (r = none ∧ σ' = σ2) else ∃ d7 : Nat, ∃ v12 : Int32, ∃ σ8 : AH, d7 + 1 ≤ D ∧ Call X l m_X8_at d7 [.ref 13, .int x3, .int (6 : Int32)] σ2 (some (.int v12)) σ8 ∧ (if x1 < v12 then W_X4_join_70 X l D x1 x3 (-1 : Int32) x3 σ8 r σ' else W_X4_join_70 X l D x1 x3 x3 x3 σ8 r σ'))
set_option maxRecDepth 100000 in
theorem w_X4_join_29 {X : Sx} {l : Launch} {D : Nat} {x1 : Int32} {x3 : Int32} {σ : AH} {r : Option Value} {σ' : AH} (hs : Sh σ) (h : W_X4_join_29 X l D x1 x3 σ r σ') : E X l m_X4_join D 29 [(0, .ref 113), (1, .int x1), (3, .int x3)] [] σ r σ' := by
  unfold W_X4_join_29 at h
  refine E_iload_n 2 dX4_join_29 rfl rfl ?_
  refine E_aload_n 0 dX4_join_30 rfl rfl ?_
  refine E_getR 1 dX4_join_31 fl_X4_35 rfl (sk_113 hs) (sn hs (by decide)) (sr_113_0 hs) ?_
  refine E_getR 13 dX4_join_34 fl_X4_43 rfl (sk_1 hs) (sn hs (by decide)) (sr_1_7 hs) ?_
  obtain ⟨d1, v6, σ2, hD3, hC4, h⟩ := h
  have hs5 := hC4.1.2.2.2.1 hs
  refine E_callV (As := []) (rest := [.int x3]) (r1 := (some (.int v6))) (b := 13) dX4_join_37 ok_X8_rows in_X8_rows se_X8_rows ml_X4_49 hD3 rfl rfl (Nat.le_of_ble_eq_true rfl) (sk_13 hs) (sn hs (by decide)) (by decide) rfl (by decide +kernel) hC4 ?_
  refine E_icmp_ge 157 dX4_join_40 (by decide) (fun c => ?_) (fun c => ?_)
  · rw [if_pos c] at h
    obtain ⟨rfl, rfl⟩ := h
    exact E_vret dX4_join_157 rfl
  · rw [if_neg c] at h
    refine E_aload_n 0 dX4_join_43 rfl rfl ?_
    refine E_getR 114 dX4_join_44 fl_X4_9 rfl (sk_113 hs5) (sn hs5 (by decide)) (sr_113_2 hs5) ?_
    refine E_iload_n 2 dX4_join_47 rfl rfl ?_
    refine E_aload_n 0 dX4_join_48 rfl rfl ?_
    refine E_getR 1 dX4_join_49 fl_X4_35 rfl (sk_113 hs5) (sn hs5 (by decide)) (sr_113_0 hs5) ?_
    refine E_getR 13 dX4_join_52 fl_X4_43 rfl (sk_1 hs5) (sn hs5 (by decide)) (sr_1_7 hs5) ?_
    refine E_iload_n 2 dX4_join_55 rfl rfl ?_
    refine E_bipush (6 : Int32) dX4_join_56 (by decide) ?_
    obtain ⟨d7, v12, σ8, hD9, hC10, h⟩ := h
    have hs11 := hC10.1.2.2.2.1 hs5
    refine E_callV (As := [.int x3, .int (6 : Int32)]) (rest := [.int x3, .ref 114]) (r1 := (some (.int v12))) (b := 13) dX4_join_58 ok_X8_at in_X8_at se_X8_at ml_X4_55 hD9 rfl rfl (Nat.le_of_ble_eq_true rfl) (sk_13 hs5) (sn hs5 (by decide)) (by decide) rfl (by decide +kernel) hC10 ?_
    refine E_iload_n 1 dX4_join_61 rfl rfl ?_
    refine E_icmp_gt 69 dX4_join_62 (by decide) (fun c => ?_) (fun c => ?_)
    · rw [if_pos c] at h
      refine E_iconst (-1 : Int32) dX4_join_69 (by decide) ?_
      exact E_lv [0, 1, 2] rfl (w_X4_join_70 hs11 h)
    · rw [if_neg c] at h
      refine E_iload_n 2 dX4_join_65 rfl rfl ?_
      refine E_goto 70 dX4_join_66 (by decide) ?_
      exact E_lv [0, 1, 2] rfl (w_X4_join_70 hs11 h)
def W_X4_join_145 (X : Sx) (l : Launch) (D : Nat) (x1 : Int32) (x3 : Int32) (x4 : Int32) (σ : AH) (r : Option Value) (σ' : AH) : Prop := E X l m_X4_join D 74 [(0, .ref 113), (1, .int x1), (3, .int x3), (4, .int (x4 + 1))] [] σ r σ'
set_option maxRecDepth 100000 in
theorem w_X4_join_145 {X : Sx} {l : Launch} {D : Nat} {x1 : Int32} {x3 : Int32} {x4 : Int32} {σ : AH} {r : Option Value} {σ' : AH} (hs : Sh σ) (h : W_X4_join_145 X l D x1 x3 x4 σ r σ') : E X l m_X4_join D 145 [(0, .ref 113), (1, .int x1), (3, .int x3), (4, .int x4)] [] σ r σ' := by
  unfold W_X4_join_145 at h
  refine E_iinc 3 (x4 + 1) [(4, .int (x4 + 1)), (0, .ref 113), (1, .int x1), (3, .int x3)] dX4_join_145 rfl (congrArg (x4 + ·) (by decide : Int32.ofInt 1 = 1)) (by decide) rfl ?_
  refine E_goto 74 dX4_join_148 (by decide) ?_
  exact E_lv [1, 2, 3, 0] rfl h
def W_X4_join_151 (X : Sx) (l : Launch) (D : Nat) (x1 : Int32) (x3 : Int32) (σ : AH) (r : Option Value) (σ' : AH) : Prop := E X l m_X4_join D 29 [(0, .ref 113), (1, .int x1), (3, .int (x3 + 1))] [] σ r σ'
set_option maxRecDepth 100000 in
theorem w_X4_join_151 {X : Sx} {l : Launch} {D : Nat} {x1 : Int32} {x3 : Int32} {σ : AH} {r : Option Value} {σ' : AH} (hs : Sh σ) (h : W_X4_join_151 X l D x1 x3 σ r σ') : E X l m_X4_join D 151 [(0, .ref 113), (1, .int x1), (3, .int x3)] [] σ r σ' := by
  unfold W_X4_join_151 at h
  refine E_iinc 2 (x3 + 1) [(3, .int (x3 + 1)), (0, .ref 113), (1, .int x1)] dX4_join_151 rfl (congrArg (x3 + ·) (by decide : Int32.ofInt 1 = 1)) (by decide) rfl ?_
  refine E_goto 29 dX4_join_154 (by decide) ?_
  exact E_lv [1, 2, 0] rfl h
def W_X4_join_74 (X : Sx) (l : Launch) (D : Nat) (x1 : Int32) (x3 : Int32) (x4 : Int32) (σ : AH) (r : Option Value) (σ' : AH) : Prop := (if x3 ≤ x4 then W_X4_join_151 X l D x1 x3 σ r σ' else vp_in x3 60 ∧ (if (gI σ 114 x3.toNatClampNeg) = (-1 : Int32) then W_X4_join_151 X l D x1 x3 σ r σ' else vp_in x4 60 ∧ (if (gI σ 114 x4.toNatClampNeg) = (-1 : Int32) then W_X4_join_145 X l D x1 x3 x4 σ r σ' else vp_in x4 60 ∧ vp_in x3 60 ∧ (if (gI σ 114 x4.toNatClampNeg) = (gI σ 114 x3.toNatClampNeg) then W_X4_join_145 X l D x1 x3 x4 σ r σ' else ∃ d18 : Nat, ∃ v23 : Int32, ∃ σ19 : AH, d18 + 1 ≤ D ∧ Call X l m_X4_isAlike d18 [.ref 113, .int x3, .int x4] σ (some (.int v23)) σ19 ∧ (if v23 = 0 then W_X4_join_145 X l D x1 x3 x4 σ19 r σ' else vp_in x4 60 ∧ vp_in x3 60 ∧ ∃ d26 : Nat, ∃ σ27 : AH, d26 + 1 ≤ D ∧ Call X l m_X4_makeOne d26 [.ref 113, .int (gI σ19 114 x4.toNatClampNeg), .int (gI σ19 114 x3.toNatClampNeg), .int x3] σ19 none σ27 ∧ W_X4_join_145 X l D x1 x3 x4 σ27 r σ')))))
set_option maxRecDepth 100000 in
theorem w_X4_join_74 {X : Sx} {l : Launch} {D : Nat} {x1 : Int32} {x3 : Int32} {x4 : Int32} {σ : AH} {r : Option Value} {σ' : AH} (hs : Sh σ) (h : W_X4_join_74 X l D x1 x3 x4 σ r σ') : E X l m_X4_join D 74 [(0, .ref 113), (1, .int x1), (3, .int x3), (4, .int x4)] [] σ r σ' := by
  unfold W_X4_join_74 at h
  refine E_iload 3 dX4_join_74 rfl ?_
  refine E_iload_n 2 dX4_join_76 rfl rfl ?_
  refine E_icmp_ge 151 dX4_join_77 (by decide) (fun c => ?_) (fun c => ?_)
  · rw [if_pos c] at h
    exact E_lv [0, 1, 2] rfl (w_X4_join_151 hs h)
  · rw [if_neg c] at h
    refine E_aload_n 0 dX4_join_80 rfl rfl ?_
    refine E_getR 114 dX4_join_81 fl_X4_9 rfl (sk_113 hs) (sn hs (by decide)) (sr_113_2 hs) ?_
    refine E_iload_n 2 dX4_join_84 rfl rfl ?_
    obtain ⟨g14, h⟩ := h
    refine E_iald2 (x3.toNatClampNeg) dX4_join_85 (sk_114 hs) (sn hs (by decide)) g14 rfl ?_
    refine E_iconst (-1 : Int32) dX4_join_86 (by decide) ?_
    refine E_icmp_eq 151 dX4_join_87 (by decide) (fun c => ?_) (fun c => ?_)
    · rw [if_pos c] at h
      exact E_lv [0, 1, 2] rfl (w_X4_join_151 hs h)
    · rw [if_neg c] at h
      refine E_aload_n 0 dX4_join_90 rfl rfl ?_
      refine E_getR 114 dX4_join_91 fl_X4_9 rfl (sk_113 hs) (sn hs (by decide)) (sr_113_2 hs) ?_
      refine E_iload 3 dX4_join_94 rfl ?_
      obtain ⟨g15, h⟩ := h
      refine E_iald2 (x4.toNatClampNeg) dX4_join_96 (sk_114 hs) (sn hs (by decide)) g15 rfl ?_
      refine E_iconst (-1 : Int32) dX4_join_97 (by decide) ?_
      refine E_icmp_eq 145 dX4_join_98 (by decide) (fun c => ?_) (fun c => ?_)
      · rw [if_pos c] at h
        exact E_lv [0, 1, 2, 3] rfl (w_X4_join_145 hs h)
      · rw [if_neg c] at h
        refine E_aload_n 0 dX4_join_101 rfl rfl ?_
        refine E_getR 114 dX4_join_102 fl_X4_9 rfl (sk_113 hs) (sn hs (by decide)) (sr_113_2 hs) ?_
        refine E_iload 3 dX4_join_105 rfl ?_
        obtain ⟨g16, h⟩ := h
        refine E_iald2 (x4.toNatClampNeg) dX4_join_107 (sk_114 hs) (sn hs (by decide)) g16 rfl ?_
        refine E_aload_n 0 dX4_join_108 rfl rfl ?_
        refine E_getR 114 dX4_join_109 fl_X4_9 rfl (sk_113 hs) (sn hs (by decide)) (sr_113_2 hs) ?_
        refine E_iload_n 2 dX4_join_112 rfl rfl ?_
        obtain ⟨g17, h⟩ := h
        refine E_iald2 (x3.toNatClampNeg) dX4_join_113 (sk_114 hs) (sn hs (by decide)) g17 rfl ?_
        refine E_icmp_eq 145 dX4_join_114 (by decide) (fun c => ?_) (fun c => ?_)
        · rw [if_pos c] at h
          exact E_lv [0, 1, 2, 3] rfl (w_X4_join_145 hs h)
        · rw [if_neg c] at h
          refine E_aload_n 0 dX4_join_117 rfl rfl ?_
          refine E_iload_n 2 dX4_join_118 rfl rfl ?_
          refine E_iload 3 dX4_join_119 rfl ?_
          obtain ⟨d18, v23, σ19, hD20, hC21, h⟩ := h
          have hs22 := hC21.1.2.2.2.1 hs
          refine E_callV (As := [.int x3, .int x4]) (rest := []) (r1 := (some (.int v23))) (b := 113) dX4_join_121 ok_X4_isAlike in_X4_isAlike se_X4_isAlike ml_X4_59 hD20 rfl rfl (Nat.le_of_ble_eq_true rfl) (sk_113 hs) (sn hs (by decide)) (by decide) rfl (by decide +kernel) hC21 ?_
          refine E_if_eq 145 dX4_join_124 (by decide) (fun c => ?_) (fun c => ?_)
          · rw [if_pos c] at h
            exact E_lv [0, 1, 2, 3] rfl (w_X4_join_145 hs22 h)
          · rw [if_neg c] at h
            refine E_aload_n 0 dX4_join_127 rfl rfl ?_
            refine E_aload_n 0 dX4_join_128 rfl rfl ?_
            refine E_getR 114 dX4_join_129 fl_X4_9 rfl (sk_113 hs22) (sn hs22 (by decide)) (sr_113_2 hs22) ?_
            refine E_iload 3 dX4_join_132 rfl ?_
            obtain ⟨g24, h⟩ := h
            refine E_iald2 (x4.toNatClampNeg) dX4_join_134 (sk_114 hs22) (sn hs22 (by decide)) g24 rfl ?_
            refine E_aload_n 0 dX4_join_135 rfl rfl ?_
            refine E_getR 114 dX4_join_136 fl_X4_9 rfl (sk_113 hs22) (sn hs22 (by decide)) (sr_113_2 hs22) ?_
            refine E_iload_n 2 dX4_join_139 rfl rfl ?_
            obtain ⟨g25, h⟩ := h
            refine E_iald2 (x3.toNatClampNeg) dX4_join_140 (sk_114 hs22) (sn hs22 (by decide)) g25 rfl ?_
            refine E_iload_n 2 dX4_join_141 rfl rfl ?_
            obtain ⟨d26, σ27, hD28, hC29, h⟩ := h
            have hs30 := hC29.1.2.2.2.1 hs22
            refine E_callV (As := [.int (gI σ19 114 x4.toNatClampNeg), .int (gI σ19 114 x3.toNatClampNeg), .int x3]) (rest := []) (r1 := none) (b := 113) dX4_join_142 ok_X4_makeOne in_X4_makeOne se_X4_makeOne ml_X4_63 hD28 rfl rfl (Nat.le_of_ble_eq_true rfl) (sk_113 hs22) (sn hs22 (by decide)) (by decide) rfl (by decide +kernel) hC29 ?_
            exact E_lv [0, 1, 2, 3] rfl (w_X4_join_145 hs30 h)
def W_X4_makeOne_0 (X : Sx) (l : Launch) (D : Nat) (x1 : Int32) (x2 : Int32) (x3 : Int32) (σ : AH) (r : Option Value) (σ' : AH) : Prop := 1 ≤ D ∧ E X l m_X4_makeOne D 10 [(0, .ref 113), (1, .int x1), (2, .int x2), (3, .int x3), (4, .int (imin x1 x2)), (5, .int (0 : Int32))] [] σ r σ'
set_option maxRecDepth 100000 in
theorem w_X4_makeOne_0 {X : Sx} {l : Launch} {D : Nat} {x1 : Int32} {x2 : Int32} {x3 : Int32} {σ : AH} {r : Option Value} {σ' : AH} (hs : Sh σ) (h : W_X4_makeOne_0 X l D x1 x2 x3 σ r σ') : E X l m_X4_makeOne D 0 [(0, .ref 113), (1, .int x1), (2, .int x2), (3, .int x3)] [] σ r σ' := by
  unfold W_X4_makeOne_0 at h
  refine E_iload_n 1 dX4_makeOne_0 rfl rfl ?_
  refine E_iload_n 2 dX4_makeOne_1 rfl rfl ?_
  obtain ⟨g1, h⟩ := h
  refine E_mmin dX4_makeOne_2 mm_X4_67 g1 (Nat.le_of_ble_eq_true rfl) ?_
  refine E_istore [(4, .int (imin x1 x2)), (0, .ref 113), (1, .int x1), (2, .int x2), (3, .int x3)] dX4_makeOne_5 (by decide) rfl ?_
  refine E_iconst (0 : Int32) dX4_makeOne_7 (by decide) ?_
  refine E_istore [(5, .int (0 : Int32)), (4, .int (imin x1 x2)), (0, .ref 113), (1, .int x1), (2, .int x2), (3, .int x3)] dX4_makeOne_8 (by decide) rfl ?_
  exact E_lv [2, 3, 4, 5, 1, 0] rfl h
def W_X4_makeOne_47 (X : Sx) (l : Launch) (D : Nat) (x1 : Int32) (x2 : Int32) (x3 : Int32) (x4 : Int32) (x5 : Int32) (σ : AH) (r : Option Value) (σ' : AH) : Prop := E X l m_X4_makeOne D 10 [(0, .ref 113), (1, .int x1), (2, .int x2), (3, .int x3), (4, .int x4), (5, .int (x5 + 1))] [] σ r σ'
set_option maxRecDepth 100000 in
theorem w_X4_makeOne_47 {X : Sx} {l : Launch} {D : Nat} {x1 : Int32} {x2 : Int32} {x3 : Int32} {x4 : Int32} {x5 : Int32} {σ : AH} {r : Option Value} {σ' : AH} (hs : Sh σ) (h : W_X4_makeOne_47 X l D x1 x2 x3 x4 x5 σ r σ') : E X l m_X4_makeOne D 47 [(0, .ref 113), (1, .int x1), (2, .int x2), (3, .int x3), (4, .int x4), (5, .int x5)] [] σ r σ' := by
  unfold W_X4_makeOne_47 at h
  refine E_iinc 5 (x5 + 1) [(5, .int (x5 + 1)), (0, .ref 113), (1, .int x1), (2, .int x2), (3, .int x3), (4, .int x4)] dX4_makeOne_47 rfl (congrArg (x5 + ·) (by decide : Int32.ofInt 1 = 1)) (by decide) rfl ?_
  refine E_goto 10 dX4_makeOne_50 (by decide) ?_
  exact E_lv [1, 2, 3, 4, 5, 0] rfl h
def W_X4_makeOne_38 (X : Sx) (l : Launch) (D : Nat) (x1 : Int32) (x2 : Int32) (x3 : Int32) (x4 : Int32) (x5 : Int32) (σ : AH) (r : Option Value) (σ' : AH) : Prop := vp_in x5 60 ∧ W_X4_makeOne_47 X l D x1 x2 x3 x4 x5 (sI σ 114 x5.toNatClampNeg x4) r σ'
set_option maxRecDepth 100000 in
theorem w_X4_makeOne_38 {X : Sx} {l : Launch} {D : Nat} {x1 : Int32} {x2 : Int32} {x3 : Int32} {x4 : Int32} {x5 : Int32} {σ : AH} {r : Option Value} {σ' : AH} (hs : Sh σ) (h : W_X4_makeOne_38 X l D x1 x2 x3 x4 x5 σ r σ') : E X l m_X4_makeOne D 38 [(0, .ref 113), (1, .int x1), (2, .int x2), (3, .int x3), (4, .int x4), (5, .int x5)] [] σ r σ' := by
  unfold W_X4_makeOne_38 at h
  refine E_aload_n 0 dX4_makeOne_38 rfl rfl ?_
  refine E_getR 114 dX4_makeOne_39 fl_X4_9 rfl (sk_113 hs) (sn hs (by decide)) (sr_113_2 hs) ?_
  refine E_iload 5 dX4_makeOne_42 rfl ?_
  refine E_iload 4 dX4_makeOne_44 rfl ?_
  obtain ⟨g4, h⟩ := h
  refine E_iast2 (x5.toNatClampNeg) dX4_makeOne_46 (sk_114 hs) (sn hs (by decide)) (Or.inl (by decide)) g4 rfl ?_
  exact E_lv [0, 1, 2, 3, 4, 5] rfl (w_X4_makeOne_47 hs h)
def W_X4_makeOne_10 (X : Sx) (l : Launch) (D : Nat) (x1 : Int32) (x2 : Int32) (x3 : Int32) (x4 : Int32) (x5 : Int32) (σ : AH) (r : Option Value) (σ' : AH) : Prop := (if x3 < x5 then (r = none ∧ σ' = σ) else vp_in x5 60 ∧ (if (gI σ 114 x5.toNatClampNeg) = x1 then W_X4_makeOne_38 X l D x1 x2 x3 x4 x5 σ r σ' else vp_in x5 60 ∧ (if (gI σ 114 x5.toNatClampNeg) = x2 then W_X4_makeOne_38 X l D x1 x2 x3 x4 x5 σ r σ' else W_X4_makeOne_47 X l D x1 x2 x3 x4 x5 σ r σ')))
set_option maxRecDepth 100000 in
theorem w_X4_makeOne_10 {X : Sx} {l : Launch} {D : Nat} {x1 : Int32} {x2 : Int32} {x3 : Int32} {x4 : Int32} {x5 : Int32} {σ : AH} {r : Option Value} {σ' : AH} (hs : Sh σ) (h : W_X4_makeOne_10 X l D x1 x2 x3 x4 x5 σ r σ') : E X l m_X4_makeOne D 10 [(0, .ref 113), (1, .int x1), (2, .int x2), (3, .int x3), (4, .int x4), (5, .int x5)] [] σ r σ' := by
  unfold W_X4_makeOne_10 at h
  refine E_iload 5 dX4_makeOne_10 rfl ?_
  refine E_iload_n 3 dX4_makeOne_12 rfl rfl ?_
  refine E_icmp_gt 53 dX4_makeOne_13 (by decide) (fun c => ?_) (fun c => ?_)
  · rw [if_pos c] at h
    obtain ⟨rfl, rfl⟩ := h
    exact E_vret dX4_makeOne_53 rfl
  · rw [if_neg c] at h
    refine E_aload_n 0 dX4_makeOne_16 rfl rfl ?_
    refine E_getR 114 dX4_makeOne_17 fl_X4_9 rfl (sk_113 hs) (sn hs (by decide)) (sr_113_2 hs) ?_
    refine E_iload 5 dX4_makeOne_20 rfl ?_
    obtain ⟨g2, h⟩ := h
    refine E_iald2 (x5.toNatClampNeg) dX4_makeOne_22 (sk_114 hs) (sn hs (by decide)) g2 rfl ?_
    refine E_iload_n 1 dX4_makeOne_23 rfl rfl ?_
    refine E_icmp_eq 38 dX4_makeOne_24 (by decide) (fun c => ?_) (fun c => ?_)
    · rw [if_pos c] at h
      exact E_lv [0, 1, 2, 3, 4, 5] rfl (w_X4_makeOne_38 hs h)
    · rw [if_neg c] at h
      refine E_aload_n 0 dX4_makeOne_27 rfl rfl ?_
      refine E_getR 114 dX4_makeOne_28 fl_X4_9 rfl (sk_113 hs) (sn hs (by decide)) (sr_113_2 hs) ?_
      refine E_iload 5 dX4_makeOne_31 rfl ?_
      obtain ⟨g3, h⟩ := h
      refine E_iald2 (x5.toNatClampNeg) dX4_makeOne_33 (sk_114 hs) (sn hs (by decide)) g3 rfl ?_
      refine E_iload_n 2 dX4_makeOne_34 rfl rfl ?_
      refine E_icmp_ne 47 dX4_makeOne_35 (by decide) (fun c => ?_) (fun c => ?_)
      · rw [if_neg c] at h
        exact E_lv [0, 1, 2, 3, 4, 5] rfl (w_X4_makeOne_47 hs h)
      · rw [if_pos c] at h
        exact E_lv [0, 1, 2, 3, 4, 5] rfl (w_X4_makeOne_38 hs h)
